/-! ===== symbolic steps within a frame ===== -/
abbrev sL : Type := List (Nat × sT)
noncomputable def dL (X : pX) (ρ : sR) (lv : sL) : pL := lv.map (fun q => (q.1, sv X ρ q.2))
noncomputable def dS (X : pX) (ρ : sR) (st : List sT) : List Value := st.map (sv X ρ)
noncomputable def sget (lv : sL) (i : Nat) : Option sT := match lv.find? (fun q => q.1 == i) with
  | some q => some q.2
  | none => none
theorem sget_ok {X : pX} {ρ : sR} {lv : sL} {i : Nat} {t : sT} (h : sget lv i = some t) : pm_get (dL X ρ lv) i = some (sv X ρ t) := by
  unfold sget at h
  unfold pm_get dL
  rw [List.find?_map]
  split at h
  · next q hq =>
    cases h
    have e : lv.find? ((fun q : Nat × Value => q.1 == i) ∘ fun q => (q.1, sv X ρ q.2)) = some q := hq
    rw [e]
    rfl
  · cases h
noncomputable def sset1 (lv : sL) (i : Nat) (v : sT) : sL := (i, v) :: lv.filter (fun q => !(q.1 == i) && !(q.1 + 1 == i && sk q.2 == 1))
noncomputable def sset2 (lv : sL) (i : Nat) (v : sT) : sL := (i, v) :: lv.filter (fun q => !(q.1 == i) && (!(q.1 == i + 1) && !(q.1 + 1 == i && sk q.2 == 1)))
theorem scat2 (X : pX) (ρ : sR) (t : sT) : ((sv X ρ t).category == 2) = (sk t == 1) := by
  rw [sv_cat]
  by_cases h : sk t = 1
  · rw [if_pos h, h]; rfl
  · rw [if_neg h]
    simp [h]
theorem sset1_ok (X : pX) (ρ : sR) (lv : sL) (i : Nat) (v : sT) : pm_set1 (dL X ρ lv) i (sv X ρ v) = dL X ρ (sset1 lv i v) := by
  unfold pm_set1 dL sset1
  rw [List.filter_map, List.map_cons]
  congr 2
  apply List.filter_congr
  intro q _
  simp only [Function.comp, scat2]
theorem sset2_ok (X : pX) (ρ : sR) (lv : sL) (i : Nat) (v : sT) : pm_set2 (dL X ρ lv) i (sv X ρ v) = dL X ρ (sset2 lv i v) := by
  unfold pm_set2 dL sset2
  rw [List.filter_map, List.map_cons]
  congr 2
  apply List.filter_congr
  intro q _
  simp only [Function.comp, scat2]
abbrev sJ : Type := (sL × List sT × Option Int) ⊕ sQ
noncomputable def sjb (F : sFs) (lv : sL) (r : List sT) (c : Bool × sQ) (off : Int) : sJ := match sdec F c.2 with
  | some b => .inl (lv, r, pm_br (c.1 != b) off)
  | none => .inr c.2
noncomputable def sld (k : Nat) (lv : sL) (st : List sT) (i : Nat) : Option sJ := match sget lv i with
  | some t => if sk t = k then some (.inl (lv, t :: st, none)) else none
  | none => none
noncomputable def sald (lv : sL) (st : List sT) (i : Nat) : Option sJ := match sget lv i with
  | some t => match t with
    | .index _ => some (.inl (lv, t :: st, none))
    | .string _ _ => some (.inl (lv, t :: st, none))
    | _ => none
  | none => none
noncomputable def sst1 (nL : Nat) (lv : sL) (st : List sT) (i : Nat) : Option sJ := match st with
  | t :: r => if sk t = 0 ∧ i < nL then some (.inl (sset1 lv i t, r, none)) else none
  | _ => none
noncomputable def sst2 (nL : Nat) (lv : sL) (st : List sT) (i : Nat) : Option sJ := match st with
  | t :: r => if sk t = 1 ∧ i + 1 < nL then some (.inl (sset2 lv i t, r, none)) else none
  | _ => none
noncomputable def sast (nL : Nat) (lv : sL) (st : List sT) (i : Nat) : Option sJ := match st with
  | t :: r => if i < nL then match t with
    | .index _ => some (.inl (sset1 lv i t, r, none))
    | .string _ _ => some (.inl (sset1 lv i t, r, none))
    | _ => none
    else none
  | _ => none
noncomputable def siinc (nL : Nat) (lv : sL) (st : List sT) (i : Nat) (n : Int) : Option sJ := match sget lv i with
  | some t => if sk t = 0 ∧ i < nL then some (.inl (sset1 lv i (mkA 0 t (.int (Int32.ofInt n))), st, none)) else none
  | none => none
/-- two operands off the stack, of these kinds -/
theorem i_and {x m : Int32} {k : Nat} (hk : m.toInt = 2 ^ k - 1) (h0 : 0 ≤ x.toInt) (h1 : x.toInt ≤ m.toInt) : x &&& m = x := by
  have hp : (0 : Int) < 2 ^ k := Int.pow_pos (by omega)
  have ep : ((2 : Int) ^ k) = ((2 ^ k : Nat) : Int) := by simp
  have hmx : x.toBitVec.msb = false := by
    rw [BitVec.msb_eq_toInt]
    exact decide_eq_false (Int.not_lt.mpr h0)
  have hmm : m.toBitVec.msb = false := by
    rw [BitVec.msb_eq_toInt]
    exact decide_eq_false (Int.not_lt.mpr (show 0 ≤ m.toInt by omega))
  have ex : x.toInt = x.toBitVec.toNat := BitVec.toInt_eq_toNat_of_msb hmx
  have em : m.toInt = m.toBitVec.toNat := BitVec.toInt_eq_toNat_of_msb hmm
  apply Int32.toBitVec_inj.mp
  apply BitVec.eq_of_toNat_eq
  rw [Int32.toBitVec_and, BitVec.toNat_and]
  have e1 : m.toBitVec.toNat = 2 ^ k - 1 := by omega
  rw [e1, Nat.and_two_pow_sub_one_eq_mod, Nat.mod_eq_of_lt]
  omega
/-- and: a number that is small enough stays as it is -/
noncomputable def mkN (F : sFs) (a b : sT) : sT := match b with
  | .int m => if sk a = 0 ∧ (0 ≤ (sivl F a).1 ∧ (sivl F a).2 ≤ m.toInt) ∧ (List.range 31).any (fun k => decide (m.toInt = 2 ^ k - 1)) = true then a else mk2 .iand a (.int m)
  | b => mk2 .iand a b
theorem mkN_i {X : pX} {ρ : sR} {F : sFs} (hF : fok X ρ F) {a b : sT} : sv X ρ (mkN F a b) = .int (s2 .iand (sd X ρ a) (sd X ρ b)).1 := by
  unfold mkN
  split
  · next m =>
    split
    · next hc =>
      obtain ⟨h1, ⟨h2, h3⟩, h4⟩ := hc
      obtain ⟨k, -, hk⟩ := List.any_eq_true.mp h4
      have hk := of_decide_eq_true hk
      have hx := sivl_ok hF a
      rw [sn_i h1] at hx
      rw [sv_int h1]
      show _ = Value.int ((sd X ρ a).1 &&& m)
      rw [i_and hk (by omega) (by omega)]
    · exact mk2_i rfl
  · exact mk2_i rfl
noncomputable def sb2 (ka kb : Nat) (mk : sT → sT → sT) (lv : sL) (st : List sT) : Option sJ := match st with
  | b :: a :: r => if sk a = ka ∧ sk b = kb then some (.inl (lv, mk a b :: r, none)) else none
  | _ => none
noncomputable def sz2 (F : sFs) (k lg : Nat) (z : sT) (mk : sT → sT → sT) (lv : sL) (st : List sT) : Option sJ := match st with
  | b :: a :: r => if sk a = k ∧ sk b = k then match sdec F (lg, b, z) with
    | some false => some (.inl (lv, mk a b :: r, none))
    | some true => none
    | none => some (.inr (lg, b, z))
    else none
  | _ => none
noncomputable def sb1 (k : Nat) (mk : sT → sT) (lv : sL) (st : List sT) : Option sJ := match st with
  | a :: r => if sk a = k then some (.inl (lv, mk a :: r, none)) else none
  | _ => none
noncomputable def sdup (lv : sL) (st : List sT) : Option sJ := match st with
  | v :: r => if sk v = 1 then none else some (.inl (lv, v :: v :: r, none))
  | _ => none
noncomputable def spop (lv : sL) (st : List sT) : Option sJ := match st with
  | v :: r => if sk v = 1 then none else some (.inl (lv, r, none))
  | _ => none
noncomputable def sdup2 (lv : sL) (st : List sT) : Option sJ := match st with
  | v :: w :: r => if sk v = 1 then some (.inl (lv, v :: v :: w :: r, none)) else if sk w = 1 then none else some (.inl (lv, v :: w :: v :: w :: r, none))
  | v :: r => if sk v = 1 then some (.inl (lv, v :: v :: r, none)) else none
  | _ => none
noncomputable def sif (F : sFs) (cnd : Jvm.ClassFile.Cond) (off : Int) (lv : sL) (st : List sT) : Option sJ := match st with
  | x :: r => if sk x = 0 then (match x with
    | .op2 .lcmp a b => some (sjb F lv r (scn cnd 6 a b) off)
    | x => some (sjb F lv r (scn cnd 0 x (.int 0)) off)) else none
  | _ => none
noncomputable def sicmp (F : sFs) (cnd : Jvm.ClassFile.Cond) (off : Int) (lv : sL) (st : List sT) : Option sJ := match st with
  | y :: x :: r => if sk x = 0 ∧ sk y = 0 then some (sjb F lv r (scn cnd 0 x y) off) else none
  | _ => none
noncomputable def stgo (F : sFs) (x : sT) (dflt lo : Int) : List Int → Nat → Int ⊕ sQ
  | [], _ => .inl dflt
  | o :: os, k => match sdec F (0, x, .int (Int32.ofInt (lo + k))) with
    | some true => .inl o
    | some false => stgo F x dflt lo os (k + 1)
    | none => .inr (0, x, .int (Int32.ofInt (lo + k)))
noncomputable def stsw (F : sFs) (dflt lo hi : Int) (offs : List Int) (lv : sL) (st : List sT) : Option sJ := match st with
  | x :: r => if sk x = 0 then match sC1 x with
    | some p => if p.1.toInt < lo ∨ hi < p.1.toInt then some (.inl (lv, r, some dflt)) else match offs[(p.1.toInt - lo).toNat]? with
      | some o => some (.inl (lv, r, some o))
      | none => none
    | none => if (offs.length : Int) = hi - lo + 1 ∧ -2147483648 ≤ lo ∧ hi ≤ 2147483647 then match stgo F x dflt lo offs 0 with
      | .inl o => some (.inl (lv, r, some o))
      | .inr c => some (.inr c)
      else none
    else none
  | _ => none
noncomputable def slgo (F : sFs) (x : sT) (dflt : Int) : List (Int × Int) → Int ⊕ sQ
  | [] => .inl dflt
  | q :: qs => match sdec F (0, x, .int (Int32.ofInt q.1)) with
    | some true => .inl q.2
    | some false => slgo F x dflt qs
    | none => .inr (0, x, .int (Int32.ofInt q.1))
noncomputable def slsw (F : sFs) (dflt : Int) (ps : List (Int × Int)) (lv : sL) (st : List sT) : Option sJ := match st with
  | x :: r => if sk x = 0 ∧ (ps.zip (ps.drop 1)).all (fun (a, next) => a.1 < next.1) = true ∧ ps.all (fun q => decide (-2147483648 ≤ q.1) && decide (q.1 ≤ 2147483647)) = true then match slgo F x dflt ps with
    | .inl o => some (.inl (lv, r, some o))
    | .inr c => some (.inr c)
    else none
  | _ => none
noncomputable def slop (F : sFs) (nL : Nat) (ins : Instr) (lv : sL) (st : List sT) : Option sJ := match ins with
  | .iconst n => some (.inl (lv, .int (Int32.ofInt n) :: st, none))
  | .bipush n => some (.inl (lv, .int (Int8.ofInt n).toInt32 :: st, none))
  | .sipush n => some (.inl (lv, .int (Int16.ofInt n).toInt32 :: st, none))
  | .lconst n => some (.inl (lv, .long (Int64.ofNat n) :: st, none))
  | .iload_n k => sld 0 lv st k
  | .iload i => sld 0 lv st i
  | .lload_n k => sld 1 lv st k
  | .lload i => sld 1 lv st i
  | .aload_n k => sald lv st k
  | .aload i => sald lv st i
  | .istore_n k => sst1 nL lv st k
  | .istore i => sst1 nL lv st i
  | .lstore_n k => sst2 nL lv st k
  | .lstore i => sst2 nL lv st i
  | .astore_n k => sast nL lv st k
  | .astore i => sast nL lv st i
  | .iinc i n => siinc nL lv st i n
  | .iadd => sb2 0 0 (mkA 0) lv st
  | .isub => sb2 0 0 (mkA 1) lv st
  | .imul => sb2 0 0 (mkA 2) lv st
  | .iand => sb2 0 0 (mkN F) lv st
  | .ior => sb2 0 0 (mk2 .ior) lv st
  | .ixor => sb2 0 0 (mk2 .ixor) lv st
  | .ishl => sb2 0 0 (mk2 .ishl) lv st
  | .ishr => sb2 0 0 (mk2 .ishr) lv st
  | .iushr => sb2 0 0 (mk2 .iushr) lv st
  | .idiv => sz2 F 0 0 (.int 0) (mkA 3) lv st
  | .irem => sz2 F 0 0 (.int 0) (mkA 4) lv st
  | .ineg => sb1 0 (mk1 .ineg) lv st
  | .i2b => sb1 0 (mk1 .i2b) lv st
  | .i2s => sb1 0 (mk1 .i2s) lv st
  | .i2l => sb1 0 (mk1 .i2l) lv st
  | .l2i => sb1 1 (mk1 .l2i) lv st
  | .ladd => sb2 1 1 (mk2 .ladd) lv st
  | .lsub => sb2 1 1 (mk2 .lsub) lv st
  | .lmul => sb2 1 1 (mk2 .lmul) lv st
  | .land => sb2 1 1 (mk2 .land) lv st
  | .lor => sb2 1 1 (mk2 .lor) lv st
  | .lxor => sb2 1 1 (mk2 .lxor) lv st
  | .ldiv => sz2 F 1 6 (.long 0) (mk2 .ldiv) lv st
  | .lneg => sb1 1 (mk1 .lneg) lv st
  | .lshl => sb2 1 0 (mk2 .lshl) lv st
  | .lshr => sb2 1 0 (mk2 .lshr) lv st
  | .lushr => sb2 1 0 (mk2 .lushr) lv st
  | .lcmp => sb2 1 1 (mk2 .lcmp) lv st
  | .dup => sdup lv st
  | .pop => spop lv st
  | .dup2 => sdup2 lv st
  | .ifCond cnd off => sif F cnd off lv st
  | .if_icmp cnd off => sicmp F cnd off lv st
  | .goto off => some (.inl (lv, st, some off))
  | .tableswitch dflt lo hi offs => stsw F dflt lo hi offs.toList lv st
  | .lookupswitch dflt ps => slsw F dflt ps.toList lv st
  | _ => none
section SLOP
variable {X : pX} {ρ : sR} {F : sFs} {nL : Nat} {lv lv' : sL} {st st' : List sT} {j : Option Int}
theorem sld0_ok {i : Nat} (h : sld 0 lv st i = some (.inl (lv', st', j))) : pm_iload (dL X ρ lv) (dS X ρ st) i = some (dL X ρ lv', dS X ρ st', j) := by
  unfold sld at h
  split at h
  · next t ht =>
    split at h
    · next hk =>
      cases h
      unfold pm_iload
      rw [sget_ok ht, sv_int hk]
      show some _ = some (_, sv X ρ t :: _, _)
      rw [sv_int hk]; rfl
    · cases h
  · cases h
theorem sld1_ok {i : Nat} (h : sld 1 lv st i = some (.inl (lv', st', j))) : pm_lload (dL X ρ lv) (dS X ρ st) i = some (dL X ρ lv', dS X ρ st', j) := by
  unfold sld at h
  split at h
  · next t ht =>
    split at h
    · next hk =>
      cases h
      unfold pm_lload
      rw [sget_ok ht, sv_long hk]
      show some _ = some (_, sv X ρ t :: _, _)
      rw [sv_long hk]; rfl
    · cases h
  · cases h
theorem sald_ok {i : Nat} (h : sald lv st i = some (.inl (lv', st', j))) : pm_aload (dL X ρ lv) (dS X ρ st) i = some (dL X ρ lv', dS X ρ st', j) := by
  unfold sald at h
  split at h
  · next t ht =>
    unfold pm_aload
    rw [sget_ok ht]
    split at h
    · cases h; rfl
    · cases h; rfl
    · cases h
  · cases h
theorem sst1_ok {i : Nat} (h : sst1 nL lv st i = some (.inl (lv', st', j))) : pm_istore nL (dL X ρ lv) (dS X ρ st) i = some (dL X ρ lv', dS X ρ st', j) := by
  unfold sst1 at h
  split at h
  · next t r =>
    split at h
    · next hk =>
      cases h
      show pm_istore nL (dL X ρ lv) (sv X ρ t :: dS X ρ _) i = _
      rw [← sset1_ok, sv_int hk.1]
      simp only [pm_istore]
      rw [if_pos hk.2]
    · cases h
  · cases h
theorem sst2_ok {i : Nat} (h : sst2 nL lv st i = some (.inl (lv', st', j))) : pm_lstore nL (dL X ρ lv) (dS X ρ st) i = some (dL X ρ lv', dS X ρ st', j) := by
  unfold sst2 at h
  split at h
  · next t r =>
    split at h
    · next hk =>
      cases h
      show pm_lstore nL (dL X ρ lv) (sv X ρ t :: dS X ρ _) i = _
      rw [← sset2_ok, sv_long hk.1]
      simp only [pm_lstore]
      rw [if_pos hk.2]
    · cases h
  · cases h
theorem sast_ok {i : Nat} (h : sast nL lv st i = some (.inl (lv', st', j))) : pm_astore nL (dL X ρ lv) (dS X ρ st) i = some (dL X ρ lv', dS X ρ st', j) := by
  unfold sast at h
  split at h
  · next t r =>
    split at h
    · next hi =>
      split at h
      · cases h
        rw [← sset1_ok]
        show (if i < nL then _ else _) = _
        rw [if_pos hi]; rfl
      · cases h
        rw [← sset1_ok]
        show (if i < nL then _ else _) = _
        rw [if_pos hi]; rfl
      · cases h
    · cases h
  · cases h
theorem siinc_ok {i : Nat} {n : Int} (h : siinc nL lv st i n = some (.inl (lv', st', j))) : pm_iinc nL (dL X ρ lv) (dS X ρ st) i n = some (dL X ρ lv', dS X ρ st', j) := by
  unfold siinc at h
  split at h
  · next t ht =>
    split at h
    · next hk =>
      cases h
      unfold pm_iinc
      rw [sget_ok ht, sv_int hk.1, ← sset1_ok, mkA_i]
      show (if i < nL then _ else _) = _
      rw [if_pos hk.2]; rfl
    · cases h
  · cases h
theorem sb2_ii {mk : sT → sT → sT} {f : Int32 → Int32 → Int32} (hm : ∀ a b : sT, sv X ρ (mk a b) = .int (f (sd X ρ a).1 (sd X ρ b).1)) (h : sb2 0 0 mk lv st = some (.inl (lv', st', j))) : pm_ii f (dL X ρ lv) (dS X ρ st) = some (dL X ρ lv', dS X ρ st', j) := by
  unfold sb2 at h
  split at h
  · next b a r =>
    split at h
    · next hk =>
      cases h
      show pm_ii f _ (sv X ρ b :: sv X ρ a :: dS X ρ r) = some (_, sv X ρ (mk a b) :: dS X ρ r, _)
      rw [sv_int hk.1, sv_int hk.2, hm]
      rfl
    · cases h
  · cases h
theorem sb2_ll {mk : sT → sT → sT} {f : Int64 → Int64 → Int64} (hm : ∀ a b : sT, sv X ρ (mk a b) = .long (f (sd X ρ a).2 (sd X ρ b).2)) (h : sb2 1 1 mk lv st = some (.inl (lv', st', j))) : pm_ll f (dL X ρ lv) (dS X ρ st) = some (dL X ρ lv', dS X ρ st', j) := by
  unfold sb2 at h
  split at h
  · next b a r =>
    split at h
    · next hk =>
      cases h
      show pm_ll f _ (sv X ρ b :: sv X ρ a :: dS X ρ r) = some (_, sv X ρ (mk a b) :: dS X ρ r, _)
      rw [sv_long hk.1, sv_long hk.2, hm]
      rfl
    · cases h
  · cases h
theorem sb2_li {mk : sT → sT → sT} {f : Int64 → Int32 → Int64} (hm : ∀ a b : sT, sv X ρ (mk a b) = .long (f (sd X ρ a).2 (sd X ρ b).1)) (h : sb2 1 0 mk lv st = some (.inl (lv', st', j))) : pm_li f (dL X ρ lv) (dS X ρ st) = some (dL X ρ lv', dS X ρ st', j) := by
  unfold sb2 at h
  split at h
  · next b a r =>
    split at h
    · next hk =>
      cases h
      show pm_li f _ (sv X ρ b :: sv X ρ a :: dS X ρ r) = some (_, sv X ρ (mk a b) :: dS X ρ r, _)
      rw [sv_long hk.1, sv_int hk.2, hm]
      rfl
    · cases h
  · cases h
theorem sb2_cmp (h : sb2 1 1 (mk2 .lcmp) lv st = some (.inl (lv', st', j))) : pm_lcmp (dL X ρ lv) (dS X ρ st) = some (dL X ρ lv', dS X ρ st', j) := by
  unfold sb2 at h
  split at h
  · next b a r =>
    split at h
    · next hk =>
      cases h
      show pm_lcmp _ (sv X ρ b :: sv X ρ a :: dS X ρ r) = some (_, sv X ρ (mk2 .lcmp a b) :: dS X ρ r, _)
      rw [sv_long hk.1, sv_long hk.2, mk2_i rfl]
      rfl
    · cases h
  · cases h
theorem sz2_iz (hF : fok X ρ F) {mk : sT → sT → sT} {f : Int32 → Int32 → Int32} (hm : ∀ a b : sT, sv X ρ (mk a b) = .int (f (sd X ρ a).1 (sd X ρ b).1)) (h : sz2 F 0 0 (.int 0) mk lv st = some (.inl (lv', st', j))) : pm_iz f (dL X ρ lv) (dS X ρ st) = some (dL X ρ lv', dS X ρ st', j) := by
  unfold sz2 at h
  split at h
  · next b a r =>
    split at h
    · next hk =>
      split at h
      · next hd =>
        cases h
        have h0 := sdec_ok hF hd
        have h1 : ¬ (sd X ρ b).1 = 0 := of_decide_eq_false h0
        show pm_iz f _ (sv X ρ b :: sv X ρ a :: dS X ρ r) = some (_, sv X ρ (mk a b) :: dS X ρ r, _)
        rw [sv_int hk.1, sv_int hk.2, hm]
        simp only [pm_iz]
        rw [if_neg h1]
      · cases h
      · cases h
    · cases h
  · cases h
theorem sz2_lz (hF : fok X ρ F) {mk : sT → sT → sT} {f : Int64 → Int64 → Int64} (hm : ∀ a b : sT, sv X ρ (mk a b) = .long (f (sd X ρ a).2 (sd X ρ b).2)) (h : sz2 F 1 6 (.long 0) mk lv st = some (.inl (lv', st', j))) : pm_lz f (dL X ρ lv) (dS X ρ st) = some (dL X ρ lv', dS X ρ st', j) := by
  unfold sz2 at h
  split at h
  · next b a r =>
    split at h
    · next hk =>
      split at h
      · next hd =>
        cases h
        have h0 := sdec_ok hF hd
        have h1 : ¬ (sd X ρ b).2 = 0 := of_decide_eq_false h0
        show pm_lz f _ (sv X ρ b :: sv X ρ a :: dS X ρ r) = some (_, sv X ρ (mk a b) :: dS X ρ r, _)
        rw [sv_long hk.1, sv_long hk.2, hm]
        simp only [pm_lz]
        rw [if_neg h1]
      · cases h
      · cases h
    · cases h
  · cases h
theorem sb1_i1 {mk : sT → sT} {f : Int32 → Int32} (hm : ∀ a : sT, sv X ρ (mk a) = .int (f (sd X ρ a).1)) (h : sb1 0 mk lv st = some (.inl (lv', st', j))) : pm_i1 f (dL X ρ lv) (dS X ρ st) = some (dL X ρ lv', dS X ρ st', j) := by
  unfold sb1 at h
  split at h
  · next a r =>
    split at h
    · next hk =>
      cases h
      show pm_i1 f _ (sv X ρ a :: dS X ρ r) = some (_, sv X ρ (mk a) :: dS X ρ r, _)
      rw [sv_int hk, hm]
      rfl
    · cases h
  · cases h
theorem sb1_l1 {mk : sT → sT} {f : Int64 → Int64} (hm : ∀ a : sT, sv X ρ (mk a) = .long (f (sd X ρ a).2)) (h : sb1 1 mk lv st = some (.inl (lv', st', j))) : pm_l1 f (dL X ρ lv) (dS X ρ st) = some (dL X ρ lv', dS X ρ st', j) := by
  unfold sb1 at h
  split at h
  · next a r =>
    split at h
    · next hk =>
      cases h
      show pm_l1 f _ (sv X ρ a :: dS X ρ r) = some (_, sv X ρ (mk a) :: dS X ρ r, _)
      rw [sv_long hk, hm]
      rfl
    · cases h
  · cases h
theorem sb1_i2l (h : sb1 0 (mk1 .i2l) lv st = some (.inl (lv', st', j))) : pm_i2l (dL X ρ lv) (dS X ρ st) = some (dL X ρ lv', dS X ρ st', j) := by
  unfold sb1 at h
  split at h
  · next a r =>
    split at h
    · next hk =>
      cases h
      show pm_i2l _ (sv X ρ a :: dS X ρ r) = some (_, sv X ρ (mk1 .i2l a) :: dS X ρ r, _)
      rw [sv_int hk, mk1_l rfl]
      rfl
    · cases h
  · cases h
theorem sb1_l2i (h : sb1 1 (mk1 .l2i) lv st = some (.inl (lv', st', j))) : pm_l2i (dL X ρ lv) (dS X ρ st) = some (dL X ρ lv', dS X ρ st', j) := by
  unfold sb1 at h
  split at h
  · next a r =>
    split at h
    · next hk =>
      cases h
      show pm_l2i _ (sv X ρ a :: dS X ρ r) = some (_, sv X ρ (mk1 .l2i a) :: dS X ρ r, _)
      rw [sv_long hk, mk1_i rfl]
      rfl
    · cases h
  · cases h
theorem sdup_ok (h : sdup lv st = some (.inl (lv', st', j))) : pm_dup (dL X ρ lv) (dS X ρ st) = some (dL X ρ lv', dS X ρ st', j) := by
  unfold sdup at h
  split at h
  · next v r =>
    split at h
    · cases h
    · next hk =>
      cases h
      show (if (sv X ρ v).category = 1 then _ else _) = _
      rw [sv_cat, if_neg hk, if_pos rfl]; rfl
  · cases h
theorem spop_ok (h : spop lv st = some (.inl (lv', st', j))) : pm_pop (dL X ρ lv) (dS X ρ st) = some (dL X ρ lv', dS X ρ st', j) := by
  unfold spop at h
  split at h
  · next v r =>
    split at h
    · cases h
    · next hk =>
      cases h
      show (if (sv X ρ v).category = 1 then _ else _) = _
      rw [sv_cat, if_neg hk, if_pos rfl]; rfl
  · cases h
theorem sdup2_ok (h : sdup2 lv st = some (.inl (lv', st', j))) : pm_dup2 (dL X ρ lv) (dS X ρ st) = some (dL X ρ lv', dS X ρ st', j) := by
  unfold sdup2 at h
  split at h
  · next v w r =>
    split at h
    · next hk =>
      cases h
      show (if (sv X ρ v).category = 2 then _ else _) = _
      rw [sv_cat, if_pos hk, if_pos rfl]; rfl
    · next hk =>
      split at h
      · cases h
      · next hw =>
        cases h
        show (if (sv X ρ v).category = 2 then _ else if (sv X ρ w).category = 1 then _ else _) = _
        rw [sv_cat, sv_cat, if_neg hk, if_neg (by decide), if_neg hw, if_pos rfl]; rfl
  · next v r hne =>
    split at h
    · next hk =>
      cases h
      cases r with
      | nil =>
        show (if (sv X ρ v).category = 2 then _ else _) = _
        rw [sv_cat, if_pos hk, if_pos rfl]; rfl
      | cons w r => exact absurd rfl (hne w r)
    · cases h
  · cases h
theorem sjb_ok (hF : fok X ρ F) {r : List sT} {c : Bool × sQ} {off : Int} {b : Bool} (hb : b = (c.1 != sc X ρ c.2)) (h : sjb F lv r c off = .inl (lv', st', j)) : lv' = lv ∧ st' = r ∧ j = pm_br b off := by
  unfold sjb at h
  split at h
  · next v hv =>
    have h1 := sdec_ok hF hv
    cases h
    rw [hb, h1]
    exact ⟨rfl, rfl, rfl⟩
  · cases h
theorem pm_c12 (cnd : Jvm.ClassFile.Cond) (x : Int32) : pm_c1 cnd x = pm_c2 cnd x 0 := by cases cnd <;> rfl
theorem sif_ok (hF : fok X ρ F) {cnd : Jvm.ClassFile.Cond} {off : Int} (h : sif F cnd off lv st = some (.inl (lv', st', j))) : pm_if cnd off (dL X ρ lv) (dS X ρ st) = some (dL X ρ lv', dS X ρ st', j) := by
  unfold sif at h
  split at h
  · next x r =>
    split at h
    · next hk =>
      show pm_if cnd off _ (sv X ρ x :: dS X ρ r) = _
      rw [sv_int hk]
      split at h
      · next a b =>
        obtain ⟨rfl, rfl, rfl⟩ := sjb_ok (X := X) (ρ := ρ) hF (b := pm_l2 cnd (sd X ρ a).2 (sd X ρ b).2) (scl_ok X ρ cnd a b) (Option.some.inj h)
        show some (_, _, pm_br (pm_c1 cnd (lg_cmp (sd X ρ a).2 (sd X ρ b).2)) off) = _
        rw [pm_l2_ok]
      · obtain ⟨rfl, rfl, rfl⟩ := sjb_ok (X := X) (ρ := ρ) hF (scn_ok X ρ cnd x (.int 0)) (Option.some.inj h)
        show some (_, _, pm_br (pm_c1 cnd (sd X ρ x).1) off) = _
        rw [pm_c12]
        rfl
    · cases h
  · cases h
theorem sicmp_ok (hF : fok X ρ F) {cnd : Jvm.ClassFile.Cond} {off : Int} (h : sicmp F cnd off lv st = some (.inl (lv', st', j))) : pm_icmp cnd off (dL X ρ lv) (dS X ρ st) = some (dL X ρ lv', dS X ρ st', j) := by
  unfold sicmp at h
  split at h
  · next y x r =>
    split at h
    · next hk =>
      show pm_icmp cnd off _ (sv X ρ y :: sv X ρ x :: dS X ρ r) = _
      rw [sv_int hk.1, sv_int hk.2]
      obtain ⟨rfl, rfl, rfl⟩ := sjb_ok (X := X) (ρ := ρ) hF (scn_ok X ρ cnd x y) (Option.some.inj h)
      rfl
    · cases h
  · cases h
theorem s_ofInt {z : Int} (h1 : -2147483648 ≤ z) (h2 : z ≤ 2147483647) : (Int32.ofInt z).toInt = z := by
  rw [Int32.toInt_ofInt, show Int32.size = 4294967296 from rfl]
  exact Int.bmod_eq_of_le (by omega) (by omega)
theorem stgo_ok (hF : fok X ρ F) {x : sT} {dflt lo : Int} : ∀ (offs : List Int) (k : Nat) (o : Int), -2147483648 ≤ lo + k → lo + k + offs.length ≤ 2147483648 → stgo F x dflt lo offs k = .inl o → (∃ i : Nat, (sd X ρ x).1.toInt = lo + k + i ∧ offs[i]? = some o) ∨ (o = dflt ∧ ∀ i : Nat, i < offs.length → (sd X ρ x).1.toInt ≠ lo + k + i)
  | [], k, o, _, _, h => by
    cases h
    exact Or.inr ⟨rfl, fun i hi => by cases hi⟩
  | q :: qs, k, o, h1, h2, h => by
    simp only [List.length_cons] at h2
    have e1 : (Int32.ofInt (lo + k)).toInt = lo + k := s_ofInt (by omega) (by omega)
    unfold stgo at h
    split at h
    · next hd =>
      have h3 : (sd X ρ x).1 = Int32.ofInt (lo + k) := of_decide_eq_true (sdec_ok hF hd)
      cases h
      exact Or.inl ⟨0, by rw [h3, e1]; simp, rfl⟩
    · next hd =>
      have h3 : ¬ (sd X ρ x).1 = Int32.ofInt (lo + k) := of_decide_eq_false (sdec_ok hF hd)
      have h4 : (sd X ρ x).1.toInt ≠ lo + k := fun h5 => h3 (Int32.toInt_inj.mp (by rw [h5, e1]))
      rcases stgo_ok hF qs (k + 1) o (by omega) (by omega) h with ⟨i, h5, h6⟩ | ⟨h5, h6⟩
      · exact Or.inl ⟨i + 1, by omega, by simpa using h6⟩
      · refine Or.inr ⟨h5, fun i hi => ?_⟩
        cases i with
        | zero => simpa using h4
        | succ i =>
          have := h6 i (by simpa using hi)
          omega
    · cases h
theorem stsw_ok (hF : fok X ρ F) {dflt lo hi : Int} {offs : List Int} (h : stsw F dflt lo hi offs lv st = some (.inl (lv', st', j))) : pm_tsw dflt lo hi offs (dL X ρ lv) (dS X ρ st) = some (dL X ρ lv', dS X ρ st', j) := by
  unfold stsw at h
  split at h
  · next x r =>
    split at h
    · next hk =>
      show pm_tsw dflt lo hi offs _ (sv X ρ x :: dS X ρ r) = _
      rw [sv_int hk]
      simp only [pm_tsw]
      split at h
      · next p hp =>
        rw [sC1_ok hp]
        split at h
        · next hq => cases h; rw [if_pos hq]
        · next hq =>
          rw [if_neg hq]
          split at h
          · next o ho => cases h; rw [ho]
          · cases h
      · split at h
        · next hq =>
          split at h
          · next o ho =>
            cases h
            rcases stgo_ok (X := X) (ρ := ρ) hF offs 0 o (by omega) (by omega) ho with ⟨i, h5, h6⟩ | ⟨h5, h6⟩
            · have hi2 := (List.getElem?_eq_some_iff.mp h6).1
              rw [if_neg (by omega), show ((sd X ρ x).1.toInt - lo).toNat = i by omega, h6]
            · rw [h5, if_pos ?_]
              refine Classical.byContradiction fun hn => ?_
              have h7 := h6 ((sd X ρ x).1.toInt - lo).toNat (by omega)
              omega
          · cases h
        · cases h
    · cases h
  · cases h
theorem slgo_ok (hF : fok X ρ F) {x : sT} {dflt : Int} : ∀ (ps : List (Int × Int)) (o : Int), ps.all (fun q => decide (-2147483648 ≤ q.1) && decide (q.1 ≤ 2147483647)) = true → slgo F x dflt ps = .inl o → Op.lookupswitch.offset ps dflt (sd X ρ x).1.toInt = o
  | [], o, _, h => by cases h; rfl
  | q :: qs, o, h1, h => by
    simp only [List.all_cons, Bool.and_eq_true, decide_eq_true_eq] at h1
    have e1 : (Int32.ofInt q.1).toInt = q.1 := s_ofInt h1.1.1 h1.1.2
    rw [show q :: qs = (q.1, q.2) :: qs from rfl, Op.lookupswitch.offset_cons]
    unfold slgo at h
    split at h
    · next hd =>
      have h3 : (sd X ρ x).1 = Int32.ofInt q.1 := of_decide_eq_true (sdec_ok hF hd)
      cases h
      rw [if_pos (by rw [h3, e1])]
    · next hd =>
      have h3 : ¬ (sd X ρ x).1 = Int32.ofInt q.1 := of_decide_eq_false (sdec_ok hF hd)
      rw [if_neg (fun h5 => h3 (Int32.toInt_inj.mp (by rw [← h5, e1])))]
      exact slgo_ok hF qs o h1.2 h
    · cases h
theorem slsw_ok (hF : fok X ρ F) {dflt : Int} {ps : List (Int × Int)} (h : slsw F dflt ps lv st = some (.inl (lv', st', j))) : pm_lsw dflt ps (dL X ρ lv) (dS X ρ st) = some (dL X ρ lv', dS X ρ st', j) := by
  unfold slsw at h
  split at h
  · next x r =>
    split at h
    · next hk =>
      split at h
      · next o ho =>
        cases h
        show pm_lsw dflt ps _ (sv X ρ x :: dS X ρ _) = _
        rw [sv_int hk.1]
        simp only [pm_lsw]
        rw [if_pos hk.2.1, slgo_ok (X := X) (ρ := ρ) hF ps o hk.2.2 ho]
      · cases h
    · cases h
  · cases h
theorem slop_ok (hF : fok X ρ F) {ins : Instr} (h : slop F nL ins lv st = some (.inl (lv', st', j))) : pm_lop nL ins (dL X ρ lv) (dS X ρ st) = some (dL X ρ lv', dS X ρ st', j) := by
  cases ins <;> simp only [slop] at h
  case iconst => cases h; rfl
  case bipush => cases h; rfl
  case sipush => cases h; rfl
  case lconst => cases h; rfl
  case iload_n => exact sld0_ok h
  case iload => exact sld0_ok h
  case lload_n => exact sld1_ok h
  case lload => exact sld1_ok h
  case aload_n => exact sald_ok h
  case aload => exact sald_ok h
  case istore_n => exact sst1_ok h
  case istore => exact sst1_ok h
  case lstore_n => exact sst2_ok h
  case lstore => exact sst2_ok h
  case astore_n => exact sast_ok h
  case astore => exact sast_ok h
  case iinc => exact siinc_ok h
  case iadd => exact sb2_ii (fun a b => mkA_i) h
  case isub => exact sb2_ii (fun a b => mkA_i) h
  case imul => exact sb2_ii (fun a b => mkA_i) h
  case iand => exact sb2_ii (fun a b => mkN_i hF) h
  case ior => exact sb2_ii (fun a b => mk2_i rfl) h
  case ixor => exact sb2_ii (fun a b => mk2_i rfl) h
  case ishl => exact sb2_ii (fun a b => mk2_i rfl) h
  case ishr => exact sb2_ii (fun a b => mk2_i rfl) h
  case iushr => exact sb2_ii (fun a b => mk2_i rfl) h
  case idiv => exact sz2_iz hF (fun a b => mkA_i) h
  case irem => exact sz2_iz hF (fun a b => mkA_i) h
  case ineg => exact sb1_i1 (fun a => mk1_i rfl) h
  case i2b => exact sb1_i1 (fun a => mk1_i rfl) h
  case i2s => exact sb1_i1 (fun a => mk1_i rfl) h
  case i2l => exact sb1_i2l h
  case l2i => exact sb1_l2i h
  case ladd => exact sb2_ll (fun a b => mk2_l rfl) h
  case lsub => exact sb2_ll (fun a b => mk2_l rfl) h
  case lmul => exact sb2_ll (fun a b => mk2_l rfl) h
  case land => exact sb2_ll (fun a b => mk2_l rfl) h
  case lor => exact sb2_ll (fun a b => mk2_l rfl) h
  case lxor => exact sb2_ll (fun a b => mk2_l rfl) h
  case ldiv => exact sz2_lz hF (fun a b => mk2_l rfl) h
  case lneg => exact sb1_l1 (fun a => mk1_l rfl) h
  case lshl => exact sb2_li (fun a b => mk2_l rfl) h
  case lshr => exact sb2_li (fun a b => mk2_l rfl) h
  case lushr => exact sb2_li (fun a b => mk2_l rfl) h
  case lcmp => exact sb2_cmp h
  case dup => exact sdup_ok h
  case pop => exact spop_ok h
  case dup2 => exact sdup2_ok h
  case ifCond => exact sif_ok hF h
  case if_icmp => exact sicmp_ok hF h
  case goto => cases h; rfl
  case tableswitch => exact stsw_ok hF h
  case lookupswitch => exact slsw_ok hF h
  all_goals (cases h)
end SLOP
