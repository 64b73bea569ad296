/-! ===== the same step, quicker: what hangs on the instruction alone is worked out first ===== -/
def slopQ (ins : Instr) : (sFs → Nat → sL → List sT → Option sJ) × Unit := match ins with
  | .iconst n => (fun F nL lv st => some (.inl (lv, .int (Int32.ofInt n) :: st, none)), ())
  | .bipush n => (fun F nL lv st => some (.inl (lv, .int (Int8.ofInt n).toInt32 :: st, none)), ())
  | .sipush n => (fun F nL lv st => some (.inl (lv, .int (Int16.ofInt n).toInt32 :: st, none)), ())
  | .lconst n => (fun F nL lv st => some (.inl (lv, .long (Int64.ofNat n) :: st, none)), ())
  | .iload_n k => (fun F nL lv st => sld 0 lv st k, ())
  | .iload i => (fun F nL lv st => sld 0 lv st i, ())
  | .lload_n k => (fun F nL lv st => sld 1 lv st k, ())
  | .lload i => (fun F nL lv st => sld 1 lv st i, ())
  | .aload_n k => (fun F nL lv st => sald lv st k, ())
  | .aload i => (fun F nL lv st => sald lv st i, ())
  | .istore_n k => (fun F nL lv st => sst1 nL lv st k, ())
  | .istore i => (fun F nL lv st => sst1 nL lv st i, ())
  | .lstore_n k => (fun F nL lv st => sst2 nL lv st k, ())
  | .lstore i => (fun F nL lv st => sst2 nL lv st i, ())
  | .astore_n k => (fun F nL lv st => sast nL lv st k, ())
  | .astore i => (fun F nL lv st => sast nL lv st i, ())
  | .iinc i n => (fun F nL lv st => siinc nL lv st i n, ())
  | .iadd => (fun F nL lv st => sb2 0 0 (mkA 0) lv st, ())
  | .isub => (fun F nL lv st => sb2 0 0 (mkA 1) lv st, ())
  | .imul => (fun F nL lv st => sb2 0 0 (mkA 2) lv st, ())
  | .iand => (fun F nL lv st => sb2 0 0 (mkN F) lv st, ())
  | .ior => (fun F nL lv st => sb2 0 0 (mk2 .ior) lv st, ())
  | .ixor => (fun F nL lv st => sb2 0 0 (mk2 .ixor) lv st, ())
  | .ishl => (fun F nL lv st => sb2 0 0 (mk2 .ishl) lv st, ())
  | .ishr => (fun F nL lv st => sb2 0 0 (mk2 .ishr) lv st, ())
  | .iushr => (fun F nL lv st => sb2 0 0 (mk2 .iushr) lv st, ())
  | .idiv => (fun F nL lv st => sz2 F 0 0 (.int 0) (mkA 3) lv st, ())
  | .irem => (fun F nL lv st => sz2 F 0 0 (.int 0) (mkA 4) lv st, ())
  | .ineg => (fun F nL lv st => sb1 0 (mk1 .ineg) lv st, ())
  | .i2b => (fun F nL lv st => sb1 0 (mk1 .i2b) lv st, ())
  | .i2s => (fun F nL lv st => sb1 0 (mk1 .i2s) lv st, ())
  | .i2l => (fun F nL lv st => sb1 0 (mk1 .i2l) lv st, ())
  | .l2i => (fun F nL lv st => sb1 1 (mk1 .l2i) lv st, ())
  | .ladd => (fun F nL lv st => sb2 1 1 (mk2 .ladd) lv st, ())
  | .lsub => (fun F nL lv st => sb2 1 1 (mk2 .lsub) lv st, ())
  | .lmul => (fun F nL lv st => sb2 1 1 (mk2 .lmul) lv st, ())
  | .land => (fun F nL lv st => sb2 1 1 (mk2 .land) lv st, ())
  | .lor => (fun F nL lv st => sb2 1 1 (mk2 .lor) lv st, ())
  | .lxor => (fun F nL lv st => sb2 1 1 (mk2 .lxor) lv st, ())
  | .ldiv => (fun F nL lv st => sz2 F 1 6 (.long 0) (mk2 .ldiv) lv st, ())
  | .lneg => (fun F nL lv st => sb1 1 (mk1 .lneg) lv st, ())
  | .lshl => (fun F nL lv st => sb2 1 0 (mk2 .lshl) lv st, ())
  | .lshr => (fun F nL lv st => sb2 1 0 (mk2 .lshr) lv st, ())
  | .lushr => (fun F nL lv st => sb2 1 0 (mk2 .lushr) lv st, ())
  | .lcmp => (fun F nL lv st => sb2 1 1 (mk2 .lcmp) lv st, ())
  | .dup => (fun F nL lv st => sdup lv st, ())
  | .pop => (fun F nL lv st => spop lv st, ())
  | .dup2 => (fun F nL lv st => sdup2 lv st, ())
  | .ifCond cnd off => (fun F nL lv st => sif F cnd off lv st, ())
  | .if_icmp cnd off => (fun F nL lv st => sicmp F cnd off lv st, ())
  | .goto off => (fun F nL lv st => some (.inl (lv, st, some off)), ())
  | .tableswitch dflt lo hi offs => (fun F nL lv st => stsw F dflt lo hi offs.toList lv st, ())
  | .lookupswitch dflt ps => (fun F nL lv st => slsw F dflt ps.toList lv st, ())
  | _ => (fun _ _ _ _ => none, ())
def shopQ (ins : Instr) : (sK → sFs → (Nat → Nat → FieldType) → (Nat → Nat × List Value) → Nat → Nat → Int → List sT → sH → Nat → Option sO) × Unit := match ins with
  | .getfield _ => (fun K F Ft dfl r1 r2 r3 st G sl => sgetf r1 r2 G sl st, ())
  | .putfield _ => (fun K F Ft dfl r1 r2 r3 st G sl => sputf F r1 r2 (Ft r1 r2) G sl st, ())
  | .arraylength => (fun K F Ft dfl r1 r2 r3 st G sl => salen K G sl st, ())
  | .iaload => (fun K F Ft dfl r1 r2 r3 st G sl => siald K F G sl st, ())
  | .laload => (fun K F Ft dfl r1 r2 r3 st G sl => sald_ K F 1 2 G sl st, ())
  | .baload => (fun K F Ft dfl r1 r2 r3 st G sl => sald_ K F 2 3 G sl st, ())
  | .aaload => (fun K F Ft dfl r1 r2 r3 st G sl => sald_ K F 3 6 G sl st, ())
  | .iastore => (fun K F Ft dfl r1 r2 r3 st G sl => siast K F 0 0 G sl st, ())
  | .lastore => (fun K F Ft dfl r1 r2 r3 st G sl => siast K F 1 1 G sl st, ())
  | .bastore => (fun K F Ft dfl r1 r2 r3 st G sl => szast K F G sl st, ())
  | .aastore => (fun K F Ft dfl r1 r2 r3 st G sl => saast K F r1 G sl st, ())
  | .new _ => (fun K F Ft dfl r1 r2 r3 st G sl => if r3 = 0 ∧ (dfl r1).2.all vtk = true ∧ K.2.2.2 = true then some (.inl (.index G.2 :: st, hpush G (some (.inr (r1, (dfl r1).2.map vt))), sl + (dfl r1).1)) else none, ())
  | .newarray a => (fun K F Ft dfl r1 r2 r3 st G sl => match pm_atype a with
      | some q => if vtk q.2 = true ∧ K.2.2.2 = true then snewa q.1 (vt q.2) G sl st else none
      | none => none, ())
  | .anewarray _ => (fun K F Ft dfl r1 r2 r3 st G sl => if K.2.2.2 = true then snewa 5 .null G sl st else none, ())
  | .multianewarray _ _ => (fun K F Ft dfl r1 r2 r3 st G sl => if K.2.2.2 = true then smna r1 G sl st else none, ())
  | .invokestatic _ => (fun K F Ft dfl r1 r2 r3 st G sl => if r3 = 7 then scpy K F G sl st else none, ())
  | .getstatic _ => (fun K F Ft dfl r1 r2 r3 st G sl => some (.inl (.string "" r1 :: st, G, sl)), ())
  | .ldc _ => (fun K F Ft dfl r1 r2 r3 st G sl => some (.inl (.int (Int32.ofInt r3) :: st, G, sl)), ())
  | .ldc_w _ => (fun K F Ft dfl r1 r2 r3 st G sl => some (.inl (.int (Int32.ofInt r3) :: st, G, sl)), ())
  | .ldc2_w _ => (fun K F Ft dfl r1 r2 r3 st G sl => some (.inl (.long (Int64.ofInt r3) :: st, G, sl)), ())
  | _ => (fun _ _ _ _ _ _ _ _ _ _ => none, ())
/-- 0 an instruction within the frame, 1 one that touches cells, 2 the rest -/
def igr (ins : Instr) : Nat := match ins with
  | .iconst _ => 0
  | .bipush _ => 0
  | .sipush _ => 0
  | .lconst _ => 0
  | .iload_n _ => 0
  | .iload _ => 0
  | .lload_n _ => 0
  | .lload _ => 0
  | .aload_n _ => 0
  | .aload _ => 0
  | .istore_n _ => 0
  | .istore _ => 0
  | .lstore_n _ => 0
  | .lstore _ => 0
  | .astore_n _ => 0
  | .astore _ => 0
  | .iinc _ _ => 0
  | .iadd => 0
  | .isub => 0
  | .imul => 0
  | .iand => 0
  | .ior => 0
  | .ixor => 0
  | .ishl => 0
  | .ishr => 0
  | .iushr => 0
  | .idiv => 0
  | .irem => 0
  | .ineg => 0
  | .i2b => 0
  | .i2s => 0
  | .i2l => 0
  | .l2i => 0
  | .ladd => 0
  | .lsub => 0
  | .lmul => 0
  | .land => 0
  | .lor => 0
  | .lxor => 0
  | .ldiv => 0
  | .lneg => 0
  | .lshl => 0
  | .lshr => 0
  | .lushr => 0
  | .lcmp => 0
  | .dup => 0
  | .pop => 0
  | .dup2 => 0
  | .ifCond _ _ => 0
  | .if_icmp _ _ => 0
  | .goto _ => 0
  | .tableswitch _ _ _ _ => 0
  | .lookupswitch _ _ => 0
  | .getfield _ => 1
  | .putfield _ => 1
  | .arraylength => 1
  | .iaload => 1
  | .laload => 1
  | .baload => 1
  | .aaload => 1
  | .iastore => 1
  | .lastore => 1
  | .bastore => 1
  | .aastore => 1
  | .newarray _ => 1
  | .anewarray _ => 1
  | .multianewarray _ _ => 1
  | .getstatic _ => 1
  | .ldc _ => 1
  | .ldc_w _ => 1
  | .ldc2_w _ => 1
  | _ => 2
theorem slopQ_eq (ins : Instr) (F : sFs) (nL : Nat) (lv : sL) (st : List sT) : (slopQ ins).1 F nL lv st = slop F nL ins lv st := by
  cases ins <;> rfl
theorem shopQ_eq (ins : Instr) (K : sK) (F : sFs) (Ft : Nat → Nat → FieldType) (dfl : Nat → Nat × List Value) (r1 r2 : Nat) (r3 : Int) (st : List sT) (G : sH) (sl : Nat) : (shopQ ins).1 K F Ft dfl r1 r2 r3 st G sl = shop K F Ft dfl ins r1 r2 r3 st G sl := by
  cases ins <;> rfl
theorem igr_0 {ins : Instr} (h : igr ins = 0) (r3 : Int) : sret ins = false ∧ pm_isHelp ins r3 = false := by
  cases ins <;> first | exact ⟨rfl, rfl⟩ | (cases h; done)
theorem igr_1 {ins : Instr} (h : igr ins = 1) (r3 : Int) (F : sFs) (nL : Nat) (lv : sL) (st : List sT) : sret ins = false ∧ pm_isHelp ins r3 = false ∧ slop F nL ins lv st = none := by
  cases ins <;> first | exact ⟨rfl, rfl, rfl⟩ | (cases h; done)
def sstepQ (K : sK) (F : sFs) (Ft : Nat → Nat → FieldType) (dfl : Nat → Nat × List Value) (g : Nat) (k nL : Nat) (ret : Option FieldType) (hs : pHd) (full : List pOp) (pc : Nat) (ins : Instr) (len r1 r2 : Nat) (r3 : Int) (tail : List pOp) (lv : sL) (st : List sT) (fs : List sF) (d : Nat) (G : sH) (sl : Nat) : Option (sS ⊕ sQ) :=
  if g = 0 then match (slopQ ins).1 F nL lv st with
    | some (.inl (lv', st', j)) => match pm_to full tail pc len j with
      | some cur' => some (.inl ((k, nL, ret, hs, full, cur', lv', st'), fs, d, G, sl))
      | none => none
    | some (.inr c) => some (.inr c)
    | none => none
  else match (shopQ ins).1 K F Ft dfl r1 r2 r3 st G sl with
    | some (.inl (st', G', sl')) => match pm_to full tail pc len none with
      | some cur' => some (.inl ((k, nL, ret, hs, full, cur', lv, st'), fs, d, G', sl'))
      | none => none
    | some (.inr c) => some (.inr c)
    | none => none
theorem sstepQ_eq {K : sK} {F : sFs} {Ft : Nat → Nat → FieldType} {dfl : Nat → Nat × List Value} {Mt : List pM} {hl : Nat → Option (pHd × Nat)} {k nL : Nat} {ret : Option FieldType} {hs : pHd} {full : List pOp} {pc : Nat} {ins : Instr} {len r1 r2 : Nat} {r3 : Int} {tail : List pOp} {lv : sL} {st : List sT} {fs : List sF} {d : Nat} {G : sH} {sl : Nat} {x : sS ⊕ sQ} (hg : igr ins < 2) (h : sstepQ K F Ft dfl (igr ins) k nL ret hs full pc ins len r1 r2 r3 tail lv st fs d G sl = some x) : sstep K F Ft dfl Mt hl (k, nL, ret, hs, full, (pc, ins, len, r1, r2, r3) :: tail, lv, st) fs d G sl = some x := by
  unfold sstepQ at h
  by_cases h0 : igr ins = 0
  · obtain ⟨e1, e2⟩ := igr_0 h0 r3
    rw [if_pos h0, slopQ_eq] at h
    unfold sstep
    dsimp only
    rw [if_neg (by rw [e1]; decide), if_neg (by rw [e2]; exact fun h => nomatch h.2)]
    split at h
    · next lv' st' j hs => rw [hs]; exact h
    · next c hs => rw [hs]; exact h
    · cases h
  · have h1 : igr ins = 1 := by omega
    obtain ⟨e1, e2, e3⟩ := igr_1 h1 r3 F nL lv st
    rw [if_neg h0, shopQ_eq] at h
    unfold sstep
    dsimp only
    rw [if_neg (by rw [e1]; decide), if_neg (by rw [e2]; exact fun h => nomatch h.2), e3]
    dsimp only
    split at h
    · next st' G' sl' hs => rw [hs]; exact h
    · next c hs => rw [hs]; exact h
    · cases h
