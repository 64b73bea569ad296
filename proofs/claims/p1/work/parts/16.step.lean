/-! ===== ONE STEP, and the facts of the tables that it wants ===== -/
abbrev pRes : Type := (Option Value ⊕ Nat) × pH × Nat
abbrev pC : Type := List pOp × pL × List Value × pH × Nat
abbrev pCall : Type := Nat → List Value → pH → Nat → Option pRes
def pm_mna (t : Nat) (G : pH) (sl : Nat) (st : List Value) : Option (List Value × pH × Nat) := match st with
  | .int k :: .int n :: r => if t < 2 ∧ pm_in n 1000 = true ∧ pm_in k 67000 = true then
      some (.ref G.length :: r, (G ++ [some (.inl (t + 3, n.toNatClampNeg, fun i => if i < n.toNatClampNeg then .ref (G.length + 1 + i) else .null))]) ++ List.replicate n.toNatClampNeg (some (.inl (t, k.toNatClampNeg, fun _ => if t = 0 then .int 0 else .long 0))), sl + n.toNatClampNeg + n.toNatClampNeg * k.toNatClampNeg)
      else none
  | _ => none
/-- System.arraycopy between int arrays, or between long arrays -/
def pm_cpy (G : pH) (st : List Value) : Option (List Value × pH) := match st with
  | .int n :: .int dp :: .ref a :: .int sp :: .ref b :: r => match G[a]?, G[b]? with
    | some (some (.inl d)), some (some (.inl e)) => if (d.1 = e.1 ∧ d.1 < 2) ∧ (¬ sp < 0 ∧ ¬ dp < 0 ∧ ¬ n < 0) ∧ (sp.toNatClampNeg + n.toNatClampNeg ≤ e.2.1 ∧ dp.toNatClampNeg + n.toNatClampNeg ≤ d.2.1) ∧ (List.range n.toNatClampNeg).all (fun i => pm_fit (pm_ty d.1) (e.2.2 (sp.toNatClampNeg + i))) = true ∧ (r.map (fun v => v.category)).sum ≤ 8 then some (r, G.set a (some (.inl (d.1, d.2.1, va_cpy e.2.2 d.2.2 sp.toNatClampNeg dp.toNatClampNeg n.toNatClampNeg)))) else none
    | _, _ => none
  | _ => none
/-- what touches cells, but calls no method -/
def pm_hop (X : pX) (F : Nat → Nat → FieldType) (dfl : Nat → Nat × List Value) (ins : Instr) (r1 r2 : Nat) (r3 : Int) (st : List Value) (G : pH) (sl : Nat) : Option (List Value × pH × Nat) := match ins with
  | .getfield _ => match pm_getf r1 r2 G st with
    | some q => some (q, G, sl)
    | none => none
  | .putfield _ => match pm_putf r1 r2 (F r1 r2) G st with
    | some q => some (q.1, q.2, sl)
    | none => none
  | .arraylength => match pm_alen X G st with
    | some q => some (q, G, sl)
    | none => none
  | .iaload => match pm_iald X G st with
    | some q => some (q, G, sl)
    | none => none
  | .laload => match pm_ald 1 G st with
    | some q => some (q, G, sl)
    | none => none
  | .baload => match pm_ald 2 G st with
    | some q => some (q, G, sl)
    | none => none
  | .aaload => match pm_aald G st with
    | some q => some (q, G, sl)
    | none => none
  | .iastore => match pm_iast G st with
    | some q => some (q.1, q.2, sl)
    | none => none
  | .lastore => match pm_last G st with
    | some q => some (q.1, q.2, sl)
    | none => none
  | .bastore => match pm_zast G st with
    | some q => some (q.1, q.2, sl)
    | none => none
  | .aastore => match pm_aast r1 G st with
    | some q => some (q.1, q.2, sl)
    | none => none
  | .new _ => if r3 = 0 then some (pm_new r1 (dfl r1).1 (dfl r1).2 G sl st) else none
  | .newarray a => pm_newa a G sl st
  | .anewarray _ => pm_anew G sl st
  | .multianewarray _ _ => pm_mna r1 G sl st
  | .invokestatic _ => if r3 = 7 then match pm_cpy G st with
    | some q => some (q.1, q.2, sl)
    | none => none
    else none
  | .getstatic _ => some (.retAddr r1 :: st, G, sl)
  | .ldc _ => some (.int (Int32.ofInt r3) :: st, G, sl)
  | .ldc_w _ => some (.int (Int32.ofInt r3) :: st, G, sl)
  | .ldc2_w _ => some (.long (Int64.ofInt r3) :: st, G, sl)
  | _ => none
def pm_argsOf (n : Nat) (st : List Value) : Option (List Value × List Value) :=
  if n ≤ st.length ∧ ((st.drop n).map (fun v => v.category)).sum ≤ 8 then some ((st.take n).reverse, st.drop n) else none
/-- of a static call that has nine slots below its arguments -/
def pm_args9 (n : Nat) (st : List Value) : Option (List Value × List Value) :=
  if n ≤ st.length ∧ ((st.drop n).map (fun v => v.category)).sum ≤ 9 then some ((st.take n).reverse, st.drop n) else none
/-- a call's arguments, its receiver of the class ci where there is one -/
def pm_recv (ci : Nat) (G : pH) (as : List Value) : Bool := match as with
  | .ref k :: _ => match G[k]? with
    | some (some (.inr o)) => o.1 == ci
    | _ => false
  | _ => false
def pm_ask (ins : Instr) (r2 : Nat) (r3 : Int) (st : List Value) (G : pH) : Option (List Value × List Value) := match ins with
  | .invokestatic _ => if r3 = 7 then none else if r3 = 8 then pm_args9 r2 st else pm_argsOf r2 st
  | .invokespecial _ => if r3 = 0 then match pm_argsOf r2 st with
    | some (.ref k :: as, rest) => some (.ref k :: as, rest)
    | _ => none
    else none
  | .invokevirtual _ => match pm_argsOf r2 st with
    | some q => if pm_recv r3.toNat G q.1 = true then some q else none
    | none => none
  | _ => none
def pm_seek (full : List pOp) (tgt : Nat) : List pOp := full.dropWhile (fun o => !(o.1 == tgt))
def pm_to (full tail : List pOp) (pc len : Nat) (j : Option Int) : Option (List pOp) := match j with
  | none => match tail with
    | o :: t => if o.1 = pc + len then some (o :: t) else none
    | [] => none
  | some off => if 0 ≤ (pc : Int) + off then some (pm_seek full ((pc : Int) + off).toNat) else none
/-- one step: within the frame, or a call that returns -/
def pm_step (X : pX) (F : Nat → Nat → FieldType) (dfl : Nat → Nat × List Value) (call : pCall) (nL : Nat) (full : List pOp) (x : pC) : Option pC := match x with
  | ((pc, ins, len, r1, r2, r3) :: tail, lv, st, G, sl) =>
    match pm_lop nL ins lv st with
    | some r => match pm_to full tail pc len r.2.2 with
      | some cur => some (cur, r.1, r.2.1, G, sl)
      | none => none
    | none => match pm_hop X F dfl ins r1 r2 r3 st G sl with
      | some r => match pm_to full tail pc len none with
        | some cur => some (cur, lv, r.1, r.2.1, r.2.2)
        | none => none
      | none => match pm_ask ins r2 r3 st G with
        | some q => match call r1 q.1 G sl with
          | some (.inl v, G', sl') => match pm_to full tail pc len none with
            | some cur => some (cur, lv, v.toList ++ q.2, G', sl')
            | none => none
          | _ => none
        | none => match ins, r3, st with
          | .invokespecial _, 1, .ref _ :: rest => if (rest.map (fun v => v.category)).sum ≤ 8 then match pm_to full tail pc len none with
            | some cur => some (cur, lv, rest, G, sl)
            | none => none
            else none
          | _, _, _ => none
  | _ => none
theorem pm_seek_mem {full : List pOp} {tgt : Nat} {o : pOp} (h : o ∈ pm_seek full tgt) : o ∈ full := (List.dropWhile_sublist _).subset h
theorem pm_seek_head {full : List pOp} {tgt : Nat} {o : pOp} {t : List pOp} (h : pm_seek full tgt = o :: t) : o.1 = tgt := by
  have h1 := List.head?_dropWhile_not (fun o : pOp => !(o.1 == tgt)) full
  unfold pm_seek at h
  rw [h] at h1
  simpa using h1
theorem pm_to_ok {full tail : List pOp} {pc len : Nat} {j : Option Int} {cur : List pOp} (h : pm_to full tail pc len j = some cur) (ht : ∀ o ∈ tail, o ∈ full) : (∀ o ∈ cur, o ∈ full) ∧ ∀ o t, cur = o :: t → pm_next pc len j o.1 := by
  unfold pm_to at h
  split at h
  · split at h
    · next o t =>
      split at h
      · next he =>
        cases h
        exact ⟨ht, fun o' t' e => by cases e; exact he⟩
      · cases h
    · cases h
  · next off =>
    split at h
    · next hp =>
      cases h
      refine ⟨fun o ho => pm_seek_mem ho, fun o t e => ?_⟩
      have := pm_seek_head e
      show (pc : Int) + off = (o.1 : Int)
      rw [this]
      omega
    · cases h
