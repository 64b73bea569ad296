/-! ===== a method's run, and what its result means ===== -/
def pm_rok (ret : Option FieldType) (v : Int32) : Bool := match ret with
  | some .int => true
  | some .boolean => v == 0 || v == 1
  | _ => false
def pm_fin (ret : Option FieldType) (x : pC) : Option (Option Value) := match x with
  | ((_, ins, _, _, _, _) :: _, _, st, _, _) => match ins with
    | .ireturn => match st with
      | [.int v] => if pm_rok ret v = true then some (some (.int v)) else none
      | _ => none
    | .lreturn => match st with
      | [.long v] => if ret = some .long then some (some (.long v)) else none
      | _ => none
    | .return_ => match st with
      | [] => if ret = none then some none else none
      | _ => none
    | _ => none
  | _ => none
def pm_isThrow (ins : Instr) (r3 : Int) (st : List Value) : Bool := match ins with
  | .new _ => decide (r3 = 1) && decide ((st.map (fun v => v.category)).sum ≤ 8)
  | _ => false
def pm_mayThrow (ins : Instr) (r3 : Int) : Bool := match ins with
  | .invokestatic _ => decide (r3 = 0)
  | .invokevirtual _ => true
  | _ => false
/-- a throw: of its own, or a callee's that nobody catches here -/
def pm_thr (call : pCall) (x : pC) : Option pRes := match x with
  | ((_, ins, _, r1, r2, r3) :: _, _, st, G, sl) =>
    if pm_isThrow ins r3 st = true then some (.inr r1, G ++ [none], sl + 6)
    else if pm_mayThrow ins r3 = true then match pm_ask ins r2 r3 st G with
        | some q => match call r1 q.1 G sl with
          | some (.inr E, G', sl') => some (.inr E, G', sl')
          | _ => none
        | none => none
    else none
  | _ => none
theorem pm_thr_inl {call : pCall} {x : pC} {v : Option Value} {G : pH} {sl : Nat} (h : pm_thr call x = some (.inl v, G, sl)) : False := by
  unfold pm_thr at h
  split at h
  · split at h
    · cases h
    · split at h
      · split at h
        · split at h <;> cases h
        · cases h
      · cases h
  · cases h
def pm_exec (X : pX) (F : Nat → Nat → FieldType) (dfl : Nat → Nat × List Value) (call : pCall) (nL : Nat) (full : List pOp) (ret : Option FieldType) : Nat → pC → Option pRes
  | 0, _ => none
  | n + 1, x => match pm_fin ret x with
    | some v => some (.inl v, x.2.2.2.1, x.2.2.2.2)
    | none => match pm_step X F dfl call nL full x with
      | some x' => pm_exec X F dfl call nL full ret n x'
      | none => pm_thr call x
/-- a throw needs some frames above it -/
def pm_cut (d : Nat) (r : Option pRes) : Option pRes := match r with
  | some (.inr E, G, sl) => if 5 ≤ d then some (.inr E, G, sl) else none
  | some (.inl v, G, sl) => some (.inl v, G, sl)
  | none => none
theorem pm_cut_l {d : Nat} {r : Option pRes} {v : Option Value} {G : pH} {sl : Nat} (h : pm_cut d r = some (.inl v, G, sl)) : r = some (.inl v, G, sl) := by
  unfold pm_cut at h
  split at h
  · split at h <;> cases h
  · exact h
  · cases h
theorem pm_cut_r {d : Nat} {r : Option pRes} {E : Nat} {G : pH} {sl : Nat} (h : pm_cut d r = some (.inr E, G, sl)) : 5 ≤ d ∧ r = some (.inr E, G, sl) := by
  unfold pm_cut at h
  split at h
  · split at h
    · next h5 => exact ⟨h5, h⟩
    · cases h
  · cases h
  · cases h
theorem pm_cut_a {d : Nat} {r : Option pRes} {x : pRes} (h : pm_cut d r = some x) : r = some x := by
  obtain ⟨x, G, sl⟩ := x
  cases x with
  | inl v => exact pm_cut_l h
  | inr E => exact (pm_cut_r h).2
def pm_callD (X : pX) (F : Nat → Nat → FieldType) (dfl : Nat → Nat × List Value) (Mt : List pM) (fuel : Nat) : Nat → pCall
  | 0 => fun _ _ _ _ => none
  | d + 1 => fun y as G sl => match Mt[y]? with
    | some M => match M.2.2.2.2 with
      | o :: _ => if o.1 = 0 ∧ (lg_sl as).length ≤ M.2.2.1 then pm_cut d (pm_exec X F dfl (pm_callD X F dfl Mt fuel d) M.2.2.1 M.2.2.2.2 M.2.2.2.1 fuel (M.2.2.2.2, lv_args 0 as, [], G, sl)) else none
      | [] => none
    | none => none
theorem pm_args_tr (b0 : Nat) (ext : Nat → Nat) : ∀ (as : List Value) (i : Nat), pm_L b0 ext (lv_args i as) = lv_args i (pm_S b0 ext as)
  | [], i => rfl
  | v :: as, i => by
    have ih := pm_args_tr b0 ext as (if v.category = 2 then i + 2 else i + 1)
    simp only [lv_args, pm_L, pm_S, List.map_cons] at ih ⊢
    rw [ih, pm_cat']
theorem pm_sl_tr (b0 : Nat) (ext : Nat → Nat) (as : List Value) : (lg_sl (pm_S b0 ext as)).length = (lg_sl as).length := by
  induction as with
  | nil => rfl
  | cons v as ih =>
    cases v <;> simp_all [lg_sl, pm_S, pm_tr, Value.category]
section PEX
variable {p : Program} {l : Launch} {e : Env} {R : Room} {s s0 : State} {m : MethodId} {args : Array Value} {below : List Frame} {meth : Method} {c : Code}
variable {cc : ByteArray} {nL b0 : Nat} {ext : Nat → Nat} {D : va_G} {cl : List vw_C} {dA : Nat → ClassId} {Ts Nw : List Cond} {own mname : String} {X : pX} {F : Nat → Nat → FieldType} {dfl : Nat → Nat × List Value} {stat : Nat → Option (String × String × String)} {Mt : List pM}
theorem pm_exec_len {call : pCall} {full : List pOp} {ret : Option FieldType} (hm : ∀ y as G sl v G' sl', call y as G sl = some (.inl v, G', sl') → G.length ≤ G'.length ∧ sl ≤ sl') : ∀ (n : Nat) (x : pC) (v : Option Value) (G' : pH) (sl' : Nat), (∀ o ∈ x.1, o ∈ full) → pm_exec X F dfl call nL full ret n x = some (.inl v, G', sl') → x.2.2.2.1.length ≤ G'.length ∧ x.2.2.2.2 ≤ sl' := by
  intro n
  induction n with
  | zero => intro x v G' sl' _ h; cases h
  | succ n ih =>
    intro x v G' sl' hsub h
    unfold pm_exec at h
    split at h
    · cases h; exact ⟨Nat.le_refl _, Nat.le_refl _⟩
    · split at h
      · next x' hx' =>
        have h1 := pm_step_len hm hsub hx'
        have h2 := ih x' v G' sl' h1.2.2 h
        exact ⟨Nat.le_trans h1.1 h2.1, Nat.le_trans h1.2.1 h2.2⟩
      · exact (pm_thr_inl h).elim
theorem pm_fin_ok (S : CallFix p m c cc nL s args Ts own) (hW0 : s0.WarmedH s.vm) {ret : Option FieldType} (hr : meth.sig.returnType = ret) (hlocks : meth.locks = false) {x : pC} (hop : ∀ o t, x.1 = o :: t → decode cc o.1 = .ok (o.2.1, o.2.2.1) ∧ pm_len o.2.1 o.2.2.1 = true) {v : Option Value} (h : pm_fin ret x = some v) {g0 l0 : Nat} : pm_WC p l e R s m args below meth c (MQ below (pm_Qc s0 D cl dA b0 ext v x.2.2.2.1) args s (x.2.2.2.1.length - g0) (x.2.2.2.2 - l0) (fun q => b0 ≤ q)) s0 D cl dA b0 ext nL g0 l0 x := by
  obtain ⟨hx, hb, hml, hown, hts⟩ := id S
  intro H locs ls o t ho hR hB hl
  obtain ⟨hd, hln⟩ := hop o t ho
  obtain ⟨cur, lv, st, G, sl⟩ := x
  dsimp only at ho hR hl ⊢
  subst ho
  obtain ⟨pc, ins, len, r1, r2, r3⟩ := o
  dsimp only at hd hln
  have hq : ∀ (w : Option Value) (t : State), t.heap = H → s.WarmedH t.vm → w = v.map (pm_tr b0 ext) → pm_Qc s0 D cl dA b0 ext v G args s (.returned w) t := fun w t ht hW hw => ⟨by rw [hw], State.WarmedH.trans hW0 hW, by rw [ht]; exact hR⟩
  simp only [pm_fin] at h
  split at h
  · simp only [pm_len, beq_iff_eq] at hln; subst hln
    split at h
    · next z =>
      split at h
      · next hk =>
        cases h
        cases hrt : ret with
        | none => rw [hrt] at hk; cases hk
        | some ty =>
          rw [hrt] at hr hk
          refine W.zret (ty := ty) hx hb hr ?_ (fun t ht hW => hq _ t ht hW rfl) hB hd hlocks
          cases ty <;> simp only [pm_rok] at hk
          case int => rfl
          case boolean =>
            simp only [Bool.or_eq_true, beq_iff_eq] at hk
            rcases hk with rfl | rfl
            · decide
            · decide
          all_goals (cases hk)
      · cases h
    · cases h
  · simp only [pm_len, beq_iff_eq] at hln; subst hln
    split at h
    · split at h
      · next hk =>
        cases h
        exact W.lret hx hb (hr.trans hk) (fun t ht hW => hq _ t ht hW rfl) hB hd hlocks
      · cases h
    · cases h
  · simp only [pm_len, beq_iff_eq] at hln; subst hln
    split at h
    · split at h
      · next hk =>
        cases h
        exact W.vret hx hb (hr.trans hk) (fun t ht hW => hq _ t ht hW rfl) hB hd hlocks
      · cases h
    · cases h
  · cases h
theorem pm_exec_ok (S : CallFix p m c cc nL s args Ts own) (hg : pm_good Ts) (hW0 : s0.WarmedH s.vm) (hSt : pm_St Ts Nw D cl dA b0 ext X stat s0.heap s) (hCl : pm_Cl Ts cl F dfl) (hmn : meth.name = mname) {ret : Option FieldType} (hr : meth.sig.returnType = ret) (hlocks : meth.locks = false) {d : Nat} {call : pCall} (hS : pm_Met l s0 D cl dA b0 ext Ts Mt d call) (hd7 : d + 1 ≤ R.frames) (hd8 : 41 * d + 43 + 41 ≤ R.locals)
    (hoi : Cond.instanceMethod Lib.objectInit ∈ Ts ∧ Cond.code Lib.objectInit ⟨#[0xb1]⟩ 1 none ∈ Ts) {full : List pOp} (hfull : ∀ o ∈ full, pm_opok Ts Nw Mt cl stat own mname cc o) {g0 l0 : Nat} {v : Option Value} {G' : pH} {sl' : Nat} (hcells : G'.length - g0 ≤ R.cells) (hslots : sl' - l0 ≤ R.slots) :
    ∀ (n : Nat) (x : pC), (∀ o ∈ x.1, o ∈ full) → g0 ≤ x.2.2.2.1.length → l0 ≤ x.2.2.2.2 → pm_exec X F dfl call nL full ret n x = some (.inl v, G', sl') → pm_WC p l e R s m args below meth c (MQ below (pm_Qc s0 D cl dA b0 ext v G') args s (G'.length - g0) (sl' - l0) (fun q => b0 ≤ q)) s0 D cl dA b0 ext nL g0 l0 x := by
  have hm : ∀ y as G sl v G' sl', call y as G sl = some (.inl v, G', sl') → G.length ≤ G'.length ∧ sl ≤ sl' := fun y as G sl v G' sl' hc => ⟨(hS y as G sl v G' sl' hc).1, (hS y as G sl v G' sl' hc).2.1⟩
  intro n
  induction n with
  | zero => intro x _ _ _ h; cases h
  | succ n ih =>
    intro x hsub hg0 hl0 h
    unfold pm_exec at h
    split at h
    · next v' hf =>
      cases h
      exact pm_fin_ok S hW0 hr hlocks (fun o t ho => ⟨(hfull o (hsub o (by rw [ho]; exact List.mem_cons_self))).1, (hfull o (hsub o (by rw [ho]; exact List.mem_cons_self))).2.1⟩) hf
    · split at h
      · next x' hx' =>
        have h1 := pm_step_len hm hsub hx'
        have h2 := pm_exec_len hm n x' v G' sl' h1.2.2 h
        have h3 := ih x' h1.2.2 (Nat.le_trans hg0 h1.1) (Nat.le_trans hl0 h1.2.1) h
        cases hcur : x'.1 with
        | nil =>
          exfalso
          cases n with
          | zero => cases h
          | succ n =>
            unfold pm_exec at h
            obtain ⟨cur, lv, st, G, sl⟩ := x'
            dsimp only at hcur
            subst hcur
            simp [pm_fin, pm_step, pm_thr] at h
        | cons o t => exact pm_step_ok S hg hW0 hSt hCl hmn hS hd7 hd8 hoi (fun o t ho => hfull o (hsub o (by rw [ho]; exact List.mem_cons_self))) hsub hx' hcur hg0 hl0 (by omega) (by omega) h3
      · exact (pm_thr_inl h).elim
end PEX
theorem pm_ofW {l : Launch} {y : MethodName} {ws ws' : List Cond} {rm : Room} {Pc : Array Value → State → Prop} {Qc : Array Value → State → Outcome → State → Prop} {mc ms : Nat} {free : Addr → Prop} {cc : ByteArray} {maxL : Nat} {ret : Option FieldType}
    (hy : plainFor y = true) (hw : ws = Cond.code y cc maxL ret :: ws')
    (body : ∀ p e s m args below meth c s₁, BodyLoose p l y (headSpec ws rm) cc maxL ret e s m args below meth c s₁ → c.maxLocals = maxL → Pc args s →
      W p l e (headSpec ws rm).room s m args below meth c s.heap [] 0 0 (MQ below Qc args s mc ms free) (entryFrame m args maxL)) : Met l y ws rm Pc Qc mc ms free := by
  refine MetFree.of_bodySF (code := cc) (maxLocals := maxL) (ret := ret) hy ?_ ?_
  · intro args s m h hn
    obtain ⟨meth, c, h1, h2, h3, h4, h5, h6, -, -⟩ := Cond.code_spec hn (atoms_spec (ws := ws) h _ (by rw [hw]; exact List.mem_cons_self))
    exact ⟨meth, c, h1, h2, h3, h4, h5, h6⟩
  · intro p e s m args below meth c s₁ B hml hP _
    have hh0 : s₁.heap = s.heap := by rw [B.state]; rfl
    obtain ⟨t, a1, o, b1, b2, b3⟩ := body p e s m args below meth c s₁ B hml hP s₁ hh0 (Stand.of_body B)
    exact ⟨t, o, a1, b1, b2, ⟨b3.1, b3.2⟩⟩
theorem pm_ofX {l : Launch} {y : MethodName} {ws ws' : List Cond} {rm : Room} {Pc : Array Value → State → Prop} {Qc : Array Value → State → Outcome → State → Prop} {XC : String → State → State → Prop} {mc ms : Nat} {free : Addr → Prop} {cc : ByteArray} {maxL : Nat} {ret : Option FieldType}
    (hy : plainFor y = true) (hw : ws = Cond.code y cc maxL ret :: ws')
    (body : ∀ p e s m args below meth c s₁, BodyLoose p l y (headSpec ws rm) cc maxL ret e s m args below meth c s₁ → c.maxLocals = maxL → (∀ x ∈ c.exceptionTable.toList, False) → Pc args s →
      W p l e (headSpec ws rm).room s m args below meth c s.heap [] 0 0 (vx_MQ below Qc XC args s mc ms free) (entryFrame m args maxL)) : vx_Met l y ws rm Pc Qc XC mc ms free := by
  refine MetFree.of_bodySF (code := cc) (maxLocals := maxL) (ret := ret) hy ?_ ?_
  · intro args s m h hn
    obtain ⟨meth, c, h1, h2, h3, h4, h5, h6, -, -⟩ := Cond.code_spec hn (atoms_spec (ws := ws) h _ (by rw [hw]; exact List.mem_cons_self))
    exact ⟨meth, c, h1, h2, h3, h4, h5, h6⟩
  · intro p e s m args below meth c s₁ B hml hP _
    have hh0 : s₁.heap = s.heap := by rw [B.state]; rfl
    have ht : ∀ x ∈ c.exceptionTable.toList, False := by
      obtain ⟨meth9, c9, h1, h2, -, -, -, -, h7, -⟩ := Cond.code_spec B.named (atoms_spec (ws := ws) B.pre _ (by rw [hw]; exact List.mem_cons_self))
      cases Option.some.inj (h1.symm.trans B.method)
      cases Option.some.inj (h2.symm.trans (Stand.of_body B).code)
      intro x hx
      rw [Array.isEmpty_iff.mp h7] at hx
      cases hx
    obtain ⟨t, a1, o, b1, b2, b3⟩ := body p e s m args below meth c s₁ B hml ht hP s₁ hh0 (Stand.of_body B)
    exact ⟨t, o, a1, b1, b2, b3⟩
theorem pm_callD_ok {l : Launch} {s0 : State} {b0 : Nat} {ext : Nat → Nat} {D : va_G} {cl : List vw_C} {dA : Nat → ClassId} {Ts Nw : List Cond} {X : pX} {F : Nat → Nat → FieldType} {dfl : Nat → Nat × List Value} {stat : Nat → Option (String × String × String)} {Mt : List pM} {fuel : Nat}
    (hg : pm_good Ts) (hSt : ∀ s : State, s0.WarmedH s.vm → pm_St Ts Nw D cl dA b0 ext X stat s0.heap s) (hCl : pm_Cl Ts cl F dfl) (hoi : Cond.instanceMethod Lib.objectInit ∈ Ts ∧ Cond.code Lib.objectInit ⟨#[0xb1]⟩ 1 none ∈ Ts) (hMt : ∀ (y : Nat) (M : pM), Mt[y]? = some M → plainFor M.1 = true ∧ ∀ o ∈ M.2.2.2.2, pm_opok Ts Nw Mt cl stat M.1.cls M.1.name M.2.1 o) :
    ∀ d : Nat, pm_Met l s0 D cl dA b0 ext Ts Mt d (pm_callD X F dfl Mt fuel d) := by
  intro d
  induction d with
  | zero => intro y as G sl v G' sl' h; cases h
  | succ d ih =>
    intro y as G sl v G' sl' h
    have hm : ∀ y as G sl v G' sl', pm_callD X F dfl Mt fuel d y as G sl = some (.inl v, G', sl') → G.length ≤ G'.length ∧ sl ≤ sl' := fun y as G sl v G' sl' hc => ⟨(ih y as G sl v G' sl' hc).1, (ih y as G sl v G' sl' hc).2.1⟩
    simp only [pm_callD] at h
    split at h
    · next M hM =>
      split at h
      · next o tl hops =>
        split at h
        · next hq =>
          have h := pm_cut_l h
          have hlen := pm_exec_len (full := M.2.2.2.2) hm fuel (M.2.2.2.2, lv_args 0 as, [], G, sl) v G' sl' (fun o ho => ho) h
          dsimp only at hlen
          refine ⟨hlen.1, hlen.2, fun M' hM' => ?_⟩
          cases hM.symm.trans hM'
          obtain ⟨hpl, hfull⟩ := hMt y M hM
          refine pm_ofW (cc := M.2.1) (maxL := M.2.2.1) (ret := M.2.2.2.1) hpl rfl ?_
          intro p e s m args below meth c s₁ B hml hv
          obtain ⟨rfl, hW0, hR⟩ := hv
          have hts := atoms_spec (ws := pm_W M.1 M.2.1 M.2.2.1 M.2.2.2.1 Ts) B.pre
          have hown : s.vm.findClass M.1.cls = some m.cls := findClass_of_methodNamed B.named
          have S : CallFix p m c M.2.1 M.2.2.1 s (pm_S b0 ext as).toArray Ts M.1.cls := ⟨B.exec, B.bytes, hml, hown, fun w hw => hts w (List.mem_cons_of_mem _ hw)⟩
          have hmn : meth.name = M.1.name := (name_of_methodNamed B.named B.method).1
          have key := pm_exec_ok (p := p) (l := l) (e := e) (R := (headSpec (pm_W M.1 M.2.1 M.2.2.1 M.2.2.2.1 Ts) (pm_rm (d + 1) (G'.length - G.length) (sl' - sl))).room) (m := m) (below := below) (c := c) (nL := M.2.2.1) (g0 := G.length) (l0 := sl) S hg hW0 (hSt s hW0) hCl hmn B.returns B.notSynchronized ih (by show d + 1 ≤ d + 1; omega) (by show 41 * d + 43 + 41 ≤ 41 * (d + 1) + 43; omega) hoi hfull (by show G'.length - G.length ≤ G'.length - G.length; omega) (by show sl' - sl ≤ sl' - sl; omega) fuel (M.2.2.2.2, lv_args 0 as, [], G, sl) (fun o ho => ho) (Nat.le_refl _) (Nat.le_refl _) h
          have hl := lv_entry (pm_S b0 ext as) (n := M.2.2.1) (by rw [pm_sl_tr]; exact hq.2)
          have k2 := key s.heap [] _ o tl hops hR (fun q hq => by cases hq) (by
            rw [pm_args_tr]
            exact hl)
          dsimp only at k2
          rw [hq.1, Nat.sub_self, Nat.sub_self] at k2
          rw [lg_entry_eq]
          exact k2
        · cases h
      · cases h
    · cases h
