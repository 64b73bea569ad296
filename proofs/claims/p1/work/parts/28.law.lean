/-! ===== the law's own frame: steps, and calls of its helpers ===== -/
abbrev pHc : Type := Nat → List Value → pH → Nat → Option (Int32 × pH × Nat)
def pm_isHelp (ins : Instr) (r3 : Int) : Bool := match ins with
  | .invokestatic _ => decide (r3 = 6)
  | _ => false
def pm_stepL (X : pX) (F : Nat → Nat → FieldType) (dfl : Nat → Nat × List Value) (call : pCall) (hc : pHc) (nL : Nat) (full : List pOp) (x : pC) : Option pC := match x with
  | ((pc, ins, len, r1, r2, r3) :: tail, lv, st, G, sl) => if pm_isHelp ins r3 = true then match pm_argsOf r2 st with
      | some q => match hc r1 q.1 G sl with
        | some (v, G', sl') => match pm_to full tail pc len none with
          | some cur => some (cur, lv, .int v :: q.2, G', sl')
          | none => none
        | none => none
      | none => none
    else pm_step X F dfl call nL full x
  | _ => none
def pm_iterL (X : pX) (F : Nat → Nat → FieldType) (dfl : Nat → Nat × List Value) (call : pCall) (hc : pHc) (nL : Nat) (full : List pOp) : Nat → pC → Option pC
  | 0, x => some x
  | n + 1, x => match pm_stepL X F dfl call hc nL full x with
    | some x' => pm_iterL X F dfl call hc nL full n x'
    | none => none
theorem pm_iterL_add {X : pX} {F : Nat → Nat → FieldType} {dfl : Nat → Nat × List Value} {call : pCall} {hc : pHc} {nL : Nat} {full : List pOp} : ∀ (n k : Nat) (x : pC), pm_iterL X F dfl call hc nL full (n + k) x = (pm_iterL X F dfl call hc nL full n x).bind (pm_iterL X F dfl call hc nL full k)
  | 0, k, x => by rw [Nat.zero_add]; rfl
  | n + 1, k, x => by
    rw [Nat.succ_add]
    simp only [pm_iterL]
    cases h : pm_stepL X F dfl call hc nL full x with
    | none => rfl
    | some x' => exact pm_iterL_add n k x'
/-- what a helper's answer means -/
def pm_MetH (l : Launch) (s0 : State) (D : va_G) (cl : List vw_C) (dA : Nat → ClassId) (b0 : Nat) (ext : Nat → Nat) (Ts : List Cond) (Hm : Nat → Option (pM × List (Nat × Nat × Nat × Nat))) (d : Nat) (hc : pHc) : Prop :=
  ∀ (y : Nat) (as : List Value) (G : pH) (sl : Nat) (v : Int32) (G' : pH) (sl' : Nat), hc y as G sl = some (v, G', sl') → (G.length ≤ G'.length ∧ sl ≤ sl') ∧ ∀ q, Hm y = some q →
    Met l q.1.1 (Cond.codeWith q.1.1 q.1.2.1 q.1.2.2.1 q.1.2.2.2.1 q.2 :: Ts) (pm_rm d (G'.length - G.length) (sl' - sl)) (pm_Pc s0 D cl dA b0 ext as G) (pm_Qc s0 D cl dA b0 ext (some (.int v)) G') (G'.length - G.length) (sl' - sl) (fun q => b0 ≤ q)
/-- what the tables must say of a helper's call -/
def pm_hpok (Ts : List Cond) (Hm : Nat → Option (pM × List (Nat × Nat × Nat × Nat))) (own : String) (cc : ByteArray) (o : pOp) : Prop := match o with
  | (pc, ins, len, r1, r2, _) => ∃ idx, ins = .invokestatic idx ∧ len = 3 ∧ decode cc pc = .ok (.invokestatic idx, 3) ∧ ∃ q : pM × List (Nat × Nat × Nat × Nat), Hm r1 = some q ∧ Cond.methodLink own idx q.1.1 ∈ Ts ∧ Cond.static q.1.1 ∈ Ts ∧ Cond.initialized q.1.1.cls ∈ Ts ∧ Cond.codeWith q.1.1 q.1.2.1 q.1.2.2.1 q.1.2.2.2.1 q.2 ∈ Ts ∧ q.1.2.2.1 ≤ 22 ∧ (q.1.1.cls ≠ "java/lang/invoke/MethodHandle" ∧ q.1.1.cls ≠ "java/lang/invoke/VarHandle" ∧ (parseMethodDescriptor q.1.1.desc).map (fun d => d.parameters.length) = some r2)
section PLW
variable {p : Program} {l : Launch} {e : Env} {R : Room} {s s0 : State} {m : MethodId} {args : Array Value} {below : List Frame} {meth : Method} {c : Code} {Q : State → Prop}
variable {cc : ByteArray} {nL b0 : Nat} {ext : Nat → Nat} {D : va_G} {cl : List vw_C} {dA : Nat → ClassId} {Ts Nw : List Cond} {own mname : String} {X : pX} {F : Nat → Nat → FieldType} {dfl : Nat → Nat × List Value} {stat : Nat → Option (String × String × String)} {Mt : List pM} {Hm : Nat → Option (pM × List (Nat × Nat × Nat × Nat))}
theorem pm_stepL_len {call : pCall} {hc : pHc} {full : List pOp} {x x' : pC} (hm : ∀ y as G sl v G' sl', call y as G sl = some (.inl v, G', sl') → G.length ≤ G'.length ∧ sl ≤ sl') (hmh : ∀ y as G sl v G' sl', hc y as G sl = some (v, G', sl') → G.length ≤ G'.length ∧ sl ≤ sl') (hsub : ∀ o ∈ x.1, o ∈ full) (h : pm_stepL X F dfl call hc nL full x = some x') : x.2.2.2.1.length ≤ x'.2.2.2.1.length ∧ x.2.2.2.2 ≤ x'.2.2.2.2 ∧ ∀ o ∈ x'.1, o ∈ full := by
  unfold pm_stepL at h
  split at h
  · next pc ins len r1 r2 r3 tail lv st G sl =>
    split at h
    · split at h
      · split at h
        · next v G' sl' hcall =>
          split at h
          · next cur hto =>
            cases h
            have h1 := hmh _ _ _ _ _ _ _ hcall
            exact ⟨h1.1, h1.2, (pm_to_ok hto (fun o ho => hsub o (List.mem_cons_of_mem _ ho))).1⟩
          · cases h
        · cases h
      · cases h
    · exact pm_step_len hm hsub h
  · cases h
theorem pm_stepL_ok (S : CallFix p m c cc nL s args Ts own) (hg : pm_good Ts) (hW0 : s0.WarmedH s.vm) (hSt : pm_St Ts Nw D cl dA b0 ext X stat s0.heap s) (hCl : pm_Cl Ts cl F dfl) (hmn : meth.name = mname) {d : Nat} {call : pCall} {hc : pHc} (hS : pm_Met l s0 D cl dA b0 ext Ts Mt d call) (hH : pm_MetH l s0 D cl dA b0 ext Ts Hm d hc) (hd7 : d + 1 ≤ R.frames) (hd8 : 41 * d + 43 + 41 ≤ R.locals)
    (hoi : Cond.instanceMethod Lib.objectInit ∈ Ts ∧ Cond.code Lib.objectInit ⟨#[0xb1]⟩ 1 none ∈ Ts) {full : List pOp} (hfull : ∀ o ∈ full, if pm_isHelp o.2.1 o.2.2.2.2.2 = true then pm_hpok Ts Hm own cc o else pm_opok Ts Nw Mt cl stat own mname cc o) {x x' : pC} (hsub : ∀ o ∈ x.1, o ∈ full) (h : pm_stepL X F dfl call hc nL full x = some x') {o' : pOp} {t' : List pOp} (hne : x'.1 = o' :: t') {g0 l0 : Nat} (hg0 : g0 ≤ x.2.2.2.1.length) (hl0 : l0 ≤ x.2.2.2.2) (hcells : x'.2.2.2.1.length - g0 ≤ R.cells) (hslots : x'.2.2.2.2 - l0 ≤ R.slots)
    (kk : pm_WC p l e R s m args below meth c Q s0 D cl dA b0 ext nL g0 l0 x') : pm_WC p l e R s m args below meth c Q s0 D cl dA b0 ext nL g0 l0 x := by
  obtain ⟨hx, hb, hml, hown, hts⟩ := id S
  unfold pm_stepL at h
  split at h
  · next pc ins len r1 r2 r3 tail lv st G sl =>
    have hop := hfull _ (hsub _ List.mem_cons_self)
    dsimp only at hop hg0 hl0
    split at h
    · next hh =>
      rw [if_pos hh] at hop
      split at h
      · next q ha =>
        obtain ⟨as, rest⟩ := q
        split at h
        · next v G' sl' hcall =>
          split at h
          · next cur hto =>
            cases h
            dsimp only at hcall hcells hslots
            obtain ⟨idx, rfl, rfl, hd, ⟨M, hh2⟩, q1, q2, q3, q4, q5, q6, q7⟩ := hop
            dsimp only at q1 q2 q3 q4 q5 q6 q7
            obtain ⟨hmo, hMet⟩ := hH _ _ _ _ _ _ _ hcall
            have hMet := hMet _ q1
            dsimp only at hMet
            obtain ⟨-, hnext⟩ := pm_to_ok hto (fun o ho => hsub o (List.mem_cons_of_mem _ ho))
            have hn : o'.1 = pc + 3 := hnext _ _ hne
            intro H locs ls o t ho hR hB hl
            cases ho
            dsimp only at hR hl ⊢
            have e1 : G.length - g0 + (G'.length - G.length) = G'.length - g0 := by omega
            have e2 : sl - l0 + (sl' - sl) = sl' - l0 := by omega
            obtain ⟨a1, a2, a3⟩ := pm_argsOf_ok ha b0 ext
            have hp : PreS s H (pm_Pc s0 D cl dA b0 ext as G) (pm_S b0 ext as) := ⟨pm_blind s0 D cl dA b0 ext as G, fun U hU hW => ⟨rfl, State.WarmedH.trans hW0 hW, by rw [hU]; exact hR⟩⟩
            have hRR : (pm_rm d (G'.length - G.length) (sl' - sl)).frames + 1 ≤ R.frames ∧ 8 + (M.2.2.1 + 11) + (pm_rm d (G'.length - G.length) (sl' - sl)).locals ≤ R.locals := ⟨hd7, by show 8 + (M.2.2.1 + 11) + (41 * d + 43) ≤ R.locals; omega⟩
            have hlen : (pm_S b0 ext as).length = r2 := by unfold pm_S; rw [List.length_map]; exact a1
            have cw : vx_CSW R s args own idx M.1 M.2.1 M.2.2.1 M.2.2.2.1 hh2 (Cond.codeWith M.1 M.2.1 M.2.2.1 M.2.2.2.1 hh2 :: Ts) (pm_rm d (G'.length - G.length) (sl' - sl)) (G'.length - G.length) (sl' - sl) r2 := by
              refine ⟨⟨rfl, rfl, hRR.1, hRR.2, pay_in hts (pm_goodIn hg q5), List.mem_cons_self⟩, hts _ q5, hts _ q4, ⟨q7.1, q7.2.1⟩, fun sig hs => ?_, hts _ q2, hts _ q3⟩
              have h2 := q7.2.2
              rw [hs] at h2
              exact (Option.some.inj h2).symm
            refine pm_after (vx_runSW S hMet cw hp rfl hlen hl.1 a2 (lv_room a3) hd ⟨by rw [e1]; exact hcells, by rw [e2]; exact hslots⟩) hB (fun H1 locs1 h1 h2 => ?_)
            rw [e1, e2, ← hn]
            exact kk H1 locs1 ls o' t' hne h1 h2 hl
          · cases h
        · cases h
      · cases h
    · next hh =>
      rw [if_neg hh] at hop
      exact pm_step_ok S hg hW0 hSt hCl hmn hS hd7 hd8 hoi (fun o t ho => by cases ho; exact hop) hsub h hne hg0 hl0 hcells hslots kk
  · cases h
theorem pm_iterL_ok (S : CallFix p m c cc nL s args Ts own) (hg : pm_good Ts) (hW0 : s0.WarmedH s.vm) (hSt : pm_St Ts Nw D cl dA b0 ext X stat s0.heap s) (hCl : pm_Cl Ts cl F dfl) (hmn : meth.name = mname) {d : Nat} {call : pCall} {hc : pHc} (hS : pm_Met l s0 D cl dA b0 ext Ts Mt d call) (hH : pm_MetH l s0 D cl dA b0 ext Ts Hm d hc) (hd7 : d + 1 ≤ R.frames) (hd8 : 41 * d + 43 + 41 ≤ R.locals)
    (hoi : Cond.instanceMethod Lib.objectInit ∈ Ts ∧ Cond.code Lib.objectInit ⟨#[0xb1]⟩ 1 none ∈ Ts) {full : List pOp} (hfull : ∀ o ∈ full, if pm_isHelp o.2.1 o.2.2.2.2.2 = true then pm_hpok Ts Hm own cc o else pm_opok Ts Nw Mt cl stat own mname cc o) {g0 l0 : Nat} :
    ∀ (n : Nat) (x x' : pC) (o' : pOp) (t' : List pOp), (∀ o ∈ x.1, o ∈ full) → pm_iterL X F dfl call hc nL full n x = some x' → x'.1 = o' :: t' → g0 ≤ x.2.2.2.1.length → l0 ≤ x.2.2.2.2 → x'.2.2.2.1.length - g0 ≤ R.cells → x'.2.2.2.2 - l0 ≤ R.slots → pm_WC p l e R s m args below meth c Q s0 D cl dA b0 ext nL g0 l0 x' → pm_WC p l e R s m args below meth c Q s0 D cl dA b0 ext nL g0 l0 x := by
  have hm : ∀ y as G sl v G' sl', call y as G sl = some (.inl v, G', sl') → G.length ≤ G'.length ∧ sl ≤ sl' := fun y as G sl v G' sl' hcl => ⟨(hS y as G sl v G' sl' hcl).1, (hS y as G sl v G' sl' hcl).2.1⟩
  have hmh : ∀ y as G sl v G' sl', hc y as G sl = some (v, G', sl') → G.length ≤ G'.length ∧ sl ≤ sl' := fun y as G sl v G' sl' hcl => (hH y as G sl v G' sl' hcl).1
  have mono : ∀ (n : Nat) (x x' : pC), (∀ o ∈ x.1, o ∈ full) → pm_iterL X F dfl call hc nL full n x = some x' → x.2.2.2.1.length ≤ x'.2.2.2.1.length ∧ x.2.2.2.2 ≤ x'.2.2.2.2 := by
    intro n
    induction n with
    | zero => intro x x' _ h; cases h; exact ⟨Nat.le_refl _, Nat.le_refl _⟩
    | succ n ih =>
      intro x x' hsub h
      simp only [pm_iterL] at h
      split at h
      · next x1 hx1 =>
        have h1 := pm_stepL_len hm hmh hsub hx1
        have h2 := ih x1 x' h1.2.2 h
        exact ⟨Nat.le_trans h1.1 h2.1, Nat.le_trans h1.2.1 h2.2⟩
      · cases h
  intro n
  induction n with
  | zero => intro x x' o' t' _ h _ _ _ _ _ kk; cases h; exact kk
  | succ n ih =>
    intro x x' o' t' hsub h hne hg0 hl0 hcells hslots kk
    simp only [pm_iterL] at h
    split at h
    · next x1 hx1 =>
      have h1 := pm_stepL_len hm hmh hsub hx1
      have h2 := mono n x1 x' h1.2.2 h
      have h3 := ih x1 x' o' t' h1.2.2 h hne (Nat.le_trans hg0 h1.1) (Nat.le_trans hl0 h1.2.1) hcells hslots kk
      cases hcur : x1.1 with
      | nil =>
        exfalso
        cases n with
        | zero =>
          cases h
          rw [hcur] at hne
          cases hne
        | succ n =>
          simp only [pm_iterL] at h
          obtain ⟨cur, lv, st, G, sl⟩ := x1
          dsimp only at hcur
          subst hcur
          simp [pm_stepL] at h
      | cons o t => exact pm_stepL_ok S hg hW0 hSt hCl hmn hS hH hd7 hd8 hoi hfull hsub hx1 hcur hg0 hl0 (by omega) (by omega) h3
    · cases h
end PLW
