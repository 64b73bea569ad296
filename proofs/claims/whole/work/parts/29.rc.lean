/-! ===== ... its steps, its runs, a contract ===== -/
section RENS
variable {π : Nat → Nat} {n0 : Nat} {X : pX} {Ft : Nat → Nat → FieldType} {dfl : Nat → Nat × List Value} {Mt : List pM}
/-- a call does not look at the cells' numbers; nor does it take cells away -/
def cren (π : Nat → Nat) (n0 : Nat) (call : pCall) : Prop := ∀ y as G sl, n0 ≤ G.length → call y (as.map (vren π)) (gren π G) sl = (call y as G sl).map (rren π) ∧ ∀ r, call y as G sl = some r → n0 ≤ r.2.1.length
theorem hop_len {ins : Instr} {r1 r2 : Nat} {r3 : Int} {st : List Value} {G : pH} {sl : Nat} {q : List Value × pH × Nat} (h : pm_hop X Ft dfl ins r1 r2 r3 st G sl = some q) : G.length ≤ q.2.1.length := by
  unfold pm_hop at h
  split at h
  · split at h <;> cases h; exact Nat.le_refl _
  · split at h
    · next r hr => cases h; exact Nat.le_of_eq (pm_putf_len hr).symm
    · cases h
  · split at h <;> cases h; exact Nat.le_refl _
  · split at h <;> cases h; exact Nat.le_refl _
  · split at h <;> cases h; exact Nat.le_refl _
  · split at h <;> cases h; exact Nat.le_refl _
  · split at h <;> cases h; exact Nat.le_refl _
  · split at h
    · next r hr => cases h; exact Nat.le_of_eq (pm_iast_len hr).symm
    · cases h
  · split at h
    · next r hr => cases h; exact Nat.le_of_eq (pm_last_len hr).symm
    · cases h
  · split at h
    · next r hr => cases h; exact Nat.le_of_eq (pm_zast_len hr).symm
    · cases h
  · split at h
    · next r hr => cases h; exact Nat.le_of_eq (pm_aast_len hr).symm
    · cases h
  · split at h
    · cases h
      show G.length ≤ (G ++ _).length
      rw [List.length_append]
      omega
    · cases h
  · have := (pm_newa_len h).1; omega
  · have := (pm_anew_len h).1; omega
  · exact (pm_mna_len h).1
  · split at h
    · split at h
      · next r hr => cases h; exact Nat.le_of_eq (pm_cpy_len hr).symm
      · cases h
    · cases h
  · cases h; exact Nat.le_refl _
  · cases h; exact Nat.le_refl _
  · cases h; exact Nat.le_refl _
  · cases h; exact Nat.le_refl _
  · cases h
theorem step_ren (h : pinv π n0) (hd : ∀ r, (dfl r).2.map (vren π) = (dfl r).2) {call : pCall} (hc : cren π n0 call) (nL : Nat) (full : List pOp) (x : pC) (hn : n0 ≤ x.2.2.2.1.length) : pm_step X Ft dfl call nL full (xren π x) = (pm_step X Ft dfl call nL full x).map (xren π) ∧ ∀ x', pm_step X Ft dfl call nL full x = some x' → n0 ≤ x'.2.2.2.1.length := by
  obtain ⟨cur, lv, st, G, sl⟩ := x
  have hn : n0 ≤ G.length := hn
  rcases cur with _ | ⟨⟨pc, ins, len, r1, r2, r3⟩, tail⟩
  · exact ⟨rfl, fun x' hx => by cases hx⟩
  · simp only [xren, pm_step]
    rw [lop_ren, hop_ren h hn hd, ask_ren h hn]
    cases pm_lop nL ins lv st with
    | some r =>
      simp only [Option.map_some, oren]
      cases pm_to full tail pc len r.2.2 with
      | none => exact ⟨rfl, fun x' hx => by cases hx⟩
      | some c => exact ⟨rfl, fun x' hx => by cases hx; exact hn⟩
    | none =>
      simp only [Option.map_none]
      cases hh : pm_hop X Ft dfl ins r1 r2 r3 st G sl with
      | some r =>
        simp only [Option.map_some, h3ren]
        cases pm_to full tail pc len none with
        | none => exact ⟨rfl, fun x' hx => by cases hx⟩
        | some c => exact ⟨rfl, fun x' hx => by cases hx; exact Nat.le_trans hn (hop_len hh)⟩
      | none =>
        simp only [Option.map_none]
        cases pm_ask ins r2 r3 st G with
        | some q =>
          simp only [Option.map_some]
          obtain ⟨c1, c2⟩ := hc r1 q.1 G sl hn
          rw [c1]
          rcases hcall : call r1 q.1 G sl with _ | ⟨v, G', sl'⟩
          · exact ⟨rfl, fun x' hx => by cases hx⟩
          · have c3 := c2 _ hcall
            cases v with
            | inr E => exact ⟨rfl, fun x' hx => by cases hx⟩
            | inl v =>
              simp only [Option.map_some, rren]
              cases pm_to full tail pc len none with
              | none => exact ⟨rfl, fun x' hx => by cases hx⟩
              | some c =>
                refine ⟨?_, fun x' hx => by cases hx; exact c3⟩
                simp only [Option.map_some, xren, List.map_append]
                cases v <;> rfl
        | none =>
          simp only [Option.map_none]
          split
          · next idx k rest heq =>
            rcases st with _ | ⟨a, st⟩
            · cases heq
            · injection heq with h1 h2
              cases a <;> first | (cases h1; done) | skip
              next k' =>
                subst h2
                simp only [vren_cats]
                by_cases h8 : (st.map (fun v => v.category)).sum ≤ 8
                · simp only [if_pos h8]
                  cases pm_to full tail pc len none with
                  | none => exact ⟨rfl, fun x' hx => by cases hx⟩
                  | some c => exact ⟨rfl, fun x' hx => by cases hx; exact hn⟩
                · simp only [if_neg h8]
                  exact ⟨rfl, fun x' hx => by cases hx⟩
          · next hno =>
            split
            · next idx k rest => exact absurd rfl (hno idx (π k) (rest.map (vren π)) rfl rfl)
            · exact ⟨rfl, fun x' hx => by cases hx⟩
theorem thr_ren (h : pinv π n0) {call : pCall} (hc : cren π n0 call) (x : pC) (hn : n0 ≤ x.2.2.2.1.length) : pm_thr call (xren π x) = (pm_thr call x).map (rren π) ∧ ∀ r, pm_thr call x = some r → n0 ≤ r.2.1.length := by
  obtain ⟨cur, lv, st, G, sl⟩ := x
  have hn : n0 ≤ G.length := hn
  rcases cur with _ | ⟨⟨pc, ins, len, r1, r2, r3⟩, tail⟩
  · exact ⟨rfl, fun x' hx => by cases hx⟩
  · simp only [xren, pm_thr]
    have e1 : pm_isThrow ins r3 (st.map (vren π)) = pm_isThrow ins r3 st := by
      unfold pm_isThrow
      rw [vren_cats]
    rw [e1, ask_ren h hn]
    by_cases h1 : pm_isThrow ins r3 st = true
    · rw [if_pos h1, if_pos h1]
      refine ⟨?_, fun r hr => by cases hr; show n0 ≤ (G ++ _).length; rw [List.length_append]; omega⟩
      simp only [Option.map_some, rren]
      rw [gren_app h hn]
      rfl
    · rw [if_neg h1, if_neg h1]
      by_cases h2 : pm_mayThrow ins r3 = true
      · rw [if_pos h2, if_pos h2]
        cases pm_ask ins r2 r3 st G with
        | none => exact ⟨rfl, fun x' hx => by cases hx⟩
        | some q =>
          simp only [Option.map_some]
          obtain ⟨c1, c2⟩ := hc r1 q.1 G sl hn
          rw [c1]
          rcases hcall : call r1 q.1 G sl with _ | ⟨v, G', sl'⟩
          · exact ⟨rfl, fun x' hx => by cases hx⟩
          · have c3 := c2 _ hcall
            cases v with
            | inr E => exact ⟨rfl, fun x' hx => by cases hx; exact c3⟩
            | inl v => exact ⟨rfl, fun x' hx => by cases hx⟩
      · rw [if_neg h2, if_neg h2]
        exact ⟨rfl, fun x' hx => by cases hx⟩
theorem exec_ren (h : pinv π n0) (hd : ∀ r, (dfl r).2.map (vren π) = (dfl r).2) {call : pCall} (hc : cren π n0 call) (nL : Nat) (full : List pOp) (ret : Option FieldType) : ∀ (n : Nat) (x : pC), n0 ≤ x.2.2.2.1.length → pm_exec X Ft dfl call nL full ret n (xren π x) = (pm_exec X Ft dfl call nL full ret n x).map (rren π) ∧ ∀ r, pm_exec X Ft dfl call nL full ret n x = some r → n0 ≤ r.2.1.length := by
  intro n
  induction n with
  | zero => intro x _; exact ⟨rfl, fun r hr => by cases hr⟩
  | succ n ih =>
    intro x hn
    unfold pm_exec
    obtain ⟨f1, f2⟩ := fin_ren (π := π) ret x
    rw [f1]
    cases hf : pm_fin ret x with
    | some v =>
      refine ⟨?_, fun r hr => by cases hr; exact hn⟩
      simp only [Option.map_some, rren, f2 v hf]
      rfl
    | none =>
      dsimp only
      obtain ⟨s1, s2⟩ := step_ren (X := X) (Ft := Ft) h hd hc nL full x hn
      rw [s1]
      cases hs : pm_step X Ft dfl call nL full x with
      | some x' => exact ih x' (s2 x' hs)
      | none => exact thr_ren h hc x hn
theorem lvargs_ren : ∀ (as : List Value) (i : Nat), lv_args i (as.map (vren π)) = lren π (lv_args i as)
  | [], i => rfl
  | v :: as, i => by
    have ih := lvargs_ren as (if v.category = 2 then i + 2 else i + 1)
    simp only [lv_args, lren, List.map_cons, vren_cat] at ih ⊢
    rw [ih]
theorem sl_ren (as : List Value) : (lg_sl (as.map (vren π))).length = (lg_sl as).length := by
  induction as with
  | nil => rfl
  | cons v as ih =>
    cases v <;> simp_all [lg_sl, vren, Value.category]
theorem callD_ren (h : pinv π n0) (hd : ∀ r, (dfl r).2.map (vren π) = (dfl r).2) (fuel : Nat) : ∀ d : Nat, cren π n0 (pm_callD X Ft dfl Mt fuel d) := by
  intro d
  induction d with
  | zero => intro y as G sl _; exact ⟨rfl, fun r hr => by cases hr⟩
  | succ d ih =>
    intro y as G sl hn
    simp only [pm_callD]
    cases Mt[y]? with
    | none => exact ⟨rfl, fun r hr => by cases hr⟩
    | some M =>
      dsimp only
      cases hM : M.2.2.2.2 with
      | nil => exact ⟨rfl, fun r hr => by cases hr⟩
      | cons o t =>
        dsimp only
        rw [sl_ren]
        by_cases hc : o.1 = 0 ∧ (lg_sl as).length ≤ M.2.2.1
        · rw [if_pos hc, if_pos hc]
          obtain ⟨e1, e2⟩ := exec_ren (X := X) (Ft := Ft) h hd ih M.2.2.1 (o :: t) M.2.2.2.1 fuel (o :: t, lv_args 0 as, [], G, sl) hn
          have e3 : xren π (o :: t, lv_args 0 as, [], G, sl) = (o :: t, lv_args 0 (as.map (vren π)), [], gren π G, sl) := by
            rw [lvargs_ren]
            rfl
          rw [e3] at e1
          rw [e1]
          rcases hr : pm_exec X Ft dfl (pm_callD X Ft dfl Mt fuel d) M.2.2.1 (o :: t) M.2.2.2.1 fuel (o :: t, lv_args 0 as, [], G, sl) with _ | ⟨v, G', sl'⟩
          · exact ⟨rfl, fun r hr => by cases hr⟩
          · have e4 := e2 _ hr
            cases v with
            | inl v => exact ⟨rfl, fun r hr => by cases hr; exact e4⟩
            | inr E =>
              simp only [Option.map_some, rren, pm_cut]
              by_cases h5 : 5 ≤ d
              · rw [if_pos h5, if_pos h5]
                exact ⟨rfl, fun r hr => by cases hr; exact e4⟩
              · rw [if_neg h5, if_neg h5]
                exact ⟨rfl, fun r hr => by cases hr⟩
        · rw [if_neg hc, if_neg hc]
          exact ⟨rfl, fun r hr => by cases hr⟩
end RENS
