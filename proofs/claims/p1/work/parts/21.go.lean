theorem pm_hop_len {X : pX} {F : Nat → Nat → FieldType} {dfl : Nat → Nat × List Value} {ins : Instr} {r1 r2 : Nat} {r3 : Int} {st : List Value} {G : pH} {sl : Nat} {q : List Value × pH × Nat} (h : pm_hop X F dfl ins r1 r2 r3 st G sl = some q) : G.length ≤ q.2.1.length ∧ sl ≤ q.2.2 := by
  cases ins <;> simp only [pm_hop] at h
  case getfield => split at h <;> cases h; exact ⟨Nat.le_refl _, Nat.le_refl _⟩
  case putfield =>
    split at h
    · next hq => cases h; exact ⟨Nat.le_of_eq (pm_putf_len hq).symm, Nat.le_refl _⟩
    · cases h
  case arraylength => split at h <;> cases h; exact ⟨Nat.le_refl _, Nat.le_refl _⟩
  case iaload => split at h <;> cases h; exact ⟨Nat.le_refl _, Nat.le_refl _⟩
  case laload => split at h <;> cases h; exact ⟨Nat.le_refl _, Nat.le_refl _⟩
  case baload => split at h <;> cases h; exact ⟨Nat.le_refl _, Nat.le_refl _⟩
  case aaload => split at h <;> cases h; exact ⟨Nat.le_refl _, Nat.le_refl _⟩
  case iastore =>
    split at h
    · next hq => cases h; exact ⟨Nat.le_of_eq (pm_iast_len hq).symm, Nat.le_refl _⟩
    · cases h
  case lastore =>
    split at h
    · next hq => cases h; exact ⟨Nat.le_of_eq (pm_last_len hq).symm, Nat.le_refl _⟩
    · cases h
  case bastore =>
    split at h
    · next hq => cases h; exact ⟨Nat.le_of_eq (pm_zast_len hq).symm, Nat.le_refl _⟩
    · cases h
  case aastore =>
    split at h
    · next hq => cases h; exact ⟨Nat.le_of_eq (pm_aast_len hq).symm, Nat.le_refl _⟩
    · cases h
  case new =>
    split at h
    · cases h; exact ⟨by simp [pm_new], by simp [pm_new]⟩
    · cases h
  case newarray => have := pm_newa_len h; exact ⟨by omega, this.2⟩
  case anewarray => have := pm_anew_len h; exact ⟨by omega, this.2⟩
  case multianewarray => exact pm_mna_len h
  case invokestatic =>
    split at h
    · split at h
      · next hq => cases h; exact ⟨Nat.le_of_eq (pm_cpy_len hq).symm, Nat.le_refl _⟩
      · cases h
    · cases h
  case getstatic => cases h; exact ⟨Nat.le_refl _, Nat.le_refl _⟩
  case ldc => cases h; exact ⟨Nat.le_refl _, Nat.le_refl _⟩
  case ldc_w => cases h; exact ⟨Nat.le_refl _, Nat.le_refl _⟩
  case ldc2_w => cases h; exact ⟨Nat.le_refl _, Nat.le_refl _⟩
  all_goals (cases h)
/-- the machine at a configuration of the pure one -/
def pm_WC (p : Program) (l : Launch) (e : Env) (R : Room) (s : State) (m : MethodId) (args : Array Value) (below : List Frame) (meth : Method) (c : Code) (Q : State → Prop) (s0 : State) (D : va_G) (cl : List vw_C) (dA : Nat → ClassId) (b0 : Nat) (ext : Nat → Nat) (nL g0 l0 : Nat) (x : pC) : Prop :=
  ∀ (H : Heap) (locs : List Loc) (ls : Array Slot) (o : pOp) (t : List pOp), x.1 = o :: t → pm_R D cl dA b0 ext s0.heap x.2.2.2.1 H → pm_B b0 locs → lv_has ls nL (pm_L b0 ext x.2.1) → W p l e R s m args below meth c H locs (x.2.2.2.1.length - g0) (x.2.2.2.2 - l0) Q (F0 m o.1 ls (pm_S b0 ext x.2.2.1))
section PGO
variable {p : Program} {l : Launch} {e : Env} {R : Room} {s s0 : State} {m : MethodId} {args : Array Value} {below : List Frame} {meth : Method} {c : Code} {Q : State → Prop}
variable {cc : ByteArray} {nL b0 : Nat} {ext : Nat → Nat} {D : va_G} {cl : List vw_C} {dA : Nat → ClassId} {Ts Nw : List Cond} {own mname : String} {X : pX} {F : Nat → Nat → FieldType} {dfl : Nat → Nat × List Value} {stat : Nat → Option (String × String × String)} {Mt : List pM}
theorem pm_step_len {call : pCall} {full : List pOp} {x x' : pC} (hm : ∀ y as G sl v G' sl', call y as G sl = some (.inl v, G', sl') → G.length ≤ G'.length ∧ sl ≤ sl') (hsub : ∀ o ∈ x.1, o ∈ full) (h : pm_step X F dfl call nL full x = some x') : x.2.2.2.1.length ≤ x'.2.2.2.1.length ∧ x.2.2.2.2 ≤ x'.2.2.2.2 ∧ ∀ o ∈ x'.1, o ∈ full := by
  unfold pm_step at h
  split at h
  · next pc ins len r1 r2 r3 tail lv st G sl =>
    have ht : ∀ o ∈ tail, o ∈ full := fun o ho => hsub o (List.mem_cons_of_mem _ ho)
    split at h
    · split at h
      · next cur hc => cases h; exact ⟨Nat.le_refl _, Nat.le_refl _, (pm_to_ok hc ht).1⟩
      · cases h
    · split at h
      · next r hr =>
        split at h
        · next cur hc =>
          cases h
          have := pm_hop_len hr
          exact ⟨this.1, this.2, (pm_to_ok hc ht).1⟩
        · cases h
      · split at h
        · split at h
          · next v G' sl' hcall =>
            split at h
            · next cur hc =>
              cases h
              have := hm _ _ _ _ _ _ _ hcall
              exact ⟨this.1, this.2, (pm_to_ok hc ht).1⟩
            · cases h
          · cases h
        · split at h
          · split at h
            · split at h
              · next cur hc => cases h; exact ⟨Nat.le_refl _, Nat.le_refl _, (pm_to_ok hc ht).1⟩
              · cases h
            · cases h
          · cases h
  · cases h
theorem pm_step_ok (S : CallFix p m c cc nL s args Ts own) (hg : pm_good Ts) (hW0 : s0.WarmedH s.vm) (hSt : pm_St Ts Nw D cl dA b0 ext X stat s0.heap s) (hCl : pm_Cl Ts cl F dfl) (hmn : meth.name = mname) {d : Nat} {call : pCall} (hS : pm_Met l s0 D cl dA b0 ext Ts Mt d call) (hd7 : d + 1 ≤ R.frames) (hd8 : 41 * d + 43 + 41 ≤ R.locals)
    (hoi : Cond.instanceMethod Lib.objectInit ∈ Ts ∧ Cond.code Lib.objectInit ⟨#[0xb1]⟩ 1 none ∈ Ts) {full : List pOp} {x x' : pC} (hhd : ∀ o t, x.1 = o :: t → pm_opok Ts Nw Mt cl stat own mname cc o) (hsub : ∀ o ∈ x.1, o ∈ full) (h : pm_step X F dfl call nL full x = some x') {o' : pOp} {t' : List pOp} (hne : x'.1 = o' :: t') {g0 l0 : Nat} (hg0 : g0 ≤ x.2.2.2.1.length) (hl0 : l0 ≤ x.2.2.2.2) (hcells : x'.2.2.2.1.length - g0 ≤ R.cells) (hslots : x'.2.2.2.2 - l0 ≤ R.slots)
    (kk : pm_WC p l e R s m args below meth c Q s0 D cl dA b0 ext nL g0 l0 x') : pm_WC p l e R s m args below meth c Q s0 D cl dA b0 ext nL g0 l0 x := by
  obtain ⟨hx, hb, hml, hown, hts⟩ := id S
  have hmono := pm_step_len (fun y as G sl v G' sl' hc => ⟨(hS y as G sl v G' sl' hc).1, (hS y as G sl v G' sl' hc).2.1⟩) hsub h
  unfold pm_step at h
  split at h
  · next pc ins len r1 r2 r3 tail lv st G sl =>
    have ht : ∀ o ∈ tail, o ∈ full := fun o ho => hsub o (List.mem_cons_of_mem _ ho)
    have hop := hhd _ _ rfl
    have hop2 := hop
    obtain ⟨hd, hln, hop⟩ := hop
    dsimp only at hg0 hl0 hmono
    split at h
    · next r hr =>
      split at h
      · next cur hc =>
        cases h
        intro H locs ls o t ho hR hB hl
        cases ho
        obtain ⟨-, hnext⟩ := pm_to_ok hc ht
        refine pm_lop_ok hx hb hd hln hr (fun off hoff => ?_) (fun cnd off hq => ?_) ls o'.1 hl (hnext _ _ hne) (fun ls' hl' => kk H locs ls' o' t' hne hR hB hl')
        · unfold pm_to at hc
          rw [hoff] at hc
          dsimp only at hc
          split at hc
          · assumption
          · cases hc
        · rcases hq with hq | hq
          · subst hq; exact hop
          · subst hq; exact hop
      · cases h
    · split at h
      · next r hr =>
        obtain ⟨st', G', sl'⟩ := r
        split at h
        · next cur hc =>
          cases h
          intro H locs ls o t ho hR hB hl
          cases ho
          obtain ⟨-, hnext⟩ := pm_to_ok hc ht
          have hn : o'.1 = pc + len := hnext _ _ hne
          dsimp only at hcells hslots hmono
          have e1 : G.length - g0 + (G'.length - G.length) = G'.length - g0 := by omega
          have e2 : sl - l0 + (sl' - sl) = sl' - l0 := by omega
          refine (pm_hop_ok S (by omega) (by omega) hl.1 hSt hCl hmn hop2 hr hR hB (by rw [e1]; exact hcells) (by rw [e2]; exact hslots) (fun H1 locs1 h1 h2 => ?_)).2
          rw [e1, e2, ← hn]
          exact kk H1 locs1 ls o' t' hne h1 h2 hl
        · cases h
      · split at h
        · next q hq =>
          obtain ⟨as, rest⟩ := q
          split at h
          · next v G' sl' hcall =>
            split at h
            · next cur hc =>
              cases h
              intro H locs ls o t ho hR hB hl
              cases ho
              obtain ⟨-, hnext⟩ := pm_to_ok hc ht
              have hn : o'.1 = pc + len := hnext _ _ hne
              dsimp only at hcells hslots hmono hcall
              have e1 : G.length - g0 + (G'.length - G.length) = G'.length - g0 := by omega
              have e2 : sl - l0 + (sl' - sl) = sl' - l0 := by omega
              have fin : ∀ (H1 : Heap) (locs1 : List Loc), pm_R D cl dA b0 ext s0.heap G' H1 → pm_B b0 locs1 → W p l e R s m args below meth c H1 locs1 (G.length - g0 + (G'.length - G.length)) (sl - l0 + (sl' - sl)) Q (F0 m (pc + len) ls (pm_S b0 ext (v.toList ++ rest))) := by
                intro H1 locs1 h1 h2
                rw [e1, e2, ← hn]
                exact kk H1 locs1 ls o' t' hne h1 h2 hl
              cases ins <;> simp only [pm_ask] at hq
              case invokestatic idx =>
                simp only [pm_len, beq_iff_eq] at hln; subst hln
                have h7 : r3 ≠ 7 := fun h7 => by rw [if_pos h7] at hq; cases hq
                rw [if_neg h7] at hq
                obtain ⟨M, q1, q2, q3, q4, q5, q6, q7⟩ := hop.2 h7
                by_cases h8 : r3 = 8
                · rw [if_pos h8] at hq
                  rcases q2 with q2 | ⟨q2, -⟩
                  · exact pm_callS9_ok S hg hW0 hS hd7 hd8 q1 q2 q3 q4 q5 (q6.2 h8) q7 hq hcall hR hB hl.1 hd (by rw [e1]; exact hcells) (by rw [e2]; exact hslots) fin
                  · exfalso; omega
                · rw [if_neg h8] at hq
                  refine pm_callS_ok S hg hW0 hS hd7 hd8 q1 ?_ q3 q4 q5 q6.1 q7 hq hcall hR hB hl.1 hd (by rw [e1]; exact hcells) (by rw [e2]; exact hslots) fin
                  rcases q2 with q2 | ⟨-, host, q2⟩
                  · exact Or.inl q2
                  · exact Or.inr ⟨host, hSt.2.2.2.1 _ q2⟩
              case invokespecial idx =>
                simp only [pm_len, beq_iff_eq] at hln; subst hln
                split at hq
                · next h0 =>
                  split at hq
                  · next k as' rest' ha =>
                    cases hq
                    obtain ⟨M, n, rfl, q1, q2, q3, q4, q5, q6, q7, q8, q9⟩ := hop.1 h0
                    exact pm_callI_ok S hg hW0 hS hd7 hd8 q1 q2 q3 q4 q5 q6 q7 q8 q9 ha hcall hR hB hl.1 hd (by rw [e1]; exact hcells) (by rw [e2]; exact hslots) fin
                  · cases hq
                · cases hq
              case invokevirtual idx =>
                simp only [pm_len, beq_iff_eq] at hln; subst hln
                split at hq
                · next q' ha =>
                  split at hq
                  · next hrc =>
                    cases hq
                    obtain ⟨M, n, qc, rfl, q1, qc1, qc2, q2, q3, q4, q5, q6, q7, q8⟩ := hop
                    exact pm_callV_ok S hg hW0 hSt.1 hS hd7 hd8 q1 qc1 qc2 q2 q3 q4 q5 q6 q7 q8 ha hrc hcall hR hB hl.1 hd (by rw [e1]; exact hcells) (by rw [e2]; exact hslots) fin
                  · cases hq
                · cases hq
              all_goals (cases hq)
            · cases h
          · cases h
        · split at h
          · next idx a rest h7 h8 h9 =>
            split at h
            · next hcat =>
              split at h
              · next cur hc =>
                cases h
                intro H locs ls o t ho hR hB hl
                cases ho
                obtain ⟨-, hnext⟩ := pm_to_ok hc ht
                have hn : o'.1 = pc + len := hnext _ _ hne
                simp only [pm_len, beq_iff_eq] at hln; subst hln
                have hcat' : ((pm_S b0 ext rest).map (fun v => v.category)).sum ≤ 8 := by
                  have e9 : (pm_S b0 ext rest).map (fun v => v.category) = rest.map (fun v => v.category) := by
                    unfold pm_S
                    rw [List.map_map]
                    exact List.map_congr_left (fun v _ => pm_cat' b0 ext v)
                  rw [e9]; exact hcat
                have hlink := hop.2 rfl
                refine W.objInit hx hb hown (hts _ hlink) (hts _ hoi.1) (hts _ hoi.2) (g := F0 m pc ls (pm_S b0 ext (.ref a :: rest))) rfl (by rw [hml]; exact hl.1) (a := b0 + a) (rest := pm_S b0 ext rest) rfl hd (by omega) ?_ ?_
                · show 2 * 0 + _ + 12 ≤ R.locals
                  omega
                · have := kk H locs ls o' t' hne hR hB hl
                  rw [hn] at this
                  exact this
              · cases h
            · cases h
          · cases h
  · cases h
end PGO
