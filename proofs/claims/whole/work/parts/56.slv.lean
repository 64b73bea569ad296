/-! ===== more locals do no harm ===== -/
noncomputable def lvle (a b : pL) : Prop := ∀ q ∈ a, q ∈ b
noncomputable def lvnd (b : pL) : Prop := (b.map (fun q => q.1)).Nodup
theorem lvget_mem {a : pL} {i : Nat} {v : Value} (h : pm_get a i = some v) : (i, v) ∈ a := by
  unfold pm_get at h
  split at h
  · next q hq =>
    cases h
    have h1 := List.mem_of_find?_eq_some hq
    have h2 := List.find?_some hq
    simp only [beq_iff_eq] at h2
    rw [← h2]
    exact h1
  · cases h
theorem lvmem_get : ∀ {b : pL} {i : Nat} {v : Value}, lvnd b → (i, v) ∈ b → pm_get b i = some v
  | [], i, v, _, h => by cases h
  | q :: b, i, v, hn, h => by
    unfold pm_get
    rw [List.find?_cons]
    unfold lvnd at hn
    rw [List.map_cons, List.nodup_cons] at hn
    rcases List.mem_cons.mp h with h | h
    · subst h
      simp
    · have hne : q.1 ≠ i := fun e => hn.1 (by rw [e]; exact List.mem_map.mpr ⟨(i, v), h, rfl⟩)
      rw [show (q.1 == i) = false from beq_eq_false_iff_ne.mpr hne]
      exact lvmem_get hn.2 h
theorem lvle.get {a b : pL} (h : lvle a b) (hn : lvnd b) {i : Nat} {v : Value} (hg : pm_get a i = some v) : pm_get b i = some v := lvmem_get hn (h _ (lvget_mem hg))
theorem lvle.flt {a b : pL} (h : lvle a b) (i : Nat) (v : Value) (p : Nat × Value → Bool) : lvle ((i, v) :: a.filter p) ((i, v) :: b.filter p) := fun q hq => by
  rcases List.mem_cons.mp hq with e | hq
  · rw [e]; exact List.mem_cons_self
  · obtain ⟨h1, h2⟩ := List.mem_filter.mp hq
    exact List.mem_cons_of_mem _ (List.mem_filter.mpr ⟨h q h1, h2⟩)
theorem lvnd.flt {b : pL} (hn : lvnd b) (i : Nat) (v : Value) (p : Nat × Value → Bool) (hp : ∀ q, q.1 = i → p q = false) : lvnd ((i, v) :: b.filter p) := by
  unfold lvnd at hn ⊢
  rw [List.map_cons, List.nodup_cons]
  refine ⟨fun hm => ?_, hn.sublist (List.filter_sublist.map _)⟩
  obtain ⟨q, hq, e⟩ := List.mem_map.mp hm
  obtain ⟨h1, h2⟩ := List.mem_filter.mp hq
  rw [hp q e] at h2
  cases h2
theorem lv_set1 {a b : pL} (h : lvle a b) (hn : lvnd b) (i : Nat) (v : Value) : lvle (pm_set1 a i v) (pm_set1 b i v) ∧ lvnd (pm_set1 b i v) :=
  ⟨h.flt i v _, hn.flt i v _ (fun q e => by rw [e]; simp)⟩
theorem lv_set2 {a b : pL} (h : lvle a b) (hn : lvnd b) (i : Nat) (v : Value) : lvle (pm_set2 a i v) (pm_set2 b i v) ∧ lvnd (pm_set2 b i v) :=
  ⟨h.flt i v _, hn.flt i v _ (fun q e => by rw [e]; simp)⟩
theorem lvm_lop {a b : pL} (h : lvle a b) (hn : lvnd b) {nL : Nat} {st : List Value} {ins : Instr} {x : pL × List Value × Option Int} (hx : pm_lop nL ins a st = some x) : ∃ b', pm_lop nL ins b st = some (b', x.2.1, x.2.2) ∧ lvle x.1 b' ∧ lvnd b' := by
  have ld : ∀ i, pm_iload a st i = some x → ∃ b', pm_iload b st i = some (b', x.2.1, x.2.2) ∧ lvle x.1 b' ∧ lvnd b' := fun i hx => by
    unfold pm_iload at hx ⊢
    split at hx
    · next v hv => cases hx; rw [h.get hn hv]; exact ⟨b, rfl, h, hn⟩
    · cases hx
  have ll : ∀ i, pm_lload a st i = some x → ∃ b', pm_lload b st i = some (b', x.2.1, x.2.2) ∧ lvle x.1 b' ∧ lvnd b' := fun i hx => by
    unfold pm_lload at hx ⊢
    split at hx
    · next v hv => cases hx; rw [h.get hn hv]; exact ⟨b, rfl, h, hn⟩
    · cases hx
  have la : ∀ i, pm_aload a st i = some x → ∃ b', pm_aload b st i = some (b', x.2.1, x.2.2) ∧ lvle x.1 b' ∧ lvnd b' := fun i hx => by
    unfold pm_aload at hx ⊢
    split at hx
    · next v hv => cases hx; rw [h.get hn hv]; exact ⟨b, rfl, h, hn⟩
    · next v hv => cases hx; rw [h.get hn hv]; exact ⟨b, rfl, h, hn⟩
    · cases hx
  have is : ∀ i, pm_istore nL a st i = some x → ∃ b', pm_istore nL b st i = some (b', x.2.1, x.2.2) ∧ lvle x.1 b' ∧ lvnd b' := fun i hx => by
    unfold pm_istore at hx ⊢
    split at hx
    · split at hx
      · next hi => cases hx; rw [if_pos hi]; exact ⟨_, rfl, lv_set1 h hn _ _⟩
      · cases hx
    · cases hx
  have ls : ∀ i, pm_lstore nL a st i = some x → ∃ b', pm_lstore nL b st i = some (b', x.2.1, x.2.2) ∧ lvle x.1 b' ∧ lvnd b' := fun i hx => by
    unfold pm_lstore at hx ⊢
    split at hx
    · split at hx
      · next hi => cases hx; rw [if_pos hi]; exact ⟨_, rfl, lv_set2 h hn _ _⟩
      · cases hx
    · cases hx
  have as : ∀ i, pm_astore nL a st i = some x → ∃ b', pm_astore nL b st i = some (b', x.2.1, x.2.2) ∧ lvle x.1 b' ∧ lvnd b' := fun i hx => by
    unfold pm_astore at hx ⊢
    split at hx
    · split at hx
      · next hi => cases hx; rw [if_pos hi]; exact ⟨_, rfl, lv_set1 h hn _ _⟩
      · cases hx
    · split at hx
      · next hi => cases hx; rw [if_pos hi]; exact ⟨_, rfl, lv_set1 h hn _ _⟩
      · cases hx
    · cases hx
  have ii : ∀ i n, pm_iinc nL a st i n = some x → ∃ b', pm_iinc nL b st i n = some (b', x.2.1, x.2.2) ∧ lvle x.1 b' ∧ lvnd b' := fun i n hx => by
    unfold pm_iinc at hx ⊢
    split at hx
    · next v hv =>
      rw [h.get hn hv]
      split at hx
      · next hi => cases hx; dsimp only; rw [if_pos hi]; exact ⟨_, rfl, lv_set1 h hn _ _⟩
      · cases hx
    · cases hx
  cases ins <;> simp only [pm_lop] at hx ⊢ <;> first
    | (cases hx; done)
    | exact ld _ hx | exact ll _ hx | exact la _ hx | exact is _ hx | exact ls _ hx | exact as _ hx | exact ii _ _ hx
    | (cases hx; exact ⟨b, rfl, h, hn⟩)
    | (simp only [pm_ii, pm_iz, pm_ll, pm_lz, pm_li, pm_i1, pm_l1, pm_i2l, pm_l2i, pm_lcmp, pm_dup, pm_pop, pm_dup2, pm_if, pm_icmp, pm_tsw, pm_lsw] at hx ⊢
       repeat' (split at hx)
       all_goals first | (cases hx; done) | (cases hx; simp only [*, if_true, if_false]; first | exact ⟨b, rfl, h, hn⟩ | skip))
section LVX
variable {X : pX} {Ft : Nat → Nat → FieldType} {dfl : Nat → Nat × List Value} {Mt : List pM}
theorem lvm_step {call : pCall} {nL : Nat} {full cur : List pOp} {a b : pL} (h : lvle a b) (hn : lvnd b) {st : List Value} {G : pH} {sl : Nat} {x : pC} (hx : pm_step X Ft dfl call nL full (cur, a, st, G, sl) = some x) : ∃ b', pm_step X Ft dfl call nL full (cur, b, st, G, sl) = some (x.1, b', x.2.2) ∧ lvle x.2.1 b' ∧ lvnd b' := by
  cases cur with
  | nil => cases hx
  | cons o tail =>
    obtain ⟨pc, ins, len, r1, r2, r3⟩ := o
    cases hl : pm_lop nL ins a st with
    | some r =>
      obtain ⟨b', h1, h2, h3⟩ := lvm_lop h hn hl
      simp only [pm_step, hl] at hx
      simp only [pm_step, h1]
      split at hx
      · next c hc => cases hx; exact ⟨b', rfl, h2, h3⟩
      · cases hx
    | none =>
      cases hb : pm_lop nL ins b st with
      | none =>
        simp only [pm_step, hl] at hx
        simp only [pm_step, hb]
        split at hx
        · split at hx
          · cases hx; exact ⟨b, rfl, h, hn⟩
          · cases hx
        · split at hx
          · split at hx
            · split at hx
              · cases hx; exact ⟨b, rfl, h, hn⟩
              · cases hx
            · cases hx
          · split at hx
            · split at hx
              · next h8 =>
                split at hx
                · cases hx; exact ⟨b, by rw [if_pos h8], h, hn⟩
                · cases hx
              · cases hx
            · cases hx
      | some r =>
        exfalso
        have e1 : pm_hop X Ft dfl ins r1 r2 r3 st G sl = none := by
          cases ins <;> first | rfl | (simp only [pm_lop] at hb; cases hb)
        have e2 : pm_ask ins r2 r3 st G = none := by
          cases ins <;> first | rfl | (simp only [pm_lop] at hb; cases hb)
        simp only [pm_step, hl, e1, e2] at hx
        split at hx
        · simp only [pm_lop] at hb; cases hb
        · cases hx
theorem lvm_none {call : pCall} {nL : Nat} {full cur : List pOp} {a b : pL} {st : List Value} {G : pH} {sl : Nat} {r : pRes} (hx : pm_step X Ft dfl call nL full (cur, a, st, G, sl) = none) (ht : pm_thr call (cur, a, st, G, sl) = some r) : pm_step X Ft dfl call nL full (cur, b, st, G, sl) = none ∧ pm_thr call (cur, b, st, G, sl) = some r := by
  cases cur with
  | nil => cases ht
  | cons o tail =>
    obtain ⟨pc, ins, len, r1, r2, r3⟩ := o
    refine ⟨?_, ht⟩
    have e0 : ∀ lv : pL, pm_lop nL ins lv st = none := fun lv => by
      cases ins <;> first | rfl | (simp only [pm_thr, pm_isThrow, pm_mayThrow] at ht; cases ht)
    simp only [pm_step, e0] at hx ⊢
    split at hx
    · split at hx
      · cases hx
      · next h1 => rfl
    · split at hx
      · split at hx
        · split at hx
          · cases hx
          · rfl
        · rfl
      · split at hx
        · simp [pm_thr, pm_isThrow, pm_mayThrow] at ht
        · rfl
theorem lvm_exec {call : pCall} {nL : Nat} {full : List pOp} {ret : Option FieldType} : ∀ (n : Nat) (cur : List pOp) (a b : pL) (st : List Value) (G : pH) (sl : Nat) (r : pRes), lvle a b → lvnd b → pm_exec X Ft dfl call nL full ret n (cur, a, st, G, sl) = some r → pm_exec X Ft dfl call nL full ret n (cur, b, st, G, sl) = some r
  | 0, cur, a, b, st, G, sl, r, _, _, h => by cases h
  | n + 1, cur, a, b, st, G, sl, r, hl, hn, h => by
    simp only [pm_exec] at h ⊢
    have e1 : pm_fin ret (cur, a, st, G, sl) = pm_fin ret (cur, b, st, G, sl) := by
      cases cur with
      | nil => rfl
      | cons o t => rfl
    rw [← e1]
    split at h
    · exact h
    · split at h
      · next x hx =>
        obtain ⟨b', h1, h2, h3⟩ := lvm_step hl hn hx
        rw [h1]
        exact lvm_exec n _ _ _ _ _ _ r h2 h3 h
      · next hx =>
        obtain ⟨h1, h2⟩ := lvm_none (b := b) hx h
        rw [h1]
        exact h2
theorem RUN.mono {d nL : Nat} {full cur : List pOp} {ret : Option FieldType} {a b : pL} {st : List Value} {G : pH} {sl : Nat} {r : pRes} (hl : lvle a b) (hn : lvnd b) (h : RUN X Ft dfl Mt d nL full ret (cur, a, st, G, sl) r) : RUN X Ft dfl Mt d nL full ret (cur, b, st, G, sl) r := by
  obtain ⟨N, hN⟩ := h
  exact ⟨N, fun fuel n h1 h2 => lvm_exec n _ _ _ _ _ _ _ hl hn (hN fuel n h1 h2)⟩
theorem lvm_stepL {call : pCall} {hc : pHc} {nL : Nat} {full cur : List pOp} {a b : pL} (h : lvle a b) (hn : lvnd b) {st : List Value} {G : pH} {sl : Nat} {x : pC} (hx : pm_stepL X Ft dfl call hc nL full (cur, a, st, G, sl) = some x) : ∃ b', pm_stepL X Ft dfl call hc nL full (cur, b, st, G, sl) = some (x.1, b', x.2.2) ∧ lvle x.2.1 b' ∧ lvnd b' := by
  cases cur with
  | nil => cases hx
  | cons o tail =>
    obtain ⟨pc, ins, len, r1, r2, r3⟩ := o
    by_cases hh : pm_isHelp ins r3 = true
    · simp only [pm_stepL] at hx ⊢
      rw [if_pos hh] at hx ⊢
      split at hx
      · split at hx
        · split at hx
          · cases hx; exact ⟨b, rfl, h, hn⟩
          · cases hx
        · cases hx
      · cases hx
    · simp only [pm_stepL] at hx ⊢
      rw [if_neg hh] at hx ⊢
      exact lvm_step h hn hx
theorem lvm_iterL {call : pCall} {hc : pHc} {nL : Nat} {full : List pOp} : ∀ (n : Nat) (cur : List pOp) (a b : pL) (st : List Value) (G : pH) (sl : Nat) (x : pC), lvle a b → lvnd b → pm_iterL X Ft dfl call hc nL full n (cur, a, st, G, sl) = some x → ∃ b', pm_iterL X Ft dfl call hc nL full n (cur, b, st, G, sl) = some (x.1, b', x.2.2)
  | 0, cur, a, b, st, G, sl, x, _, _, h => by cases h; exact ⟨b, rfl⟩
  | n + 1, cur, a, b, st, G, sl, x, hl, hn, h => by
    simp only [pm_iterL] at h ⊢
    split at h
    · next y hy =>
      obtain ⟨b', h1, h2, h3⟩ := lvm_stepL hl hn hy
      rw [h1]
      exact lvm_iterL n _ _ _ _ _ _ x h2 h3 h
    · cases h
variable {lw : Nat × List pOp × Nat} {P : pC → Prop}
/-- P minds no locals more -/
noncomputable def Pmono (P : pC → Prop) : Prop := ∀ (cur : List pOp) (a b : pL) (st : List Value) (G : pH) (sl : Nat), lvle a b → lvnd b → P (cur, a, st, G, sl) → P (cur, b, st, G, sl)
/-- one frame is a case of another -/
noncomputable def fle (X : pX) (ρ0 ρ : sR) (f0 f : sF) : Prop := (f0.1 = f.1 ∧ f0.2.1 = f.2.1 ∧ f0.2.2.1 = f.2.2.1 ∧ f0.2.2.2.1 = f.2.2.2.1 ∧ f0.2.2.2.2.1 = f.2.2.2.2.1 ∧ f0.2.2.2.2.2.1 = f.2.2.2.2.2.1) ∧ lvle (dL X ρ0 f0.2.2.2.2.2.2.1) (dL X ρ f.2.2.2.2.2.2.1) ∧ lvnd (dL X ρ f.2.2.2.2.2.2.1) ∧ dS X ρ0 f0.2.2.2.2.2.2.2 = dS X ρ f.2.2.2.2.2.2.2
noncomputable def fles (X : pX) (ρ0 ρ : sR) : List sF → List sF → Prop
  | [], [] => True
  | f0 :: fs0, f :: fs => fle X ρ0 ρ f0 f ∧ fles X ρ0 ρ fs0 fs
  | _, _ => False
theorem ZZ_imp {k : Nat} {hs : pHd} {d : Nat} {A B : pRes → Prop} {r : pRes} (h : ∀ r, A r → B r) (hz : ZZ k hs d A r) : ZZ k hs d B r := by
  unfold ZZ at hz ⊢
  split at hz
  · next hk =>
    rw [if_pos hk]
    obtain ⟨r2, h1, h2⟩ := hz
    exact ⟨r2, h1, h r2 h2⟩
  · next hk =>
    rw [if_neg hk]
    exact ⟨hz.1, h r hz.2⟩
theorem KK_le (hPm : Pmono P) {ρ0 ρ : sR} : ∀ (fs0 fs : List sF) (d : Nat) (r : pRes), fles X ρ0 ρ fs0 fs → KK X Ft dfl Mt lw P ρ0 fs0 d r → KK X Ft dfl Mt lw P ρ fs d r
  | [], [], d, r, _, h => h
  | [], _ :: _, _, _, hf, _ => hf.elim
  | _ :: _, [], _, _, hf, _ => hf.elim
  | f0 :: fs0, f :: fs, d, r, hf, hk => by
    have ih := fun r => KK_le hPm fs0 fs (d + 1) r hf.2
    have hf := hf.1
    obtain ⟨k0, nL0, ret0, hs0, full0, cur0, lv0, st0⟩ := f0
    obtain ⟨k, nL, ret, hs, full, cur, lv, st⟩ := f
    obtain ⟨⟨e1, e2, e3, e4, e5, e6⟩, hl, hn, hst⟩ := hf
    dsimp only at e1 e2 e3 e4 e5 e6 hl hn hst
    subst e1 e2 e3 e4 e5 e6
    obtain ⟨v, G, sl⟩ := r
    unfold KK at hk ⊢
    cases v with
    | inl v =>
      dsimp only at hk ⊢
      split at hk
      · next h2 =>
        rw [if_pos h2]
        intro e
        have := hk e
        rw [hst] at this
        exact hPm _ _ _ _ _ _ hl hn this
      · next h2 =>
        rw [if_neg h2]
        obtain ⟨r1, hr, hz⟩ := hk
        rw [hst] at hr
        exact ⟨r1, hr.mono hl hn, ZZ_imp ih hz⟩
    | inr E =>
      exact ⟨hk.1, ZZ_imp ih hk.2⟩
theorem GG_le (hPm : Pmono P) {ρ0 ρ : sR} {f0 f : sF} {fs0 fs : List sF} (hf : fle X ρ0 ρ f0 f) (h : fles X ρ0 ρ fs0 fs) {d sl : Nat} {G : pH} (hg : GG X Ft dfl Mt lw P ρ0 f0 fs0 d sl G) : GG X Ft dfl Mt lw P ρ f fs d sl G := by
  obtain ⟨k0, nL0, ret0, hs0, full0, cur0, lv0, st0⟩ := f0
  obtain ⟨k, nL, ret, hs, full, cur, lv, st⟩ := f
  obtain ⟨⟨e1, e2, e3, e4, e5, e6⟩, hl, hn, hst⟩ := hf
  dsimp only at e1 e2 e3 e4 e5 e6 hl hn hst
  subst e1 e2 e3 e4 e5 e6
  unfold GG at hg ⊢
  dsimp only at hg ⊢
  split at hg
  · next h2 =>
    rw [if_pos h2]
    intro e
    have := hg e
    rw [hst] at this
    exact hPm _ _ _ _ _ _ hl hn this
  · next h2 =>
    rw [if_neg h2]
    obtain ⟨r1, hr, hz⟩ := hg
    rw [hst] at hr
    exact ⟨r1, hr.mono hl hn, ZZ_imp (fun r => KK_le hPm _ _ (d + 1) r h) hz⟩
end LVX
