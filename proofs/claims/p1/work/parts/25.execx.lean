section PXX
variable {X : pX} {F : Nat → Nat → FieldType} {dfl : Nat → Nat × List Value} {nL : Nat}
theorem pm_thr_len {call : pCall} (hm : pm_Mono call) {x : pC} {r : pRes} (h : pm_thr call x = some r) : x.2.2.2.1.length ≤ r.2.1.length ∧ x.2.2.2.2 ≤ r.2.2 := by
  unfold pm_thr at h
  split at h
  · split at h
    · cases h; exact ⟨by simp, by simp⟩
    · split at h
      · split at h
        · split at h
          · next hcall => cases h; exact hm _ _ _ _ _ hcall
          · cases h
        · cases h
      · cases h
  · cases h
theorem pm_exec_lenG {call : pCall} {full : List pOp} {ret : Option FieldType} (hm : pm_Mono call) : ∀ (n : Nat) (x : pC) (r : pRes), (∀ o ∈ x.1, o ∈ full) → pm_exec X F dfl call nL full ret n x = some r → x.2.2.2.1.length ≤ r.2.1.length ∧ x.2.2.2.2 ≤ r.2.2 := by
  have hm' : ∀ y as G sl v G' sl', call y as G sl = some (.inl v, G', sl') → G.length ≤ G'.length ∧ sl ≤ sl' := fun y as G sl v G' sl' hc => hm _ _ _ _ _ hc
  intro n
  induction n with
  | zero => intro x r _ h; cases h
  | succ n ih =>
    intro x r hsub h
    unfold pm_exec at h
    split at h
    · cases h; exact ⟨Nat.le_refl _, Nat.le_refl _⟩
    · split at h
      · next x' hx' =>
        have h1 := pm_step_len hm' hsub hx'
        have h2 := ih x' r h1.2.2 h
        exact ⟨Nat.le_trans h1.1 h2.1, Nat.le_trans h1.2.1 h2.2⟩
      · exact pm_thr_len hm h
theorem pm_callD_mono {Mt : List pM} {fuel : Nat} : ∀ d : Nat, pm_Mono (pm_callD X F dfl Mt fuel d) := by
  intro d
  induction d with
  | zero => intro y as G sl r h; cases h
  | succ d ih =>
    intro y as G sl r h
    simp only [pm_callD] at h
    split at h
    · next M hM =>
      split at h
      · split at h
        · exact pm_exec_lenG (full := M.2.2.2.2) ih fuel (M.2.2.2.2, lv_args 0 as, [], G, sl) r (fun o ho => ho) (pm_cut_a h)
        · cases h
      · cases h
    · cases h
end PXX
section PXY
variable {p : Program} {l : Launch} {e : Env} {R : Room} {s s0 : State} {m : MethodId} {args : Array Value} {below : List Frame} {meth : Method} {c : Code}
variable {cc : ByteArray} {nL b0 : Nat} {ext : Nat → Nat} {D : va_G} {cl : List vw_C} {dA : Nat → ClassId} {Ts Nw : List Cond} {own mname : String} {X : pX} {F : Nat → Nat → FieldType} {dfl : Nat → Nat × List Value} {stat : Nat → Option (String × String × String)} {Mt : List pM} {strs : List (String × Nat) × List Cond}
theorem pm_execX_ok (S : CallFix p m c cc nL s args Ts own) (h5 : 6 ≤ R.frames ∧ 90 ≤ R.locals) (hg : pm_good Ts) (hW0 : s0.WarmedH s.vm) (hSt : pm_St Ts Nw D cl dA b0 ext X stat s0.heap s) (hTh : pm_Th b0 strs s0.heap s) (hb0 : s0.heap.size = b0) (hlt : l.stackTraces = false) (hte : ∀ x ∈ c.exceptionTable.toList, False) (hCl : pm_Cl Ts cl F dfl) (hmn : meth.name = mname) {ret : Option FieldType} (hlocks : meth.locks = false) {d : Nat} {call : pCall} (hS : pm_Met l s0 D cl dA b0 ext Ts Mt d call) (hm : pm_Mono call) (hX : pm_MetX l s0 D cl dA b0 ext Ts Mt d call) (hd7 : d + 1 ≤ R.frames) (hd8 : 41 * d + 43 + 41 ≤ R.locals)
    (hoi : Cond.instanceMethod Lib.objectInit ∈ Ts ∧ Cond.code Lib.objectInit ⟨#[0xb1]⟩ 1 none ∈ Ts) {full : List pOp} (hfull : ∀ o ∈ full, pm_opok Ts Nw Mt cl stat own mname cc o) (hthk : ∀ o ∈ full, pm_thok Ts strs own cc o) {g0 l0 : Nat} (hs0 : s.heap.size = b0 + g0 ∧ ∀ q : Nat, q < b0 → s.heap[q]? = s0.heap[q]?) {E : Nat} {G' : pH} {sl' : Nat} (hcells : G'.length - g0 ≤ R.cells) (hslots : sl' - l0 ≤ R.slots) :
    ∀ (n : Nat) (x : pC), (∀ o ∈ x.1, o ∈ full) → g0 ≤ x.2.2.2.1.length → l0 ≤ x.2.2.2.2 → pm_exec X F dfl call nL full ret n x = some (.inr E, G', sl') → pm_WC p l e R s m args below meth c (vx_MQ below pm_no (pm_XC s0 D cl dA b0 ext E G') args s (G'.length - g0) (sl' - l0) (fun q => b0 ≤ q)) s0 D cl dA b0 ext nL g0 l0 x := by
  have hm' : ∀ y as G sl v G' sl', call y as G sl = some (.inl v, G', sl') → G.length ≤ G'.length ∧ sl ≤ sl' := fun y as G sl v G' sl' hc => hm _ _ _ _ _ hc
  intro n
  induction n with
  | zero => intro x _ _ _ h; cases h
  | succ n ih =>
    intro x hsub hg0 hl0 h
    unfold pm_exec at h
    split at h
    · cases h
    · split at h
      · next x' hx' =>
        have h1 := pm_step_len hm' hsub hx'
        have h2 := pm_exec_lenG hm n x' _ h1.2.2 h
        dsimp only at h2
        have h3 := ih x' h1.2.2 (Nat.le_trans hg0 h1.1) (Nat.le_trans hl0 h1.2.1) h
        cases hcur : x'.1 with
        | nil =>
          exfalso
          cases n with
          | zero => cases h
          | succ n =>
            unfold pm_exec at h
            obtain ⟨cur, lv, st, G, sl⟩ := x'
            dsimp only at hcur
            subst hcur
            simp [pm_fin, pm_step, pm_thr] at h
        | cons o t => exact pm_step_ok S hg hW0 hSt hCl hmn hS hd7 hd8 hoi (fun o t ho => hfull o (hsub o (by rw [ho]; exact List.mem_cons_self))) hsub hx' hcur hg0 hl0 (by omega) (by omega) h3
      · exact pm_thr_ok S h5 hg hW0 hSt hTh hb0 hlt hte hlocks hm hX hd7 hd8 hfull hthk hsub h hs0 hg0 hl0 hcells hslots
end PXY
theorem pm_callD_okX {l : Launch} {s0 : State} {b0 : Nat} {ext : Nat → Nat} {D : va_G} {cl : List vw_C} {dA : Nat → ClassId} {Ts Nw : List Cond} {X : pX} {F : Nat → Nat → FieldType} {dfl : Nat → Nat × List Value} {stat : Nat → Option (String × String × String)} {Mt : List pM} {fuel : Nat} {strs : List (String × Nat) × List Cond}
    (hg : pm_good Ts) (hb0 : s0.heap.size = b0) (hlt : l.stackTraces = false) (hSt : ∀ s : State, s0.WarmedH s.vm → pm_St Ts Nw D cl dA b0 ext X stat s0.heap s) (hTh : ∀ s : State, s0.WarmedH s.vm → pm_Th b0 strs s0.heap s) (hCl : pm_Cl Ts cl F dfl) (hoi : Cond.instanceMethod Lib.objectInit ∈ Ts ∧ Cond.code Lib.objectInit ⟨#[0xb1]⟩ 1 none ∈ Ts) (hMt : ∀ (y : Nat) (M : pM), Mt[y]? = some M → plainFor M.1 = true ∧ ∀ o ∈ M.2.2.2.2, pm_opok Ts Nw Mt cl stat M.1.cls M.1.name M.2.1 o) (hMx : ∀ (y : Nat) (M : pM), Mt[y]? = some M → ∀ o ∈ M.2.2.2.2, pm_thok Ts strs M.1.cls M.2.1 o) :
    ∀ d : Nat, pm_MetX l s0 D cl dA b0 ext Ts Mt d (pm_callD X F dfl Mt fuel d) := by
  intro d
  induction d with
  | zero => intro y as G sl E G' sl' h; cases h
  | succ d ih =>
    intro y as G sl E G' sl' h M' hM'
    simp only [pm_callD] at h
    split at h
    · next M hM =>
      have e9 : M' = M := Option.some.inj (hM'.symm.trans hM)
      rw [e9]
      split at h
      · next o tl hops =>
        split at h
        · next hq =>
          obtain ⟨h5, h⟩ := pm_cut_r h
          have hlen := pm_exec_lenG (full := M.2.2.2.2) (pm_callD_mono d) fuel (M.2.2.2.2, lv_args 0 as, [], G, sl) _ (fun o ho => ho) h
          dsimp only at hlen
          obtain ⟨hpl, hfull⟩ := hMt y M hM
          refine pm_ofX (cc := M.2.1) (maxL := M.2.2.1) (ret := M.2.2.2.1) hpl rfl ?_
          intro p e s m args below meth c s₁ B hml hte hv
          obtain ⟨rfl, hW0, hR⟩ := hv
          have hts := atoms_spec (ws := pm_W M.1 M.2.1 M.2.2.1 M.2.2.2.1 Ts) B.pre
          have hown : s.vm.findClass M.1.cls = some m.cls := findClass_of_methodNamed B.named
          have S : CallFix p m c M.2.1 M.2.2.1 s (pm_S b0 ext as).toArray Ts M.1.cls := ⟨B.exec, B.bytes, hml, hown, fun w hw => hts w (List.mem_cons_of_mem _ hw)⟩
          have hmn : meth.name = M.1.name := (name_of_methodNamed B.named B.method).1
          have key := pm_execX_ok (p := p) (l := l) (e := e) (R := (headSpec (pm_W M.1 M.2.1 M.2.2.1 M.2.2.2.1 Ts) (pm_rm (d + 1) (G'.length - G.length) (sl' - sl))).room) (m := m) (below := below) (c := c) (nL := M.2.2.1) (ret := M.2.2.2.1) (g0 := G.length) (l0 := sl) S ⟨by show 6 ≤ d + 1; omega, by show 90 ≤ 41 * (d + 1) + 43; omega⟩ hg hW0 (hSt s hW0) (hTh s hW0) hb0 hlt hte hCl hmn B.notSynchronized (pm_callD_ok hg hSt hCl hoi hMt d) (pm_callD_mono d) ih (by show d + 1 ≤ d + 1; omega) (by show 41 * d + 43 + 41 ≤ 41 * (d + 1) + 43; omega) hoi hfull (hMx y M hM) ⟨hR.1, hR.2.1⟩ (by show G'.length - G.length ≤ G'.length - G.length; omega) (by show sl' - sl ≤ sl' - sl; omega) fuel (M.2.2.2.2, lv_args 0 as, [], G, sl) (fun o ho => ho) (Nat.le_refl _) (Nat.le_refl _) h
          have hl := lv_entry (pm_S b0 ext as) (n := M.2.2.1) (by rw [pm_sl_tr]; exact hq.2)
          have k2 := key s.heap [] _ o tl hops hR (fun q hq => by cases hq) (by
            rw [pm_args_tr]
            exact hl)
          dsimp only at k2
          rw [hq.1, Nat.sub_self, Nat.sub_self] at k2
          rw [lg_entry_eq]
          exact k2
        · cases h
      · cases h
    · cases h
