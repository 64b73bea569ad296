/-- a helper's handlers, in their order: what they catch, where they are, what they answer; their place among the constants -/
abbrev pHd : Type := List (Nat × Nat × Nat × Int32)
def pm_tab (hs : pHd) (hi : Nat) (ct : Nat → Nat) : List (Nat × Nat × Nat × Nat) := hs.map (fun q => (0, hi, q.2.1, ct q.1))
def pm_hfind (hs : pHd) (E : Nat) : Option (Nat × Nat × Nat × Int32) := hs.find? (fun q => q.1 == E)
def pm_help (X : pX) (F : Nat → Nat → FieldType) (dfl : Nat → Nat × List Value) (call : pCall) (M : pM) (hs : pHd) (fuel : Nat) (as : List Value) (G : pH) (sl : Nat) : Option (Int32 × pH × Nat) :=
  match M.2.2.2.2 with
  | o :: _ => if o.1 = 0 ∧ (lg_sl as).length ≤ M.2.2.1 then match pm_exec X F dfl call M.2.2.1 M.2.2.2.2 M.2.2.2.1 fuel (M.2.2.2.2, lv_args 0 as, [], G, sl) with
    | some (.inl (some (.int v)), G', sl') => some (v, G', sl')
    | some (.inr E, G', sl') => match pm_hfind hs E with
      | some q => some (q.2.2.2, G', sl')
      | none => none
    | _ => none
    else none
  | [] => none
/-- what the tables must say of a handler: it puts the exception away and answers -/
def pm_hok (cc : ByteArray) (nL : Nat) (q : Nat × Nat × Nat × Int32) : Prop := ∃ n : Int, Int32.ofInt n = q.2.2.2 ∧ q.2.2.1 < nL ∧ ((∃ k : Fin 4, (k : Nat) = q.2.2.1 ∧ decode cc q.2.1 = .ok (.astore_n k, 1) ∧ decode cc (q.2.1 + 1) = .ok (.iconst n, 1) ∧ decode cc (q.2.1 + 2) = .ok (.ireturn, 1)) ∨ (decode cc q.2.1 = .ok (.astore q.2.2.1, 2) ∧ decode cc (q.2.1 + 2) = .ok (.iconst n, 1) ∧ decode cc (q.2.1 + 3) = .ok (.ireturn, 1)))
theorem pm_split {hs : pHd} {E : Nat} {q : Nat × Nat × Nat × Int32} (h : pm_hfind hs E = some q) : q.1 = E ∧ ∃ pre suf, hs = pre ++ q :: suf ∧ ∀ z ∈ pre, z.1 ≠ E := by
  unfold pm_hfind at h
  induction hs with
  | nil => cases h
  | cons a hs ih =>
    by_cases ha : a.1 = E
    · rw [List.find?_cons_of_pos (by simpa using ha)] at h
      cases h
      exact ⟨ha, [], hs, rfl, fun z hz => by cases hz⟩
    · rw [List.find?_cons_of_neg (by simpa using ha)] at h
      obtain ⟨h1, pre, suf, h2, h3⟩ := ih h
      refine ⟨h1, a :: pre, suf, by rw [h2]; rfl, fun z hz => ?_⟩
      rcases List.mem_cons.mp hz with rfl | hz
      · exact ha
      · exact h3 z hz
section PHP
variable {l : Launch} {s0 : State} {b0 : Nat} {ext : Nat → Nat} {D : va_G} {cl : List vw_C} {dA : Nat → ClassId} {Ts Nw : List Cond} {X : pX} {F : Nat → Nat → FieldType} {dfl : Nat → Nat × List Value} {stat : Nat → Option (String × String × String)} {Mt : List pM} {fuel : Nat} {strs : List (String × Nat) × List Cond}
/-- what is known of a state, for what is caught -/
def pm_Ca (Ts : List Cond) (ct : Nat → Nat) (own : String) (s : State) : Prop := ∀ E : Nat, E < 3 → ct E ≠ 0 ∧ Cond.classLink own (ct E) (pm_en E) ∈ Ts ∧ (∀ A : Array Value, (Cond.castable (pm_en E) (pm_en E)).before A s = true) ∧ ∀ E' : Nat, E' < 3 → E' ≠ E → va_Nc (pm_en E) (pm_en E') s
theorem pm_help_ok (hg : pm_good Ts) (hSt : ∀ s : State, s0.WarmedH s.vm → pm_St Ts Nw D cl dA b0 ext X stat s0.heap s) (hCl : pm_Cl Ts cl F dfl) (hoi : Cond.instanceMethod Lib.objectInit ∈ Ts ∧ Cond.code Lib.objectInit ⟨#[0xb1]⟩ 1 none ∈ Ts) {d : Nat} {call : pCall} (hS : pm_Met l s0 D cl dA b0 ext Ts Mt d call) (hm : pm_Mono call) (hX : pm_MetX l s0 D cl dA b0 ext Ts Mt d call)
    {M : pM} {hs : pHd} {hi : Nat} {ct : Nat → Nat} (hCa : ∀ s : State, s0.WarmedH s.vm → pm_Ca Ts ct M.1.cls s) (hpl : plainName M.1.cls = true) (hret : M.2.2.2.1 = some .int) (hfull : ∀ o ∈ M.2.2.2.2, pm_opok Ts Nw Mt cl stat M.1.cls M.1.name M.2.1 o) (hhs : ∀ q ∈ hs, q.1 < 3 ∧ pm_hok M.2.1 M.2.2.1 q)
    (hinv : ∀ o ∈ M.2.2.2.2, (∀ r3 st, pm_isThrow o.2.1 r3 st = false) ∧ (∀ r3, pm_mayThrow o.2.1 r3 = true → (∃ idx, o.2.1 = .invokevirtual idx) ∧ o.1 < hi)) {as : List Value} {G G' : pH} {sl sl' : Nat} {v : Int32} (h : pm_help X F dfl call M hs fuel as G sl = some (v, G', sl')) :
    (G.length ≤ G'.length ∧ sl ≤ sl') ∧ Met l M.1 (Cond.codeWith M.1 M.2.1 M.2.2.1 M.2.2.2.1 (pm_tab hs hi ct) :: Ts) (pm_rm (d + 1) (G'.length - G.length) (sl' - sl)) (pm_Pc s0 D cl dA b0 ext as G) (pm_Qc s0 D cl dA b0 ext (some (.int v)) G') (G'.length - G.length) (sl' - sl) (fun q => b0 ≤ q) := by
  unfold pm_help at h
  split at h
  · next o tl hops =>
    split at h
    · next hq =>
      split at h
      · next v' G'' sl'' hex =>
        cases h
        have hlen := pm_exec_lenG (full := M.2.2.2.2) hm fuel (M.2.2.2.2, lv_args 0 as, [], G, sl) _ (fun o ho => ho) hex
        refine ⟨hlen, va_MetW (cc := M.2.1) (maxL := M.2.2.1) (ret := M.2.2.2.1) hpl rfl ?_⟩
        intro p e s m args below meth c s₁ B hml hv
        obtain ⟨rfl, hW0, hR⟩ := hv
        have hts := atoms_spec (ws := Cond.codeWith M.1 M.2.1 M.2.2.1 M.2.2.2.1 (pm_tab hs hi ct) :: Ts) B.pre
        have hown : s.vm.findClass M.1.cls = some m.cls := findClass_of_methodNamed B.named
        have S : CallFix p m c M.2.1 M.2.2.1 s (pm_S b0 ext as).toArray Ts M.1.cls := ⟨B.exec, B.bytes, hml, hown, fun w hw => hts w (List.mem_cons_of_mem _ hw)⟩
        have hmn : meth.name = M.1.name := (name_of_methodNamed B.named B.method).1
        have key := pm_exec_ok (p := p) (l := l) (e := e) (R := (headSpec (Cond.codeWith M.1 M.2.1 M.2.2.1 M.2.2.2.1 (pm_tab hs hi ct) :: Ts) (pm_rm (d + 1) (G'.length - G.length) (sl' - sl))).room) (m := m) (below := below) (c := c) (nL := M.2.2.1) (g0 := G.length) (l0 := sl) S hg hW0 (hSt s hW0) hCl hmn B.returns B.notSynchronized hS (by show d + 1 ≤ d + 1; omega) (by show 41 * d + 43 + 41 ≤ 41 * (d + 1) + 43; omega) hoi hfull (by show G'.length - G.length ≤ G'.length - G.length; omega) (by show sl' - sl ≤ sl' - sl; omega) fuel (M.2.2.2.2, lv_args 0 as, [], G, sl) (fun o ho => ho) (Nat.le_refl _) (Nat.le_refl _) hex
        have hl := lv_entry (pm_S b0 ext as) (n := M.2.2.1) (by rw [pm_sl_tr]; exact hq.2)
        have k2 := key s.heap [] _ o tl hops hR (fun q hq => by cases hq) (by
          rw [pm_args_tr]
          exact hl)
        dsimp only at k2
        rw [hq.1, Nat.sub_self, Nat.sub_self] at k2
        rw [lg_entry_eq]
        exact k2
      · next E G'' sl'' hex =>
        split at h
        · next qh hfd =>
          cases h
          have hlen := pm_exec_lenG (full := M.2.2.2.2) hm fuel (M.2.2.2.2, lv_args 0 as, [], G, sl) _ (fun o ho => ho) hex
          refine ⟨hlen, va_MetW (cc := M.2.1) (maxL := M.2.2.1) (ret := M.2.2.2.1) hpl rfl ?_⟩
          intro p e s m args below meth c s₁ B hml hv
          obtain ⟨rfl, hW0, hR⟩ := hv
          have hts := atoms_spec (ws := Cond.codeWith M.1 M.2.1 M.2.2.1 M.2.2.2.1 (pm_tab hs hi ct) :: Ts) B.pre
          have hown : s.vm.findClass M.1.cls = some m.cls := findClass_of_methodNamed B.named
          have S : CallFix p m c M.2.1 M.2.2.1 s (pm_S b0 ext as).toArray Ts M.1.cls := ⟨B.exec, B.bytes, hml, hown, fun w hw => hts w (List.mem_cons_of_mem _ hw)⟩
          have hmn : meth.name = M.1.name := (name_of_methodNamed B.named B.method).1
          have htab : c.exceptionTable.toList = tableOf (pm_tab hs hi ct) := vx_table (x := M.1) B (hts _ List.mem_cons_self)
          obtain ⟨hqE, pre, suf, hspl, hpre⟩ := pm_split hfd
          have hqm : qh ∈ hs := by rw [hspl]; exact List.mem_append_right _ List.mem_cons_self
          obtain ⟨hE3, nn, hnn, hkl, hdk⟩ := hhs qh hqm
          rw [hqE] at hE3
          have hca := hCa s hW0
          obtain ⟨c1, c2, c3, c4⟩ := hca E hE3
          have hlk := B.notSynchronized
          have hrt : meth.sig.returnType = some .int := B.returns.trans hret
          have key := pm_execC_ok (p := p) (l := l) (e := e) (R := (headSpec (Cond.codeWith M.1 M.2.1 M.2.2.1 M.2.2.2.1 (pm_tab hs hi ct) :: Ts) (pm_rm (d + 1) (G'.length - G.length) (sl' - sl))).room) (m := m) (below := below) (c := c) (nL := M.2.2.1) (ret := M.2.2.2.1) (g0 := G.length) (l0 := sl) (Q := MQ below (pm_Qc s0 D cl dA b0 ext (some (.int qh.2.2.2)) G') (pm_S b0 ext as).toArray s (G'.length - G.length) (sl' - sl) (fun q => b0 ≤ q)) S hg hW0 (hSt s hW0) hCl hmn hS hm (by show d + 1 ≤ d + 1; omega) (by show 41 * d + 43 + 41 ≤ 41 * (d + 1) + 43; omega) hoi hfull (by show G'.length - G.length ≤ G'.length - G.length; omega) (by show sl' - sl ≤ sl' - sl; omega) (fun x hsub hg0 hl0 hth => ?_) fuel (M.2.2.2.2, lv_args 0 as, [], G, sl) (fun o ho => ho) (Nat.le_refl _) (Nat.le_refl _) hex
          · have hl := lv_entry (pm_S b0 ext as) (n := M.2.2.1) (by rw [pm_sl_tr]; exact hq.2)
            have k2 := key s.heap [] _ o tl hops hR (fun q hq => by cases hq) (by
              rw [pm_args_tr]
              exact hl)
            dsimp only at k2
            rw [hq.1, Nat.sub_self, Nat.sub_self] at k2
            rw [lg_entry_eq]
            exact k2
          · intro H locs ls o2 t2 ho2 hR2 hB2 hl2
            obtain ⟨cur, lv, st, Gx, slx⟩ := x
            dsimp only at ho2 hR2 hl2 hg0 hl0 ⊢
            subst ho2
            obtain ⟨pc, ins, len, r1, r2, r3⟩ := o2
            have hin := hsub _ List.mem_cons_self
            have hop := hfull _ hin
            obtain ⟨i1, i2⟩ := hinv _ hin
            dsimp only at i1 i2
            simp only [pm_thr, i1] at hth
            rw [if_neg (by simp)] at hth
            split at hth
            · next hmt =>
              obtain ⟨⟨idx, hidx⟩, hpc⟩ := i2 _ hmt
              subst hidx
              split at hth
              · next qa hqa =>
                obtain ⟨as2, rest2⟩ := qa
                split at hth
                · next E2 G2 sl2 hcall =>
                  cases hth
                  dsimp only at hcall
                  have hmo := hm _ _ _ _ _ hcall
                  dsimp only at hmo
                  have e1 : Gx.length - G.length + (G'.length - Gx.length) = G'.length - G.length := by omega
                  have e2 : slx - sl + (sl' - slx) = sl' - sl := by omega
                  refine pm_throwsV S hg hW0 (hSt s hW0) hm hX (by show d + 1 ≤ d + 1; omega) (by show 41 * d + 43 + 41 ≤ 41 * (d + 1) + 43; omega) hop hqa hcall hR2 hB2 hl2 ⟨by rw [e1]; exact Nat.le_refl _, by rw [e2]; exact Nat.le_refl _⟩ (fun H1 locs1 q ce hR3 hB3 hce hcv hcl => ?_)
                  rw [e1, e2]
                  refine vx_catch (own := M.1.cls) (name := pm_en E) hown (tableOf (pm_tab pre hi ct)) ⟨0, hi, qh.2.1, ct qh.1⟩ (tableOf (pm_tab suf hi ct)) ?_ ?_ ?_ ?_ ?_ (c3 _) hce hcv hcl ?_
                  · rw [htab, hspl]
                    simp [tableOf, pm_tab]
                  · intro z hz
                    obtain ⟨z1, hz1, rfl⟩ := List.mem_map.mp hz
                    obtain ⟨z2, hz2, rfl⟩ := List.mem_map.mp hz1
                    have hz3 : z2.1 < 3 := (hhs z2 (by rw [hspl]; exact List.mem_append_left _ hz2)).1
                    have hne := hpre z2 hz2
                    obtain ⟨y1, y2, -, -⟩ := hca z2.1 hz3
                    exact Or.inr ⟨y1, pm_en z2.1, hts _ (List.mem_cons_of_mem _ y2), c4 z2.1 hz3 hne⟩
                  · show covers _ _ = true
                    simp [covers, hpc]
                  · show ct qh.1 ≠ 0
                    rw [hqE]; exact c1
                  · show (Cond.classLink M.1.cls (ct qh.1) (pm_en E)).before _ s = true
                    rw [hqE]
                    exact hts _ (List.mem_cons_of_mem _ c2)
                  · have fin : ∀ (pcr : Nat) (ls9 : Array Slot), decode M.2.1 pcr = .ok (.ireturn, 1) → W p l e (headSpec (Cond.codeWith M.1 M.2.1 M.2.2.1 M.2.2.2.1 (pm_tab hs hi ct) :: Ts) (pm_rm (d + 1) (G'.length - G.length) (sl' - sl))).room s m (pm_S b0 ext as).toArray below meth c H1 locs1 (G'.length - G.length) (sl' - sl) (MQ below (pm_Qc s0 D cl dA b0 ext (some (.int qh.2.2.2)) G') (pm_S b0 ext as).toArray s (G'.length - G.length) (sl' - sl) (fun q => b0 ≤ q)) (F0 m pcr ls9 [.int qh.2.2.2]) := fun pcr ls9 hdr => W.iret B.exec B.bytes hrt (fun t ht hW => ⟨rfl, State.WarmedH.trans hW0 hW, by rw [ht]; exact hR3⟩) hB3 hdr hlk
                    rcases hdk with ⟨kk, hk1, hd1, hd2, hd3⟩ | ⟨hd1, hd2, hd3⟩
                    · refine lv_astore_n B.exec B.bytes hd1 hk1 hl2 hkl rfl (fun ls9 _ => ?_)
                      exact lv_iconst B.exec B.bytes hd2 hnn (fin _ ls9 hd3)
                    · refine lv_astore B.exec B.bytes hd1 hl2 hkl rfl (fun ls9 _ => ?_)
                      exact lv_iconst B.exec B.bytes hd2 hnn (fin _ ls9 hd3)
                · cases hth
              · cases hth
            · cases hth
        · cases h
      · cases h
    · cases h
  · cases h
end PHP
