/-! ===== runs with calls: frames upon frames, the law's at the bottom ===== -/
section RUNS
variable {X : pX} {Ft : Nat → Nat → FieldType} {dfl : Nat → Nat × List Value} {Mt : List pM}
/-- a frame's run ends so, given time enough -/
noncomputable def RUN (X : pX) (Ft : Nat → Nat → FieldType) (dfl : Nat → Nat × List Value) (Mt : List pM) (d nL : Nat) (full : List pOp) (ret : Option FieldType) (x : pC) (r : pRes) : Prop := ∃ N : Nat, ∀ fuel n : Nat, N ≤ fuel → N ≤ n → pm_exec X Ft dfl (pm_callD X Ft dfl Mt fuel d) nL full ret n x = some r
noncomputable def CALL (X : pX) (Ft : Nat → Nat → FieldType) (dfl : Nat → Nat × List Value) (Mt : List pM) (d y : Nat) (as : List Value) (G : pH) (sl : Nat) (r : pRes) : Prop := ∃ N : Nat, ∀ fuel : Nat, N ≤ fuel → pm_callD X Ft dfl Mt fuel d y as G sl = some r
variable {d nL : Nat} {full : List pOp} {ret : Option FieldType} {x x' : pC} {r : pRes}
theorem RUN.fin {v : Option Value} (h : pm_fin ret x = some v) : RUN X Ft dfl Mt d nL full ret x (.inl v, x.2.2.2.1, x.2.2.2.2) := by
  refine ⟨1, fun fuel n _ hn => ?_⟩
  cases n with
  | zero => omega
  | succ n => simp only [pm_exec, h]
theorem RUN.step (hf : pm_fin ret x = none) (h : ∃ N : Nat, ∀ fuel : Nat, N ≤ fuel → pm_step X Ft dfl (pm_callD X Ft dfl Mt fuel d) nL full x = some x') (hr : RUN X Ft dfl Mt d nL full ret x' r) : RUN X Ft dfl Mt d nL full ret x r := by
  obtain ⟨N1, h1⟩ := h
  obtain ⟨N2, h2⟩ := hr
  refine ⟨N1 + N2 + 1, fun fuel n hfu hn => ?_⟩
  cases n with
  | zero => omega
  | succ n =>
    simp only [pm_exec, hf, h1 fuel (by omega)]
    exact h2 fuel n (by omega) (by omega)
theorem RUN.thr (hf : pm_fin ret x = none) (h : ∃ N : Nat, ∀ fuel : Nat, N ≤ fuel → pm_step X Ft dfl (pm_callD X Ft dfl Mt fuel d) nL full x = none ∧ pm_thr (pm_callD X Ft dfl Mt fuel d) x = some r) : RUN X Ft dfl Mt d nL full ret x r := by
  obtain ⟨N1, h1⟩ := h
  refine ⟨N1 + 1, fun fuel n hfu hn => ?_⟩
  cases n with
  | zero => omega
  | succ n =>
    obtain ⟨h2, h3⟩ := h1 fuel (by omega)
    simp only [pm_exec, hf, h2, h3]
noncomputable def cutok (d : Nat) (r : pRes) : Prop := ∀ E, r.1 = .inr E → 5 ≤ d
theorem cut_of {r : pRes} (h : cutok d r) : pm_cut d (some r) = some r := by
  obtain ⟨x, G, sl⟩ := r
  cases x with
  | inl v => rfl
  | inr E =>
    simp only [pm_cut]
    rw [if_pos (h E rfl)]
theorem CALL.of {y : Nat} {M : pM} {o : pOp} {t : List pOp} {as : List Value} {G : pH} {sl : Nat} (hM : Mt[y]? = some M) (ho : M.2.2.2.2 = o :: t) (h0 : o.1 = 0) (hl : (lg_sl as).length ≤ M.2.2.1) (hc : cutok d r) (h : RUN X Ft dfl Mt d M.2.2.1 M.2.2.2.2 M.2.2.2.1 (M.2.2.2.2, lv_args 0 as, [], G, sl) r) : CALL X Ft dfl Mt (d + 1) y as G sl r := by
  obtain ⟨N, hN⟩ := h
  refine ⟨N, fun fuel hf => ?_⟩
  have h1 := hN fuel fuel hf hf
  simp only [pm_callD, hM]
  rw [ho] at h1 ⊢
  dsimp only
  rw [if_pos ⟨h0, hl⟩, h1, cut_of hc]
end RUNS
/-- a frame: 0 a method's, 3 one whose callee must not throw, 1 a helper's with its handlers, 2 the law's; locals' number, type, handlers, instructions, those to come, locals, stack -/
abbrev sF : Type := Nat × Nat × Option FieldType × pHd × List pOp × List pOp × sL × List sT
/-- the top frame, those below, its level, cells, slots -/
abbrev sS : Type := sF × List sF × Nat × sH × Nat
noncomputable def hres (hs : pHd) (r : pRes) : Option pRes := match r with
  | (.inl (some (.int w)), G, sl) => some (.inl (some (.int w)), G, sl)
  | (.inr E, G, sl) => match pm_hfind hs E with
    | some q => some (.inl (some (.int q.2.2.2)), G, sl)
    | none => none
  | _ => none
/-- what a frame's answer means to those below it -/
noncomputable def ZZ (k : Nat) (hs : pHd) (d : Nat) (kont : pRes → Prop) (r : pRes) : Prop := if k = 1 then ∃ r2, hres hs r = some r2 ∧ kont r2 else cutok d r ∧ kont r
section GOAL
variable (X : pX) (Ft : Nat → Nat → FieldType) (dfl : Nat → Nat × List Value) (Mt : List pM) (lw : Nat × List pOp × Nat) (P : pC → Prop) (ρ : sR)
/-- what the frames below make of an answer -/
noncomputable def KK : List sF → Nat → pRes → Prop
  | [], _, _ => False
  | f :: fs, d, r => match r with
    | (.inl v, G, sl) => if f.1 = 2 then (lw = (f.2.1, f.2.2.2.2.1, d) → P (f.2.2.2.2.2.1, dL X ρ f.2.2.2.2.2.2.1, v.toList ++ dS X ρ f.2.2.2.2.2.2.2, G, sl))
      else ∃ r1, RUN X Ft dfl Mt d f.2.1 f.2.2.2.2.1 f.2.2.1 (f.2.2.2.2.2.1, dL X ρ f.2.2.2.2.2.2.1, v.toList ++ dS X ρ f.2.2.2.2.2.2.2, G, sl) r1 ∧ ZZ f.1 f.2.2.2.1 d (KK fs (d + 1)) r1
    | (.inr E, G, sl) => (f.1 = 0 ∨ f.1 = 1) ∧ ZZ f.1 f.2.2.2.1 d (KK fs (d + 1)) (.inr E, G, sl)
noncomputable def GG (f : sF) (fs : List sF) (d sl : Nat) (G : pH) : Prop := if f.1 = 2 then (lw = (f.2.1, f.2.2.2.2.1, d) → P (f.2.2.2.2.2.1, dL X ρ f.2.2.2.2.2.2.1, dS X ρ f.2.2.2.2.2.2.2, G, sl))
    else ∃ r1, RUN X Ft dfl Mt d f.2.1 f.2.2.2.2.1 f.2.2.1 (f.2.2.2.2.2.1, dL X ρ f.2.2.2.2.2.2.1, dS X ρ f.2.2.2.2.2.2.2, G, sl) r1 ∧ ZZ f.1 f.2.2.2.1 d (KK X Ft dfl Mt lw P ρ fs (d + 1)) r1
end GOAL
/-- the symbolic end of a frame -/
noncomputable def sfin (F : sFs) (ret : Option FieldType) (ins : Instr) (st : List sT) : Option (Option sT) := match ins with
  | .ireturn => match st with
    | [v] => if sk v = 0 ∧ (ret = some .int ∨ (ret = some .boolean ∧ (0 ≤ (sivl F v).1 ∧ (sivl F v).2 ≤ 1))) then some (some v) else none
    | _ => none
  | .lreturn => match st with
    | [v] => if sk v = 1 ∧ ret = some .long then some (some v) else none
    | _ => none
  | .return_ => match st with
    | [] => if ret = none then some none else none
    | _ => none
  | _ => none
theorem sfin_ok {X : pX} {ρ : sR} {F : sFs} (hF : fok X ρ F) {ret : Option FieldType} {ins : Instr} {st : List sT} {v : Option sT} (h : sfin F ret ins st = some v) (pc len r1 r2 : Nat) (r3 : Int) (tail : List pOp) (lv : pL) (G : pH) (sl : Nat) : pm_fin ret ((pc, ins, len, r1, r2, r3) :: tail, lv, dS X ρ st, G, sl) = some (v.map (sv X ρ)) := by
  cases ins <;> simp only [sfin] at h
  case ireturn =>
    split at h
    · next t =>
      split at h
      · next hc =>
        cases h
        show pm_fin ret (_, _, [sv X ρ t], _, _) = _
        rw [sv_int hc.1]
        have h1 : pm_rok ret (sd X ρ t).1 = true := by
          rcases hc.2 with h2 | ⟨h2, h3⟩
          · rw [h2]; rfl
          · rw [h2]
            have h5 := sivl_ok hF t
            rw [sn_i hc.1] at h5
            rcases s_01 (x := (sd X ρ t).1) (by omega) (by omega) with h7 | h7
            · rw [h7]; rfl
            · rw [h7]; rfl
        simp only [pm_fin]
        rw [if_pos h1]
        show _ = some (some (sv X ρ t))
        rw [sv_int hc.1]
      · cases h
    · cases h
  case lreturn =>
    split at h
    · next t =>
      split at h
      · next hc =>
        cases h
        show pm_fin ret (_, _, [sv X ρ t], _, _) = _
        rw [sv_long hc.1]
        simp only [pm_fin]
        rw [if_pos hc.2]
        show _ = some (some (sv X ρ t))
        rw [sv_long hc.1]
      · cases h
    · cases h
  case return_ =>
    split at h
    · split at h
      · next hc =>
        cases h
        show pm_fin ret (_, _, [], _, _) = _
        simp only [pm_fin]
        rw [if_pos hc]
        rfl
      · cases h
    · cases h
  all_goals (cases h)
/-- is it an end at all -/
noncomputable def sret (ins : Instr) : Bool := match ins with
  | .ireturn => true
  | .lreturn => true
  | .return_ => true
  | _ => false
theorem sret_ok {ret : Option FieldType} {ins : Instr} (h : sret ins = false) (pc len r1 r2 : Nat) (r3 : Int) (tail : List pOp) (lv : pL) (st : List Value) (G : pH) (sl : Nat) : pm_fin ret ((pc, ins, len, r1, r2, r3) :: tail, lv, st, G, sl) = none := by
  cases ins <;> first | rfl | (cases h; done)
noncomputable def scat (t : sT) : Nat := if sk t = 1 then 2 else 1
noncomputable def sargs (n : Nat) (st : List sT) : Option (List sT × List sT) := if n ≤ st.length ∧ ((st.drop n).map scat).sum ≤ 8 then some ((st.take n).reverse, st.drop n) else none
theorem scat_map (X : pX) (ρ : sR) (st : List sT) : (dS X ρ st).map (fun v => v.category) = st.map scat := by
  unfold dS
  rw [List.map_map]
  apply List.map_congr_left
  intro t _
  exact sv_cat X ρ t
theorem sargs_ok {X : pX} {ρ : sR} {n : Nat} {st as rest : List sT} (h : sargs n st = some (as, rest)) : pm_argsOf n (dS X ρ st) = some (dS X ρ as, dS X ρ rest) := by
  unfold sargs at h
  split at h
  · next hc =>
    cases h
    unfold pm_argsOf
    have e1 : (dS X ρ st).drop n = dS X ρ (st.drop n) := by unfold dS; rw [List.map_drop]
    have e2 : ((dS X ρ st).take n).reverse = dS X ρ ((st.take n).reverse) := by unfold dS; rw [List.map_reverse, List.map_take]
    rw [e1, e2, scat_map, if_pos ⟨by unfold dS; rw [List.length_map]; exact hc.1, hc.2⟩]
  · cases h
noncomputable def sargs9 (n : Nat) (st : List sT) : Option (List sT × List sT) := if n ≤ st.length ∧ ((st.drop n).map scat).sum ≤ 9 then some ((st.take n).reverse, st.drop n) else none
theorem sargs9_ok {X : pX} {ρ : sR} {n : Nat} {st as rest : List sT} (h : sargs9 n st = some (as, rest)) : pm_args9 n (dS X ρ st) = some (dS X ρ as, dS X ρ rest) := by
  unfold sargs9 at h
  split at h
  · next hc =>
    cases h
    unfold pm_args9
    have e1 : (dS X ρ st).drop n = dS X ρ (st.drop n) := by unfold dS; rw [List.map_drop]
    have e2 : ((dS X ρ st).take n).reverse = dS X ρ ((st.take n).reverse) := by unfold dS; rw [List.map_reverse, List.map_take]
    rw [e1, e2, scat_map, if_pos ⟨by unfold dS; rw [List.length_map]; exact hc.1, hc.2⟩]
  · cases h
noncomputable def srecv (ci : Nat) (G : sH) (as : List sT) : Bool := match as with
  | .index k :: _ => match hget G k with
    | some (.inr o) => o.1 == ci
    | _ => false
  | _ => false
theorem srecv_ok {X : pX} {ρ : sR} {ci : Nat} {sG : sH} {G : pH} {as : List sT} (hR : HR X ρ sG G) (h : srecv ci sG as = true) : pm_recv ci G (dS X ρ as) = true := by
  unfold srecv at h
  split at h
  · next k r =>
    split at h
    · next o ho =>
      show pm_recv ci G (.ref k :: dS X ρ r) = true
      simp only [pm_recv, hR.obj ho]
      exact h
    · cases h
  · cases h
noncomputable def sask (ins : Instr) (r2 : Nat) (r3 : Int) (st : List sT) (G : sH) : Option (List sT × List sT) := match ins with
  | .invokestatic _ => if r3 = 7 then none else if r3 = 8 then sargs9 r2 st else sargs r2 st
  | .invokespecial _ => if r3 = 0 then match sargs r2 st with
    | some (.index k :: as, rest) => some (.index k :: as, rest)
    | _ => none
    else none
  | .invokevirtual _ => match sargs r2 st with
    | some q => if srecv r3.toNat G q.1 = true then some q else none
    | none => none
  | _ => none
theorem sask_ok {X : pX} {ρ : sR} {ins : Instr} {r2 : Nat} {r3 : Int} {st as rest : List sT} {sG : sH} {G : pH} (hR : HR X ρ sG G) (h : sask ins r2 r3 st sG = some (as, rest)) : pm_ask ins r2 r3 (dS X ρ st) G = some (dS X ρ as, dS X ρ rest) := by
  cases ins <;> simp only [sask] at h
  case invokestatic =>
    split at h
    · cases h
    · next h7 =>
      simp only [pm_ask]
      rw [if_neg h7]
      split at h
      · next h8 => rw [if_pos h8]; exact sargs9_ok h
      · next h8 => rw [if_neg h8]; exact sargs_ok h
  case invokespecial =>
    split at h
    · next h0 =>
      split at h
      · next k as' rest' ha =>
        cases h
        simp only [pm_ask]
        rw [if_pos h0, sargs_ok ha]
        rfl
      · cases h
    · cases h
  case invokevirtual =>
    split at h
    · next q ha =>
      split at h
      · next hr =>
        cases h
        simp only [pm_ask]
        rw [sargs_ok ha]
        dsimp only
        rw [if_pos (srecv_ok hR hr)]
      · cases h
    · cases h
  all_goals (cases h)
noncomputable def slva : Nat → List sT → sL
  | _, [] => []
  | i, v :: vs => (i, v) :: slva (if sk v = 1 then i + 2 else i + 1) vs
theorem slva_ok (X : pX) (ρ : sR) : ∀ (as : List sT) (i : Nat), dL X ρ (slva i as) = lv_args i (dS X ρ as)
  | [], i => rfl
  | v :: vs, i => by
    have ih := slva_ok X ρ vs (if sk v = 1 then i + 2 else i + 1)
    show (i, sv X ρ v) :: dL X ρ (slva _ vs) = (i, sv X ρ v) :: lv_args (if (sv X ρ v).category = 2 then i + 2 else i + 1) (dS X ρ vs)
    rw [ih, sv_cat]
    by_cases h : sk v = 1
    · rw [if_pos h, if_pos h, if_pos rfl]
    · rw [if_neg h, if_neg h, if_neg (by decide)]
theorem slen_ok (X : pX) (ρ : sR) : ∀ (as : List sT), (lg_sl (dS X ρ as)).length = (as.map scat).sum
  | [] => rfl
  | v :: vs => by
    have ih := slen_ok X ρ vs
    show (lg_sl (sv X ρ v :: dS X ρ vs)).length = scat v + _
    unfold lg_sl at ih ⊢
    rw [List.flatMap_cons, List.length_append, ih, sv_cat]
    unfold scat
    by_cases h : sk v = 1
    · rw [if_pos h, if_pos rfl]; rfl
    · rw [if_neg h, if_neg (by decide)]; rfl
