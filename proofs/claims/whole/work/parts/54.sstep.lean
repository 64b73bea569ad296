/-! ===== the symbolic machine ===== -/
noncomputable def swake (fs : List sF) (v : Option sT) (d : Nat) (G : sH) (sl : Nat) : Option sS := match fs with
  | (k, nL, ret, hs, full, cur, lv, st) :: fs' => some ((k, nL, ret, hs, full, cur, lv, v.toList ++ st), fs', d, G, sl)
  | [] => none
noncomputable def sunw (E : Nat) (G : sH) (sl : Nat) : List sF → Nat → Option sS
  | [], _ => none
  | f :: fs, d => if f.1 = 0 then (if 5 ≤ d then sunw E G sl fs (d + 1) else none)
    else if f.1 = 1 then match pm_hfind f.2.2.2.1 E with
      | some q => swake fs (some (.int q.2.2.2)) (d + 1) G sl
      | none => none
    else none
/-- what a call leaves of the caller: how it waits -/
noncomputable def swait (k : Nat) (mt : Bool) : Nat := if k = 2 then 2 else if k = 1 then 1 else if mt = true then 0 else 3
noncomputable def scall (Mt : List pM) (k' : Nat) (hs' : pHd) (y : Nat) (as rest : List sT) (f : sF) (cur' : List pOp) (kw : Nat) (fs : List sF) (d : Nat) (G : sH) (sl : Nat) : Option sS := match Mt[y]? with
  | some M => match M.2.2.2.2 with
    | o :: _ => if o.1 = 0 ∧ (as.map scat).sum ≤ M.2.2.1 then match d with
      | d' + 1 => some ((k', M.2.2.1, M.2.2.2.1, hs', M.2.2.2.2, M.2.2.2.2, slva 0 as, []), (kw, f.2.1, f.2.2.1, f.2.2.2.1, f.2.2.2.2.1, cur', f.2.2.2.2.2.2.1, rest) :: fs, d', G, sl)
      | 0 => none
      else none
    | [] => none
  | none => none
noncomputable def sstep (K : sK) (F : sFs) (Ft : Nat → Nat → FieldType) (dfl : Nat → Nat × List Value) (Mt : List pM) (hl : Nat → Option (pHd × Nat)) (f : sF) (fs : List sF) (d : Nat) (G : sH) (sl : Nat) : Option (sS ⊕ sQ) := match f with
  | (k, nL, ret, hs, full, cur, lv, st) => match cur with
    | [] => none
    | (pc, ins, len, r1, r2, r3) :: tail =>
      if sret ins = true then
        if k = 2 then none else match sfin F ret ins st with
          | some v => if k = 1 then match v with
              | some t => if sk t = 0 then (swake fs (some t) (d + 1) G sl).map .inl else none
              | none => none
            else (swake fs v (d + 1) G sl).map .inl
          | none => none
      else if k = 2 ∧ pm_isHelp ins r3 = true then match sargs r2 st, hl r1, pm_to full tail pc len none with
        | some q, some h, some cur' => (scall Mt 1 h.1 r1 q.1 q.2 f cur' 2 fs d G sl).map .inl
        | _, _, _ => none
      else match slop F nL ins lv st with
        | some (.inl (lv', st', j)) => match pm_to full tail pc len j with
          | some cur' => some (.inl ((k, nL, ret, hs, full, cur', lv', st'), fs, d, G, sl))
          | none => none
        | some (.inr c) => some (.inr c)
        | none => match shop K F Ft dfl ins r1 r2 r3 st G sl with
          | some (.inl (st', G', sl')) => match pm_to full tail pc len none with
            | some cur' => some (.inl ((k, nL, ret, hs, full, cur', lv, st'), fs, d, G', sl'))
            | none => none
          | some (.inr c) => some (.inr c)
          | none => match sask ins r2 r3 st G with
            | some q => if k = 1 ∧ pm_mayThrow ins r3 = false then none else match pm_to full tail pc len none with
              | some cur' => (scall Mt 0 [] r1 q.1 q.2 f cur' (swait k (pm_mayThrow ins r3)) fs d G sl).map .inl
              | none => none
            | none => match ins with
              | .invokespecial _ => if r3 = 1 then match st with
                | .index _ :: rest => if (rest.map scat).sum ≤ 8 then match pm_to full tail pc len none with
                  | some cur' => some (.inl ((k, nL, ret, hs, full, cur', lv, rest), fs, d, G, sl))
                  | none => none
                  else none
                | _ => none
                else none
              | .new _ => if r3 = 1 ∧ (k = 0 ∨ k = 3) ∧ (st.map scat).sum ≤ 8 ∧ 5 ≤ d then (sunw r1 (hmore G) (sl + 6) fs (d + 1)).map .inl else none
              | _ => none
section SSTEP
variable {X : pX} {Ft : Nat → Nat → FieldType} {dfl : Nat → Nat × List Value} {Mt : List pM} {lw : Nat × List pOp × Nat} {P : pC → Prop} {ρ : sR} {hl : Nat → Option (pHd × Nat)}
/-- the law's helpers -/
noncomputable def hcs (X : pX) (Ft : Nat → Nat → FieldType) (dfl : Nat → Nat × List Value) (Mt : List pM) (hl : Nat → Option (pHd × Nat)) (fuel d : Nat) : pHc := fun y as G sl => match hl y, Mt[y]? with
  | some h, some M => pm_help X Ft dfl (pm_callD X Ft dfl Mt fuel d) M h.1 fuel as G sl
  | _, _ => none
/-- P goes back over the law's steps -/
noncomputable def Pback (X : pX) (Ft : Nat → Nat → FieldType) (dfl : Nat → Nat × List Value) (Mt : List pM) (hl : Nat → Option (pHd × Nat)) (lw : Nat × List pOp × Nat) (P : pC → Prop) : Prop := ∀ x x' : pC, (∃ N : Nat, ∀ fuel : Nat, N ≤ fuel → pm_stepL X Ft dfl (pm_callD X Ft dfl Mt fuel lw.2.2) (hcs X Ft dfl Mt hl fuel (lw.2.2 - 1)) lw.1 lw.2.1 x = some x') → P x' → P x
theorem dS_app (v : Option sT) (st : List sT) : dS X ρ (v.toList ++ st) = (v.map (sv X ρ)).toList ++ dS X ρ st := by
  unfold dS
  rw [List.map_append]
  cases v <;> rfl
theorem swake_ok {fs : List sF} {v : Option sT} {d : Nat} {sG : sH} {sl : Nat} {s' : sS} {G : pH} (h : swake fs v d sG sl = some s') : (s'.2.2.2.1 = sG ∧ s'.2.2.1 = d) ∧ (GG X Ft dfl Mt lw P ρ s'.1 s'.2.1 s'.2.2.1 (s'.2.2.2.2 + rS ρ) G → KK X Ft dfl Mt lw P ρ fs d (.inl (v.map (sv X ρ)), G, sl + rS ρ)) := by
  unfold swake at h
  split at h
  · next k nL ret hs full cur lv st fs' =>
    cases h
    refine ⟨⟨rfl, rfl⟩, fun hg => ?_⟩
    unfold GG at hg
    unfold KK
    dsimp only at hg ⊢
    rw [dS_app] at hg
    exact hg
  · cases h
theorem sunw_ok {E : Nat} {sG : sH} {sl : Nat} {s' : sS} {G : pH} : ∀ (fs : List sF) (d : Nat), sunw E sG sl fs d = some s' → s'.2.2.2.1 = sG ∧ (GG X Ft dfl Mt lw P ρ s'.1 s'.2.1 s'.2.2.1 (s'.2.2.2.2 + rS ρ) G → KK X Ft dfl Mt lw P ρ fs d (.inr E, G, sl + rS ρ))
  | [], d, h => by cases h
  | f :: fs, d, h => by
    unfold sunw at h
    split at h
    · next hk =>
      split at h
      · next h5 =>
        obtain ⟨h1, h2⟩ := sunw_ok fs (d + 1) h
        refine ⟨h1, fun hg => ?_⟩
        unfold KK
        refine ⟨Or.inl hk, ?_⟩
        unfold ZZ
        rw [if_neg (by omega)]
        exact ⟨fun E' _ => h5, h2 hg⟩
      · cases h
    · split at h
      · next hk =>
        split at h
        · next q hq =>
          obtain ⟨⟨h1, -⟩, h2⟩ := swake_ok (X := X) (Ft := Ft) (dfl := dfl) (Mt := Mt) (lw := lw) (P := P) (ρ := ρ) (G := G) h
          refine ⟨h1, fun hg => ?_⟩
          unfold KK
          refine ⟨Or.inr hk, ?_⟩
          unfold ZZ
          rw [if_pos hk]
          refine ⟨_, ?_, h2 hg⟩
          simp only [hres, hq]
          rfl
        · cases h
      · cases h
theorem pm_nolop {ins : Instr} (h : (∃ i, ins = .invokestatic i) ∨ (∃ i, ins = .invokespecial i) ∨ (∃ i, ins = .invokevirtual i) ∨ ∃ i, ins = .new i) (nL : Nat) (lv : pL) (st : List Value) : pm_lop nL ins lv st = none := by
  rcases h with ⟨i, rfl⟩ | ⟨i, rfl⟩ | ⟨i, rfl⟩ | ⟨i, rfl⟩ <;> rfl
theorem pm_nohop {ins : Instr} {r3 : Int} (h : (∃ i, ins = .invokestatic i ∧ r3 ≠ 7) ∨ (∃ i, ins = .invokespecial i) ∨ (∃ i, ins = .invokevirtual i) ∨ ∃ i, ins = .new i ∧ r3 = 1) (r1 r2 : Nat) (st : List Value) (G : pH) (sl : Nat) : pm_hop X Ft dfl ins r1 r2 r3 st G sl = none := by
  rcases h with ⟨i, rfl, h⟩ | ⟨i, rfl⟩ | ⟨i, rfl⟩ | ⟨i, rfl, h⟩
  · simp only [pm_hop]; rw [if_neg h]
  · rfl
  · rfl
  · simp only [pm_hop]; rw [if_neg (by omega)]
theorem sask_ins {ins : Instr} {r2 : Nat} {r3 : Int} {st : List sT} {G : sH} {q : List sT × List sT} (h : sask ins r2 r3 st G = some q) : (∃ i, ins = .invokestatic i ∧ r3 ≠ 7) ∨ (∃ i, ins = .invokespecial i) ∨ (∃ i, ins = .invokevirtual i) := by
  cases ins <;> simp only [sask] at h
  case invokestatic i =>
    split at h
    · cases h
    · next h7 => exact Or.inl ⟨i, rfl, h7⟩
  case invokespecial i => exact Or.inr (Or.inl ⟨i, rfl⟩)
  case invokevirtual i => exact Or.inr (Or.inr ⟨i, rfl⟩)
  all_goals (cases h)
end SSTEP
