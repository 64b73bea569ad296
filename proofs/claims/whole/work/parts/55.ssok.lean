/-! ===== the symbolic machine is sound ===== -/
theorem shop_nolop {K : sK} {F : sFs} {Ft : Nat → Nat → FieldType} {dfl : Nat → Nat × List Value} {ins : Instr} {r1 r2 : Nat} {r3 : Int} {st : List sT} {G : sH} {sl : Nat} {z : sO} (h : shop K F Ft dfl ins r1 r2 r3 st G sl = some z) (nL : Nat) (lv : pL) (st' : List Value) : pm_lop nL ins lv st' = none := by
  cases ins <;> first | rfl | (simp only [shop] at h; cases h)
section SOK
variable {X : pX} {Ft : Nat → Nat → FieldType} {dfl : Nat → Nat × List Value} {Mt : List pM} {lw : Nat × List pOp × Nat} {P : pC → Prop} {ρ : sR} {hl : Nat → Option (pHd × Nat)} {K : sK} {F : sFs}
/-- a step that the frame takes, whatever its calls are -/
theorem GG_step (hP : Pback X Ft dfl Mt hl lw P) {k nL : Nat} {ret : Option FieldType} {hs : pHd} {full : List pOp} {pc len r1 r2 : Nat} {ins : Instr} {r3 : Int} {tail cur' : List pOp} {lv lv' : sL} {st st' : List sT} {fs : List sF} {d sl sl' : Nat} {G G' : pH} (hr : sret ins = false) (hh : ¬ (k = 2 ∧ pm_isHelp ins r3 = true))
    (hst : ∃ N : Nat, ∀ fuel : Nat, N ≤ fuel → pm_step X Ft dfl (pm_callD X Ft dfl Mt fuel d) nL full ((pc, ins, len, r1, r2, r3) :: tail, dL X ρ lv, dS X ρ st, G, sl) = some (cur', dL X ρ lv', dS X ρ st', G', sl')) (hg : GG X Ft dfl Mt lw P ρ (k, nL, ret, hs, full, cur', lv', st') fs d sl' G') : GG X Ft dfl Mt lw P ρ (k, nL, ret, hs, full, (pc, ins, len, r1, r2, r3) :: tail, lv, st) fs d sl G := by
  unfold GG at hg ⊢
  dsimp only at hg ⊢
  by_cases hk : k = 2
  · rw [if_pos hk] at hg ⊢
    intro e
    refine hP _ _ ?_ (hg e)
    obtain ⟨N, hN⟩ := hst
    refine ⟨N, fun fuel hf => ?_⟩
    rw [e]
    simp only [pm_stepL]
    rw [if_neg (fun h => hh ⟨hk, h⟩)]
    exact hN fuel hf
  · rw [if_neg hk] at hg ⊢
    obtain ⟨r, h1, h2⟩ := hg
    exact ⟨r, RUN.step (sret_ok hr _ _ _ _ _ _ _ _ _ _) hst h1, h2⟩
theorem sfin_step {k nL : Nat} {ret : Option FieldType} {hs : pHd} {full : List pOp} {pc len r1 r2 : Nat} {ins : Instr} {r3 : Int} {tail : List pOp} {lv : sL} {st : List sT} {fs : List sF} {d sl : Nat} {sG : sH} {G : pH} {v : Option sT} {s' : sS} (hF : fok X ρ F) (hR : HR X ρ sG G) (hk : ¬ k = 2) (hv : sfin F ret ins st = some v) (h1 : k = 1 → ∃ t, v = some t ∧ sk t = 0) (hw : swake fs v (d + 1) sG sl = some s')
    (hg : ∀ G' : pH, HR X ρ s'.2.2.2.1 G' → GG X Ft dfl Mt lw P ρ s'.1 s'.2.1 s'.2.2.1 (s'.2.2.2.2 + rS ρ) G') : GG X Ft dfl Mt lw P ρ (k, nL, ret, hs, full, (pc, ins, len, r1, r2, r3) :: tail, lv, st) fs d (sl + rS ρ) G := by
  obtain ⟨⟨e1, e2⟩, hkk⟩ := swake_ok (X := X) (Ft := Ft) (dfl := dfl) (Mt := Mt) (lw := lw) (P := P) (ρ := ρ) (G := G) hw
  have hK := hkk (hg G (by rw [e1]; exact hR))
  unfold GG
  dsimp only
  rw [if_neg hk]
  refine ⟨_, RUN.fin (sfin_ok hF hv pc len r1 r2 r3 tail _ G (sl + rS ρ)), ?_⟩
  unfold ZZ
  by_cases h9 : k = 1
  · rw [if_pos h9]
    obtain ⟨t, rfl, ht⟩ := h1 h9
    refine ⟨_, ?_, hK⟩
    show hres hs (.inl (some (sv X ρ t)), G, sl + rS ρ) = some (.inl (some (sv X ρ t)), G, sl + rS ρ)
    rw [sv_int ht]
    rfl
  · rw [if_neg h9]
    exact ⟨fun E hE => (nomatch hE), hK⟩
theorem scall_inv {k' : Nat} {hs' : pHd} {y : Nat} {as rest : List sT} {f : sF} {cur' : List pOp} {kw : Nat} {fs : List sF} {d : Nat} {G : sH} {sl : Nat} {s' : sS} (h : scall Mt k' hs' y as rest f cur' kw fs d G sl = some s') : ∃ (M : pM) (o : pOp) (t : List pOp) (d' : Nat), Mt[y]? = some M ∧ M.2.2.2.2 = o :: t ∧ o.1 = 0 ∧ (as.map scat).sum ≤ M.2.2.1 ∧ d = d' + 1 ∧ s' = ((k', M.2.2.1, M.2.2.2.1, hs', M.2.2.2.2, M.2.2.2.2, slva 0 as, []), (kw, f.2.1, f.2.2.1, f.2.2.2.1, f.2.2.2.2.1, cur', f.2.2.2.2.2.2.1, rest) :: fs, d', G, sl) := by
  unfold scall at h
  split at h
  · next M hM =>
    split at h
    · next o t ho =>
      split at h
      · next hc =>
        split at h
        · next d' => cases h; exact ⟨M, o, t, d', hM, ho, hc.1, hc.2, rfl, rfl⟩
        · cases h
      · cases h
    · cases h
  · cases h
theorem pm_ask_sp {ins : Instr} {r2 : Nat} {r3 : Int} {st : List sT} {G : sH} {q : List sT × List sT} (h : sask ins r2 r3 st G = some q) (st' : List Value) : pm_isThrow ins r3 st' = false := by
  cases ins <;> first | rfl | (simp only [sask] at h; cases h)
theorem scall_step (hP : Pback X Ft dfl Mt hl lw P) {k nL : Nat} {ret : Option FieldType} {hs : pHd} {full : List pOp} {pc len r1 r2 : Nat} {ins : Instr} {r3 : Int} {tail cur' : List pOp} {lv : sL} {st as rest : List sT} {fs : List sF} {d sl : Nat} {sG : sH} {G : pH} {s' : sS} (hR : HR X ρ sG G) (hr : sret ins = false) (hh : ¬ (k = 2 ∧ pm_isHelp ins r3 = true)) (ha : sask ins r2 r3 st sG = some (as, rest)) (hm : ¬ (k = 1 ∧ pm_mayThrow ins r3 = false)) (hto : pm_to full tail pc len none = some cur')
    (hc : scall Mt 0 [] r1 as rest (k, nL, ret, hs, full, (pc, ins, len, r1, r2, r3) :: tail, lv, st) cur' (swait k (pm_mayThrow ins r3)) fs d sG sl = some s') (hg : ∀ G' : pH, HR X ρ s'.2.2.2.1 G' → GG X Ft dfl Mt lw P ρ s'.1 s'.2.1 s'.2.2.1 (s'.2.2.2.2 + rS ρ) G') : GG X Ft dfl Mt lw P ρ (k, nL, ret, hs, full, (pc, ins, len, r1, r2, r3) :: tail, lv, st) fs d (sl + rS ρ) G := by
  obtain ⟨M, o, t, d', hM, ho, h0, hlen, rfl, rfl⟩ := scall_inv hc
  have hg := hg G hR
  unfold GG at hg
  dsimp only at hg
  rw [if_neg (by decide)] at hg
  obtain ⟨r, hrun, hz⟩ := hg
  unfold ZZ at hz
  rw [if_neg (by decide)] at hz
  obtain ⟨hcut, hkk⟩ := hz
  have hcall : CALL X Ft dfl Mt (d' + 1) r1 (dS X ρ as) G (sl + rS ρ) r := CALL.of hM ho h0 (by rw [slen_ok]; exact hlen) hcut (by rw [slva_ok] at hrun; exact hrun)
  have hask := sask_ok (X := X) (ρ := ρ) hR ha
  have hins := sask_ins ha
  have hlop : ∀ lv st, pm_lop nL ins lv st = none := fun lv st => pm_nolop (by
    rcases hins with ⟨i, h, -⟩ | ⟨i, h⟩ | ⟨i, h⟩
    · exact Or.inl ⟨i, h⟩
    · exact Or.inr (Or.inl ⟨i, h⟩)
    · exact Or.inr (Or.inr (Or.inl ⟨i, h⟩))) nL lv st
  have hhop : ∀ st G sl, pm_hop X Ft dfl ins r1 r2 r3 st G sl = none := fun st G sl => pm_nohop (by
    rcases hins with ⟨i, h, h7⟩ | ⟨i, h⟩ | ⟨i, h⟩
    · exact Or.inl ⟨i, h, h7⟩
    · exact Or.inr (Or.inl ⟨i, h⟩)
    · exact Or.inr (Or.inr (Or.inl ⟨i, h⟩))) r1 r2 st G sl
  obtain ⟨v, G2, sl2⟩ := r
  cases v with
  | inl v =>
    have hst : ∃ N : Nat, ∀ fuel : Nat, N ≤ fuel → pm_step X Ft dfl (pm_callD X Ft dfl Mt fuel (d' + 1)) nL full ((pc, ins, len, r1, r2, r3) :: tail, dL X ρ lv, dS X ρ st, G, sl + rS ρ) = some (cur', dL X ρ lv, v.toList ++ dS X ρ rest, G2, sl2) := by
      obtain ⟨N, hN⟩ := hcall
      refine ⟨N, fun fuel hf => ?_⟩
      simp only [pm_step, hlop, hhop, hask, hN fuel hf, hto]
    unfold KK at hkk
    dsimp only at hkk
    unfold GG
    dsimp only
    by_cases hk : k = 2
    · have hw : swait k (pm_mayThrow ins r3) = 2 := by unfold swait; rw [if_pos hk]
      rw [if_pos hw] at hkk
      rw [if_pos hk]
      intro e
      refine hP _ _ ?_ (hkk e)
      obtain ⟨N, hN⟩ := hst
      refine ⟨N, fun fuel hf => ?_⟩
      rw [e]
      simp only [pm_stepL]
      rw [if_neg (fun h => hh ⟨hk, h⟩)]
      exact hN fuel hf
    · have hw : ¬ swait k (pm_mayThrow ins r3) = 2 := by
        unfold swait
        rw [if_neg hk]
        split
        · decide
        · split <;> decide
      rw [if_neg hw] at hkk
      rw [if_neg hk]
      obtain ⟨r, h1, h2⟩ := hkk
      refine ⟨r, RUN.step (sret_ok hr _ _ _ _ _ _ _ _ _ _) hst h1, ?_⟩
      unfold ZZ at h2 ⊢
      by_cases h9 : k = 1
      · have hw1 : swait k (pm_mayThrow ins r3) = 1 := by unfold swait; rw [if_neg hk, if_pos h9]
        rw [if_pos hw1] at h2
        rw [if_pos h9]
        exact h2
      · have hw1 : ¬ swait k (pm_mayThrow ins r3) = 1 := by
          unfold swait
          rw [if_neg hk, if_neg h9]
          split <;> decide
        rw [if_neg hw1] at h2
        rw [if_neg h9]
        exact h2
  | inr E =>
    unfold KK at hkk
    dsimp only at hkk
    obtain ⟨hw, h2⟩ := hkk
    have hk : ¬ k = 2 := by
      intro hk
      unfold swait at hw
      rw [if_pos hk] at hw
      rcases hw with h | h <;> cases h
    have hmt : pm_mayThrow ins r3 = true := by
      cases hb : pm_mayThrow ins r3 with
      | true => rfl
      | false =>
        unfold swait at hw
        rw [hb, if_neg hk, if_neg (fun h1 => hm ⟨h1, hb⟩)] at hw
        rcases hw with h | h <;> cases h
    unfold GG
    dsimp only
    rw [if_neg hk]
    refine ⟨(.inr E, G2, sl2), RUN.thr (sret_ok hr _ _ _ _ _ _ _ _ _ _) ?_, ?_⟩
    · obtain ⟨N, hN⟩ := hcall
      refine ⟨N, fun fuel hf => ⟨?_, ?_⟩⟩
      · simp only [pm_step, hlop, hhop, hask, hN fuel hf]
      · simp only [pm_thr, hask, hN fuel hf, hmt]
        rw [if_neg (by rw [pm_ask_sp ha]; decide), if_pos trivial]
    · unfold ZZ at h2 ⊢
      by_cases h9 : k = 1
      · have hw1 : swait k (pm_mayThrow ins r3) = 1 := by unfold swait; rw [if_neg hk, if_pos h9]
        rw [if_pos hw1] at h2
        rw [if_pos h9]
        exact h2
      · have hw1 : ¬ swait k (pm_mayThrow ins r3) = 1 := by
          unfold swait
          rw [if_neg hk, if_neg h9]
          split <;> decide
        rw [if_neg hw1] at h2
        rw [if_neg h9]
        exact h2
theorem shelp_step (hP : Pback X Ft dfl Mt hl lw P) {nL : Nat} {ret : Option FieldType} {hs : pHd} {full : List pOp} {pc len r1 r2 : Nat} {ins : Instr} {r3 : Int} {tail cur' : List pOp} {lv : sL} {st : List sT} {q : List sT × List sT} {h : pHd × Nat} {fs : List sF} {d sl : Nat} {sG : sH} {G : pH} {s' : sS} (hR : HR X ρ sG G) (hh : pm_isHelp ins r3 = true) (ha : sargs r2 st = some q) (hhl : hl r1 = some h) (hto : pm_to full tail pc len none = some cur')
    (hc : scall Mt 1 h.1 r1 q.1 q.2 (2, nL, ret, hs, full, (pc, ins, len, r1, r2, r3) :: tail, lv, st) cur' 2 fs d sG sl = some s') (hg : ∀ G' : pH, HR X ρ s'.2.2.2.1 G' → GG X Ft dfl Mt lw P ρ s'.1 s'.2.1 s'.2.2.1 (s'.2.2.2.2 + rS ρ) G') : GG X Ft dfl Mt lw P ρ (2, nL, ret, hs, full, (pc, ins, len, r1, r2, r3) :: tail, lv, st) fs d (sl + rS ρ) G := by
  obtain ⟨M, o, t, d', hM, ho, h0, hlen, rfl, rfl⟩ := scall_inv hc
  have hg := hg G hR
  unfold GG at hg
  dsimp only at hg
  rw [if_neg (by decide)] at hg
  obtain ⟨r, hrun, hz⟩ := hg
  unfold ZZ at hz
  rw [if_pos rfl] at hz
  obtain ⟨r2', hres2, hkk⟩ := hz
  obtain ⟨as, rest⟩ := q
  have hargs := sargs_ok (X := X) (ρ := ρ) ha
  unfold GG
  dsimp only
  rw [if_pos rfl]
  intro e
  rw [slva_ok] at hrun
  obtain ⟨N, hN⟩ := hrun
  have hN : ∀ fuel n : Nat, N ≤ fuel → N ≤ n → pm_exec X Ft dfl (pm_callD X Ft dfl Mt fuel d') M.2.2.1 M.2.2.2.2 M.2.2.2.1 n (M.2.2.2.2, lv_args 0 (dS X ρ as), [], G, sl + rS ρ) = some r := hN
  have key : ∃ w G2 sl2, r2' = (.inl (some (.int w)), G2, sl2) ∧ ∀ fuel, N ≤ fuel → hcs X Ft dfl Mt hl fuel d' r1 (dS X ρ as) G (sl + rS ρ) = some (w, G2, sl2) := by
    obtain ⟨z, G2, sl2⟩ := r
    have mk : ∀ w : Int32, hres h.1 (z, G2, sl2) = some (.inl (some (.int w)), G2, sl2) → (z = .inl (some (.int w)) ∨ ∃ E q, z = .inr E ∧ pm_hfind h.1 E = some q ∧ q.2.2.2 = w) → r2' = (.inl (some (.int w)), G2, sl2) ∧ ∀ fuel, N ≤ fuel → hcs X Ft dfl Mt hl fuel d' r1 (dS X ρ as) G (sl + rS ρ) = some (w, G2, sl2) := by
      intro w hw hz
      refine ⟨Option.some.inj (hres2.symm.trans hw), fun fuel hf => ?_⟩
      have h1 := hN fuel fuel hf hf
      simp only [hcs, hhl, hM, pm_help]
      rw [ho] at h1 ⊢
      dsimp only
      rw [if_pos ⟨h0, by rw [slen_ok]; exact hlen⟩, h1]
      rcases hz with rfl | ⟨E, q, rfl, hq, rfl⟩
      · rfl
      · dsimp only
        rw [hq]
    cases z with
    | inl v =>
      cases v with
      | none => cases hres2
      | some x =>
        cases x with
        | int w => exact ⟨w, G2, sl2, mk w rfl (Or.inl rfl)⟩
        | _ => cases hres2
    | inr E =>
      cases hq : pm_hfind h.1 E with
      | none => simp only [hres, hq] at hres2; cases hres2
      | some q => exact ⟨q.2.2.2, G2, sl2, mk q.2.2.2 (by simp only [hres, hq]) (Or.inr ⟨E, q, rfl, hq, rfl⟩)⟩
  obtain ⟨w, G2, sl2, rfl, hhc⟩ := key
  unfold KK at hkk
  dsimp only at hkk
  rw [if_pos rfl] at hkk
  refine hP _ _ ?_ (hkk e)
  refine ⟨N, fun fuel hf => ?_⟩
  rw [e]
  simp only [pm_stepL]
  rw [if_pos hh, hargs]
  dsimp only
  rw [show d' + 1 - 1 = d' from rfl, hhc fuel hf]
  dsimp only
  rw [hto]
  rfl
theorem sstep_ok (hP : Pback X Ft dfl Mt hl lw P) {f : sF} {fs : List sF} {d : Nat} {sG : sH} {sl : Nat} {s' : sS} (h : sstep K F Ft dfl Mt hl f fs d sG sl = some (.inl s')) (hK : kok X ρ K) (hF : fok X ρ F) {G : pH} (hR : HR X ρ sG G) (hg : ∀ G' : pH, HR X ρ s'.2.2.2.1 G' → GG X Ft dfl Mt lw P ρ s'.1 s'.2.1 s'.2.2.1 (s'.2.2.2.2 + rS ρ) G') : GG X Ft dfl Mt lw P ρ f fs d (sl + rS ρ) G := by
  obtain ⟨k, nL, ret, hs, full, cur, lv, st⟩ := f
  unfold sstep at h
  dsimp only at h
  split at h
  · cases h
  · next pc ins len r1 r2 r3 tail =>
    split at h
    · split at h
      · cases h
      · next hk =>
        split at h
        · next v hv =>
          split at h
          · next h1 =>
            split at h
            · next t =>
              split at h
              · next ht =>
                obtain ⟨s1, hs1, e1⟩ := Option.map_eq_some_iff.mp h
                cases e1
                exact sfin_step hF hR hk hv (fun _ => ⟨t, rfl, ht⟩) hs1 hg
              · cases h
            · cases h
          · next h1 =>
            obtain ⟨s1, hs1, e1⟩ := Option.map_eq_some_iff.mp h
            cases e1
            exact sfin_step hF hR hk hv (fun h9 => absurd h9 h1) hs1 hg
        · cases h
    · next hr =>
      have hr : sret ins = false := by cases hq : sret ins <;> simp_all
      split at h
      · next hh =>
        obtain ⟨rfl, hh⟩ := hh
        split at h
        · next q hq cur' ha hhl hto =>
          obtain ⟨s1, hs1, e1⟩ := Option.map_eq_some_iff.mp h
          cases e1
          exact shelp_step hP hR hh ha hhl hto hs1 hg
        · cases h
      · next hh =>
        split at h
        · next lv' st' j hlop =>
          split at h
          · next cur' hto =>
            cases h
            refine GG_step hP hr hh ⟨0, fun fuel _ => ?_⟩ (hg G hR)
            simp only [pm_step, slop_ok hF hlop, hto]
          · cases h
        · cases h
        · split at h
          · next st' G' sl' hhop =>
            split at h
            · next cur' hto =>
              cases h
              obtain ⟨G2, h1, h2⟩ := shop_ok hF hK hR hhop
              refine GG_step hP hr hh ⟨0, fun fuel _ => ?_⟩ (hg G2 h2)
              simp only [pm_step, shop_nolop hhop, h1, hto]
            · cases h
          · cases h
          · split at h
            · next q ha =>
              split at h
              · cases h
              · next hm =>
                split at h
                · next cur' hto =>
                  obtain ⟨s1, hs1, e1⟩ := Option.map_eq_some_iff.mp h
                  cases e1
                  exact scall_step hP hR hr hh ha hm hto hs1 hg
                · cases h
            · split at h
              · next i _ _ _ _ =>
                split at h
                · next h3 =>
                  subst h3
                  split at h
                  · next a rest _ _ _ =>
                    split at h
                    · next h8 =>
                      split at h
                      · next cur' hto =>
                        cases h
                        refine GG_step hP hr hh ⟨0, fun fuel _ => ?_⟩ (hg G hR)
                        have e9 : dS X ρ (.index a :: rest) = .ref a :: dS X ρ rest := rfl
                        have e8 : pm_ask (.invokespecial i) r2 1 (dS X ρ (.index a :: rest)) G = none := rfl
                        simp only [pm_step, pm_nolop (Or.inr (Or.inl ⟨i, rfl⟩)), pm_nohop (Or.inr (Or.inl ⟨i, rfl⟩)), e8]
                        simp only [e9, scat_map, hto]
                        rw [if_pos h8]
                      · cases h
                    · cases h
                  · cases h
                · cases h
              · next i _ _ _ _ =>
                split at h
                · next hc =>
                  obtain ⟨h3, hk, h8, h5⟩ := hc
                  subst h3
                  obtain ⟨s1, hs1, e1⟩ := Option.map_eq_some_iff.mp h
                  cases e1
                  obtain ⟨e2, hkk⟩ := sunw_ok (X := X) (Ft := Ft) (dfl := dfl) (Mt := Mt) (lw := lw) (P := P) (ρ := ρ) (G := G ++ [none]) fs (d + 1) hs1
                  have hKK := hkk (hg (G ++ [none]) (by rw [e2]; exact hR.none))
                  unfold GG
                  dsimp only
                  rw [if_neg (by omega)]
                  refine ⟨(.inr r1, G ++ [none], sl + rS ρ + 6), RUN.thr (sret_ok hr _ _ _ _ _ _ _ _ _ _) ⟨0, fun fuel _ => ⟨?_, ?_⟩⟩, ?_⟩
                  · have e8 : pm_ask (.new i) r2 1 (dS X ρ st) G = none := rfl
                    simp only [pm_step, pm_nolop (Or.inr (Or.inr (Or.inr ⟨i, rfl⟩))), pm_nohop (Or.inr (Or.inr (Or.inr ⟨i, rfl, rfl⟩))), e8]
                  · simp only [pm_thr, pm_isThrow, scat_map]
                    rw [if_pos (by rw [decide_eq_true h8]; rfl)]
                  · unfold ZZ
                    rw [if_neg (by omega)]
                    exact ⟨fun E _ => h5, by rw [show sl + rS ρ + 6 = sl + 6 + rS ρ by omega]; exact hKK⟩
                · cases h
              · cases h
end SOK
