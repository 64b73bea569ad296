set_option maxRecDepth 20000
/-! ===== a frame that calls and answers what was answered: the other side stands at its beginning ===== -/
section SYN
variable {X : pX} {Ft : Nat → Nat → FieldType} {dfl : Nat → Nat × List Value} {Mt : List pM} {K : sK} {ρ : sR}
theorem exec_n {c : pCall} {nL : Nat} {full : List pOp} {ret : Option FieldType} : ∀ (n k : Nat) (x : pC) (r : pRes), pm_exec X Ft dfl c nL full ret n x = some r → pm_exec X Ft dfl c nL full ret (n + k) x = some r
  | 0, _, _, _, he => by cases he
  | n + 1, k, x, r, he => by
    rw [show n + 1 + k = (n + k) + 1 by omega]
    simp only [pm_exec] at he ⊢
    cases hf : pm_fin ret x with
    | some v => rw [hf] at he; exact he
    | none =>
      rw [hf] at he
      dsimp only at he ⊢
      cases hs : pm_step X Ft dfl c nL full x with
      | some x' => rw [hs] at he; exact exec_n n k x' r he
      | none => rw [hs] at he; exact he
theorem callD_fu {f f' : Nat} (hf : f ≤ f') : ∀ d : Nat, callLe (pm_callD X Ft dfl Mt f d) (pm_callD X Ft dfl Mt f' d)
  | 0 => fun _ _ _ _ _ h => by cases h
  | d + 1 => fun y as G sl r h => by
    have ih := callD_fu hf d
    simp only [pm_callD] at h ⊢
    split at h
    · next M hM =>
      split at h
      · next o t ho =>
        split at h
        · next hc =>
          rw [if_pos hc]
          have h1 := pm_cut_a h
          have e := exec_n f (f' - f) _ _ (exec_up ih f _ r h1)
          rw [show f + (f' - f) = f' by omega] at e
          rw [e]
          rw [h1] at h
          exact h
        · cases h
      · cases h
    · cases h
theorem RUN_of_CALL {d y : Nat} {M : pM} {o : pOp} {t : List pOp} {as : List Value} {G : pH} {sl : Nat} {r : pRes} (hM : Mt[y]? = some M) (ho : M.2.2.2.2 = o :: t) (h : CALL X Ft dfl Mt (d + 1) y as G sl r) : RUN X Ft dfl Mt d M.2.2.1 M.2.2.2.2 M.2.2.2.1 (M.2.2.2.2, lv_args 0 as, [], G, sl) r ∧ cutok d r := by
  obtain ⟨N, hN⟩ := h
  have h1 := hN N (Nat.le_refl _)
  simp only [pm_callD, hM] at h1
  rw [ho] at h1 ⊢
  dsimp only at h1
  split at h1
  · next hc =>
    have h2 := pm_cut_a h1
    refine ⟨⟨N, fun fuel n hf hn => ?_⟩, fun E hE => ?_⟩
    · have e := exec_n N (n - N) _ _ (exec_up (callD_fu hf d) N _ r h2)
      rw [show N + (n - N) = n by omega] at e
      exact e
    · obtain ⟨v, G', sl'⟩ := r
      dsimp only at hE
      subst hE
      exact (pm_cut_r h1).1
  · cases h1
/-- a frame that calls a method of three arguments and answers what it answers -/
noncomputable def syO (y : Nat) (c : Int) : List pOp := [(0, .invokevirtual 0, 3, y, 3, c), (3, .ireturn, 1, 0, 0, 0)]
noncomputable def syn (y d : Nat) (c : Int) (as : List sT) (Z : sH) : sS := ((0, 0, some .int, [], syO y c, syO y c, [], as.reverse), [fBot], d, Z, 0)
theorem syn_in {d y : Nat} {c : Int} {a1 a2 a3 : sT} {Z : sH} {Q : pB → List Value → pH → Nat → Prop} (hok : sinok Mt y [a1, a2, a3] = true) (h : GPh X Ft dfl Mt (d + 2) Q ρ (syn y (d + 1) c [a1, a2, a3] Z)) : GPh X Ft dfl Mt (d + 1) Q ρ (sin0 Mt y d [a1, a2, a3] Z) := by
  intro B G hR
  unfold sinok at hok
  split at hok
  · next M hM =>
    simp only [Bool.and_eq_true] at hok
    obtain ⟨ho, hlen⟩ := hok
    split at ho
    · next o t hops =>
      have hs0 : sin0 Mt y d [a1, a2, a3] Z = ((0, M.2.2.1, M.2.2.2.1, [], M.2.2.2.2, M.2.2.2.2, slva 0 [a1, a2, a3], []), [fBot], d, Z, 0) := by
        unfold sin0
        rw [hM]
      rw [hs0] at hR ⊢
      have hg : GG X Ft dfl Mt (0, [], d + 2) (PQ (Q B)) (rwB ρ B) (0, 0, some .int, [], syO y c, syO y c, [], [a1, a2, a3].reverse) [fBot] (d + 1) (0 + rS (rwB ρ B)) G := h B G hR
      show GG X Ft dfl Mt (0, [], d + 1) (PQ (Q B)) (rwB ρ B) (0, M.2.2.1, M.2.2.2.1, [], M.2.2.2.2, M.2.2.2.2, slva 0 [a1, a2, a3], []) [fBot] d (0 + rS (rwB ρ B)) G
      unfold GG at hg ⊢
      dsimp only at hg ⊢
      rw [if_neg (by decide)] at hg ⊢
      obtain ⟨r, ⟨N, hN⟩, hz⟩ := hg
      unfold ZZ at hz
      rw [if_neg (by decide)] at hz
      obtain ⟨-, hkk⟩ := hz
      have hst : dS X (rwB ρ B) [a1, a2, a3].reverse = [sv X ρ a3, sv X ρ a2, sv X ρ a1] := by
        rw [dS_B]
        rfl
      have key : ∀ fuel : Nat, N ≤ fuel → pm_callD X Ft dfl Mt fuel (d + 1) y [sv X ρ a1, sv X ρ a2, sv X ρ a3] G (0 + rS (rwB ρ B)) = some r := by
        intro fuel hf
        have e := hN fuel (N + 2) hf (by omega)
        rw [hst] at e
        rw [show N + 2 = (N + 1) + 1 by omega] at e
        simp only [pm_exec, syO, pm_fin, pm_step] at e
        rw [pm_nolop (.inr (.inr (.inl ⟨0, rfl⟩))), pm_nohop (.inr (.inr (.inl ⟨0, rfl⟩)))] at e
        dsimp only at e
        cases ha : pm_ask (.invokevirtual 0) 3 c [sv X ρ a3, sv X ρ a2, sv X ρ a1] G with
        | none =>
          rw [ha] at e
          simp only [pm_thr, ha] at e
          split at e
          · next h9 => simp [pm_isThrow] at h9
          · split at e <;> cases e
        | some q =>
          have hq : q = ([sv X ρ a1, sv X ρ a2, sv X ρ a3], []) := by
            simp only [pm_ask] at ha
            split at ha
            · next q' hq' =>
              split at ha
              · cases ha
                simp only [pm_argsOf] at hq'
                split at hq'
                · cases hq'; rfl
                · cases hq'
              · cases ha
            · cases ha
          rw [ha] at e
          dsimp only at e
          rw [hq] at e
          dsimp only at e
          cases hcl : pm_callD X Ft dfl Mt fuel (d + 1) y [sv X ρ a1, sv X ρ a2, sv X ρ a3] G (0 + rS (rwB ρ B)) with
          | none =>
            rw [hcl] at e
            simp only [pm_thr, ha, hq, hcl] at e
            split at e
            · next h9 => simp [pm_isThrow] at h9
            · split at e <;> cases e
          | some r1 =>
            obtain ⟨v, G1, sl1⟩ := r1
            rw [hcl] at e
            cases v with
            | inl v =>
              simp only [pm_to, List.append_nil] at e
              rw [if_pos (by decide)] at e
              dsimp only at e
              cases v with
              | none => 
                simp only [Option.toList_none, pm_exec, pm_fin, pm_step, pm_lop, pm_hop, pm_ask, pm_thr, pm_isThrow, pm_mayThrow] at e
                simp at e
              | some w =>
                cases w with
                | int w =>
                  simp only [Option.toList_some, pm_exec, pm_fin, pm_rok, if_true] at e
                  exact e
                | _ =>
                  simp only [Option.toList_some, pm_exec, pm_fin, pm_step, pm_lop, pm_hop, pm_ask, pm_thr, pm_isThrow, pm_mayThrow] at e
                  simp at e
            | inr E =>
              simp only [pm_thr, ha, hq, hcl] at e
              split at e
              · next h9 => simp [pm_isThrow] at h9
              · split at e
                · exact e
                · cases e
      obtain ⟨hrun, hcut⟩ := RUN_of_CALL hM hops ⟨N, key⟩
      refine ⟨r, ?_, ?_⟩
      · rw [dL_B, slva_ok]
        exact hrun
      · unfold ZZ
        rw [if_neg (by decide)]
        refine ⟨hcut, ?_⟩
        obtain ⟨v, G2, sl2⟩ := r
        cases v with
        | inl v =>
          unfold KK at hkk ⊢
          dsimp only at hkk ⊢
          rw [if_pos (show fBot.1 = 2 from rfl)] at hkk ⊢
          intro _
          exact hkk rfl
        | inr E =>
          unfold KK at hkk
          dsimp only at hkk
          rcases hkk.1 with h9 | h9
          · exact absurd h9 (by decide)
          · exact absurd h9 (by decide)
    · cases ho
  · cases hok
end SYN
/-- a contract by a run in which the model is called -/
theorem SREL_syn {X : pX} {K : sK} (hx : K.2.2.2 = false) (hk0 : ∀ a l, K.2.2.1 a = some l → a < 1000) {Z : sH} {Cs : List (sH × sC)} (hCs : ∀ C ∈ Cs, SREL X pF pdfl mt_all K C.1 C.2) {C : sC} {d : Nat} {c : Int} {a1 a2 a3 : sT} (hd : C.1.2.2 = d + 1) (ha : C.2.1.2 = [a1, a2, a3]) (hfine : cfine Z 65536 C = true) (h : ∀ ρ : sR, kok X ρ K → fok X ρ C.2.2.2.1 → iok X ρ C.2.2.2.2.2.2.2.1 → ∃ (F : sFs) (I : sI) (n : Nat), fok X ρ F ∧ iok X ρ I ∧ frun K Cs [] [] (rleaf K Z C) n 65536 F I (sin0 mt_all C.1.1 d C.2.1.1 (foot Z C.2.2.1.1)) (syn C.1.2.1 (d + 1) c C.2.1.2 (foot Z C.2.2.1.2)) = true) : SREL X pF pdfl mt_all K Z C :=
  have hfine' := hfine
  have o1 : sinok mt_all C.1.1 C.2.1.1 = true := by simp only [cfine, Bool.and_eq_true] at hfine'; exact hfine'.2.2.2.2.2.2.1
  have o2 : sinok mt_all C.1.2.1 C.2.1.2 = true := by simp only [cfine, Bool.and_eq_true] at hfine'; exact hfine'.2.2.2.2.2.2.2
  SREL_in hd hfine (fun ρ hK hF hI => by
    obtain ⟨F, I, n, f1, f2, f3⟩ := h ρ hK hF hI
    have r := frun_ok (n0 := 65536) (l1 := foot Z C.2.2.1.1) (l2 := foot Z C.2.2.1.2) (dc := d + 1) (dm := d + 2) (Zc := foot Z C.2.2.1.1) (Zm := foot Z C.2.2.1.2) (J := cJ X C ρ) (A := fun ρ1 => agrM 65536 C.2.2.2.2.1.1 C.2.2.2.2.1.2 ρ1 ρ) hx hk0 hCs (fun off ρ1 ρ2 h1 h2 h3 => agrM_new h1 h2 h3) (fun ρ1 F I s1 s2 hK1 hF1 hI1 hag k1 k2 hl => rleaf_ok hx hfine hK1 hF1 hI1 hF.1 hag k1 k2 hl) n 65536 F I _ _ ρ (Nat.le_refl _) f3 hK f1 f2 ⟨fun _ _ _ => ⟨rfl, rfl⟩, fun _ _ _ => ⟨rfl, rfl⟩⟩ (kdom_in o1) (kdom_foot _ _)
    obtain ⟨ρ', vc, vm, j1, j2, j3⟩ := r
    rw [ha] at o2 j3 ⊢
    exact ⟨ρ', vc, vm, j1, j2, syn_in o2 j3⟩)
