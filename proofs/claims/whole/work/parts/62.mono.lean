/-! ===== a run looks at its own cells alone: where more cells are known it goes alike, and leaves those others as they were ===== -/
/-- every cell that G knows, G2 knows alike -/
def hle (G G2 : pH) : Prop := G.length = G2.length ∧ ∀ k : Nat, G[k]? ≠ some none → G2[k]? = G[k]?
/-- from G to G' and from G2 to G2' alike; what G does not know stays -/
def FR (G G2 G' G2' : pH) : Prop := G'.length = G2'.length ∧ G.length ≤ G'.length ∧ (∀ k : Nat, G[k]? = some none → G'[k]? = some none ∧ G2'[k]? = G2[k]?) ∧ ∀ k : Nat, G[k]? ≠ some none → G2'[k]? = G'[k]?
section MONO
variable {G G2 G' G2' G'' G2'' : pH}
theorem hle_at (h : hle G G2) {k : Nat} {c : pE} (hk : G[k]? = some (some c)) : G2[k]? = some (some c) := by
  rw [h.2 k (by rw [hk]; intro e; cases e)]
  exact hk
theorem FR_rfl (h : hle G G2) : FR G G2 G G2 := ⟨h.1, Nat.le_refl _, fun _ hk => ⟨hk, rfl⟩, h.2⟩
theorem FR_le (h : FR G G2 G' G2') : hle G' G2' := by
  refine ⟨h.1, fun k hk => ?_⟩
  by_cases h0 : G[k]? = some none
  · exact absurd (h.2.2.1 k h0).1 hk
  · exact h.2.2.2 k h0
theorem FR_trans (h : FR G G2 G' G2') (h' : FR G' G2' G'' G2'') : FR G G2 G'' G2'' := by
  refine ⟨h'.1, Nat.le_trans h.2.1 h'.2.1, fun k hk => ?_, fun k hk => ?_⟩
  · obtain ⟨a, b⟩ := h.2.2.1 k hk
    obtain ⟨c, d⟩ := h'.2.2.1 k a
    exact ⟨c, d.trans b⟩
  · by_cases h0 : G'[k]? = some none
    · obtain ⟨c, d⟩ := h'.2.2.1 k h0
      rw [d, h.2.2.2 k hk, h0, c]
    · exact h'.2.2.2 k h0
theorem FR_uniq {Ga : pH} (h : FR G G2 G' G2') (h' : FR G G2 G' Ga) : G2' = Ga := by
  apply List.ext_getElem?
  intro k
  by_cases hk : G[k]? = some none
  · rw [(h.2.2.1 k hk).2, (h'.2.2.1 k hk).2]
  · rw [h.2.2.2 k hk, h'.2.2.2 k hk]
theorem FR_set (h : hle G G2) {k : Nat} {c0 : pE} (hk : G[k]? = some (some c0)) (c : Option pE) : FR G G2 (G.set k c) (G2.set k c) := by
  have hl : k < G.length := (List.getElem?_eq_some_iff.mp hk).1
  refine ⟨by rw [List.length_set, List.length_set]; exact h.1, by rw [List.length_set]; exact Nat.le_refl _, fun j hj => ?_, fun j hj => ?_⟩
  · have hn : ¬ k = j := by intro e; rw [e, hj] at hk; cases hk
    rw [List.getElem?_set_ne hn, List.getElem?_set_ne hn]
    exact ⟨hj, rfl⟩
  · by_cases e : k = j
    · subst e
      rw [List.getElem?_set_self hl, List.getElem?_set_self (by rw [← h.1]; exact hl)]
    · rw [List.getElem?_set_ne e, List.getElem?_set_ne e]
      exact h.2 j hj
theorem FR_app (h : hle G G2) (l : pH) : FR G G2 (G ++ l) (G2 ++ l) := by
  refine ⟨by rw [List.length_append, List.length_append, h.1], by rw [List.length_append]; omega, fun j hj => ?_, fun j hj => ?_⟩
  · have hl : j < G.length := (List.getElem?_eq_some_iff.mp hj).1
    rw [List.getElem?_append_left hl, List.getElem?_append_left (by rw [← h.1]; exact hl)]
    exact ⟨hj, rfl⟩
  · by_cases hl : j < G.length
    · rw [List.getElem?_append_left hl, List.getElem?_append_left (by rw [← h.1]; exact hl)]
      exact h.2 j hj
    · rw [List.getElem?_append_right (by omega), List.getElem?_append_right (by rw [← h.1]; omega), h.1]
variable {X : pX} {F : Nat → Nat → FieldType} {dfl : Nat → Nat × List Value}
theorem getf_mono (hl : hle G G2) {ci j : Nat} {st q : List Value} (h : pm_getf ci j G st = some q) : pm_getf ci j G2 st = some q := by
  unfold pm_getf at h ⊢
  split at h
  · next k r =>
    split at h
    · next o ho =>
      dsimp only
      rw [hle_at hl ho]
      exact h
    · cases h
  · cases h
theorem putf_mono (hl : hle G G2) {ci j : Nat} {ty : FieldType} {st : List Value} {q : List Value × pH} (h : pm_putf ci j ty G st = some q) : ∃ G2', pm_putf ci j ty G2 st = some (q.1, G2') ∧ FR G G2 q.2 G2' := by
  unfold pm_putf at h ⊢
  split at h
  · next v k r =>
    split at h
    · next o ho =>
      split at h
      · next hc =>
        cases h
        dsimp only
        rw [hle_at hl ho]
        dsimp only
        rw [if_pos hc]
        exact ⟨_, rfl, FR_set hl ho _⟩
      · cases h
    · cases h
  · cases h
theorem alen_mono (hl : hle G G2) {st q : List Value} (h : pm_alen X G st = some q) : pm_alen X G2 st = some q := by
  unfold pm_alen at h ⊢
  split at h
  · next k r =>
    split at h
    · next o ho =>
      dsimp only
      rw [hle_at hl ho]
      exact h
    · cases h
  · exact h
  · cases h
theorem ald_mono (hl : hle G G2) {t : Nat} {st q : List Value} (h : pm_ald t G st = some q) : pm_ald t G2 st = some q := by
  unfold pm_ald at h ⊢
  split at h
  · next i k r =>
    split at h
    · next o ho =>
      dsimp only
      rw [hle_at hl ho]
      exact h
    · cases h
  · cases h
theorem iald_mono (hl : hle G G2) {st q : List Value} (h : pm_iald X G st = some q) : pm_iald X G2 st = some q := by
  unfold pm_iald at h ⊢
  split at h
  · exact h
  · split
    · next hne _ _ _ => exact absurd rfl (hne _ _ _)
    · exact ald_mono hl h
theorem aald_mono (hl : hle G G2) {st q : List Value} (h : pm_aald G st = some q) : pm_aald G2 st = some q := by
  unfold pm_aald at h ⊢
  split at h
  · next i k r =>
    split at h
    · next o ho =>
      dsimp only
      rw [hle_at hl ho]
      exact h
    · cases h
  · cases h
theorem ast_mono (hl : hle G G2) {t k : Nat} {i : Int32} {v : Value} {r : List Value} {q : List Value × pH} (h : pm_ast t G k i v r = some q) : ∃ G2', pm_ast t G2 k i v r = some (q.1, G2') ∧ FR G G2 q.2 G2' := by
  unfold pm_ast at h ⊢
  split at h
  · next a ha =>
    split at h
    · next hc =>
      cases h
      rw [hle_at hl ha]
      dsimp only
      rw [if_pos hc]
      exact ⟨_, rfl, FR_set hl ha _⟩
    · cases h
  · cases h
theorem iast_mono (hl : hle G G2) {st : List Value} {q : List Value × pH} (h : pm_iast G st = some q) : ∃ G2', pm_iast G2 st = some (q.1, G2') ∧ FR G G2 q.2 G2' := by
  unfold pm_iast at h ⊢
  split at h
  · exact ast_mono hl h
  · cases h
theorem last_mono (hl : hle G G2) {st : List Value} {q : List Value × pH} (h : pm_last G st = some q) : ∃ G2', pm_last G2 st = some (q.1, G2') ∧ FR G G2 q.2 G2' := by
  unfold pm_last at h ⊢
  split at h
  · exact ast_mono hl h
  · cases h
theorem zast_mono (hl : hle G G2) {st : List Value} {q : List Value × pH} (h : pm_zast G st = some q) : ∃ G2', pm_zast G2 st = some (q.1, G2') ∧ FR G G2 q.2 G2' := by
  unfold pm_zast at h ⊢
  split at h
  · exact ast_mono hl h
  · cases h
theorem aast_mono (hl : hle G G2) {ci : Nat} {st : List Value} {q : List Value × pH} (h : pm_aast ci G st = some q) : ∃ G2', pm_aast ci G2 st = some (q.1, G2') ∧ FR G G2 q.2 G2' := by
  unfold pm_aast at h ⊢
  split at h
  · next v i k r =>
    split at h
    · next o ho =>
      split at h
      · next hc =>
        dsimp only
        rw [hle_at hl ho]
        dsimp only
        rw [if_pos hc]
        exact ast_mono hl h
      · cases h
    · cases h
  · cases h
theorem cpy_mono (hl : hle G G2) {st : List Value} {q : List Value × pH} (h : pm_cpy G st = some q) : ∃ G2', pm_cpy G2 st = some (q.1, G2') ∧ FR G G2 q.2 G2' := by
  unfold pm_cpy at h ⊢
  split at h
  · next n dp a sp b r =>
    split at h
    · next d e hd he =>
      split at h
      · next hc =>
        cases h
        dsimp only
        rw [hle_at hl hd, hle_at hl he]
        dsimp only
        rw [if_pos hc]
        exact ⟨_, rfl, FR_set hl hd _⟩
      · cases h
    · cases h
  · cases h
theorem hop_same {st : List Value} {sl : Nat} {a b : Option (List Value)} {z : List Value × pH × Nat} (hl : hle G G2) (hab : ∀ q, a = some q → b = some q) (h : (match a with | some q => some (q, G, sl) | none => none) = some z) : ∃ G2', (match b with | some q => some (q, G2, sl) | none => none) = some (z.1, G2', z.2.2) ∧ FR G G2 z.2.1 G2' := by
  cases a with
  | none => cases h
  | some q =>
    cases h
    rw [hab q rfl]
    exact ⟨_, rfl, FR_rfl hl⟩
theorem hop_put {sl : Nat} {a b : Option (List Value × pH)} {z : List Value × pH × Nat} (hab : ∀ q, a = some q → ∃ G2', b = some (q.1, G2') ∧ FR G G2 q.2 G2') (h : (match a with | some q => some (q.1, q.2, sl) | none => none) = some z) : ∃ G2', (match b with | some q => some (q.1, q.2, sl) | none => none) = some (z.1, G2', z.2.2) ∧ FR G G2 z.2.1 G2' := by
  cases a with
  | none => cases h
  | some q =>
    cases h
    obtain ⟨G2', e, hf⟩ := hab q rfl
    rw [e]
    exact ⟨_, rfl, hf⟩
theorem hop_mono (hl : hle G G2) {ins : Instr} {r1 r2 : Nat} {r3 : Int} {st : List Value} {sl : Nat} {z : List Value × pH × Nat} (h : pm_hop X F dfl ins r1 r2 r3 st G sl = some z) : ∃ G2', pm_hop X F dfl ins r1 r2 r3 st G2 sl = some (z.1, G2', z.2.2) ∧ FR G G2 z.2.1 G2' := by
  cases ins <;> simp only [pm_hop] at h ⊢
  case getfield => exact hop_same (st := st) hl (fun q e => getf_mono hl e) h
  case putfield => exact hop_put (fun q e => putf_mono hl e) h
  case arraylength => exact hop_same (st := st) hl (fun q e => alen_mono hl e) h
  case iaload => exact hop_same (st := st) hl (fun q e => iald_mono hl e) h
  case laload => exact hop_same (st := st) hl (fun q e => ald_mono hl e) h
  case baload => exact hop_same (st := st) hl (fun q e => ald_mono hl e) h
  case aaload => exact hop_same (st := st) hl (fun q e => aald_mono hl e) h
  case iastore => exact hop_put (fun q e => iast_mono hl e) h
  case lastore => exact hop_put (fun q e => last_mono hl e) h
  case bastore => exact hop_put (fun q e => zast_mono hl e) h
  case aastore => exact hop_put (fun q e => aast_mono hl e) h
  case new =>
    split at h
    · next hc =>
      rw [if_pos hc]
      cases h
      simp only [pm_new]
      rw [hl.1]
      exact ⟨_, rfl, by rw [← hl.1]; exact FR_app hl _⟩
    · cases h
  case newarray =>
    unfold pm_newa at h ⊢
    split at h
    · split at h
      · next q hq =>
        split at h
        · next hc =>
          cases h
          dsimp only
          rw [hq]
          dsimp only
          rw [if_pos hc, hl.1]
          exact ⟨_, rfl, FR_app hl _⟩
        · cases h
      · cases h
    · cases h
  case anewarray =>
    unfold pm_anew at h ⊢
    split at h
    · split at h
      · next hc =>
        cases h
        dsimp only
        rw [if_pos hc, hl.1]
        exact ⟨_, rfl, FR_app hl _⟩
      · cases h
    · cases h
  case multianewarray =>
    unfold pm_mna at h ⊢
    split at h
    · split at h
      · next hc =>
        cases h
        dsimp only
        rw [if_pos hc, hl.1]
        refine ⟨_, rfl, ?_⟩
        rw [List.append_assoc, List.append_assoc]
        exact FR_app hl _
      · cases h
    · cases h
  case invokestatic =>
    split at h
    · next hc =>
      rw [if_pos hc]
      exact hop_put (fun q e => cpy_mono hl e) h
    · cases h
  case getstatic => cases h; exact ⟨_, rfl, FR_rfl hl⟩
  case ldc => cases h; exact ⟨_, rfl, FR_rfl hl⟩
  case ldc_w => cases h; exact ⟨_, rfl, FR_rfl hl⟩
  case ldc2_w => cases h; exact ⟨_, rfl, FR_rfl hl⟩
  all_goals (cases h)
theorem recv_mono (hl : hle G G2) {ci : Nat} {as : List Value} (h : pm_recv ci G as = true) : pm_recv ci G2 as = true := by
  unfold pm_recv at h ⊢
  split at h
  · next k r =>
    split at h
    · next o ho =>
      dsimp only
      rw [hle_at hl ho]
      exact h
    · cases h
  · cases h
theorem ask_mono (hl : hle G G2) {ins : Instr} {r2 : Nat} {r3 : Int} {st : List Value} {q : List Value × List Value} (h : pm_ask ins r2 r3 st G = some q) : pm_ask ins r2 r3 st G2 = some q := by
  cases ins <;> simp only [pm_ask] at h ⊢
  case invokestatic => exact h
  case invokespecial => exact h
  case invokevirtual =>
    split at h
    · next q' hq =>
      rw [hq]
      dsimp only
      split at h
      · next hr => rw [if_pos (recv_mono hl hr)]; exact h
      · cases h
    · cases h
  all_goals (cases h)
theorem ask_ins {ins : Instr} {r2 : Nat} {r3 : Int} {st : List Value} {G : pH} {q : List Value × List Value} (h : pm_ask ins r2 r3 st G = some q) : (∃ i, ins = .invokestatic i ∧ r3 ≠ 7) ∨ (∃ i, ins = .invokespecial i) ∨ (∃ i, ins = .invokevirtual i) := by
  cases ins <;> simp only [pm_ask] at h
  case invokestatic i =>
    split at h
    · cases h
    · next h7 => exact Or.inl ⟨i, rfl, h7⟩
  case invokespecial i => exact Or.inr (Or.inl ⟨i, rfl⟩)
  case invokevirtual i => exact Or.inr (Or.inr ⟨i, rfl⟩)
  all_goals (cases h)
theorem ask_nohop {ins : Instr} {r2 : Nat} {r3 : Int} {st : List Value} {q : List Value × List Value} (h : pm_ask ins r2 r3 st G = some q) (r1 : Nat) (st' : List Value) (Ga : pH) (sl : Nat) : pm_hop X F dfl ins r1 r2 r3 st' Ga sl = none := pm_nohop (by
  rcases ask_ins h with ⟨i, h, h7⟩ | ⟨i, h⟩ | ⟨i, h⟩
  · exact Or.inl ⟨i, h, h7⟩
  · exact Or.inr (Or.inl ⟨i, h⟩)
  · exact Or.inr (Or.inr (Or.inl ⟨i, h⟩))) r1 r2 st' Ga sl
/-- a call that goes alike where more is known -/
def Cm (call : pCall) : Prop := ∀ (y : Nat) (as : List Value) (G G2 : pH) (sl : Nat) (r : pRes), hle G G2 → call y as G sl = some r → ∃ G2', call y as G2 sl = some (r.1, G2', r.2.2) ∧ FR G G2 r.2.1 G2'
theorem step_mono {call : pCall} (hc : Cm call) (hl : hle G G2) {nL : Nat} {full cur cur' : List pOp} {lv lv' : pL} {st st' : List Value} {sl sl' : Nat} (h : pm_step X F dfl call nL full (cur, lv, st, G, sl) = some (cur', lv', st', G', sl')) : ∃ G2', pm_step X F dfl call nL full (cur, lv, st, G2, sl) = some (cur', lv', st', G2', sl') ∧ FR G G2 G' G2' := by
  cases cur with
  | nil => cases h
  | cons o tail =>
    obtain ⟨pc, ins, len, r1, r2, r3⟩ := o
    simp only [pm_step] at h ⊢
    split at h
    · next r hr =>
      rw [hr]
      dsimp only
      split at h
      · next c hcur => cases h; rw [hcur]; exact ⟨_, rfl, FR_rfl hl⟩
      · cases h
    · next hlop =>
      rw [hlop]
      dsimp only
      split at h
      · next r hr =>
        obtain ⟨G2', e, hf⟩ := hop_mono hl hr
        rw [e]
        dsimp only
        split at h
        · next c hcur => cases h; rw [hcur]; exact ⟨_, rfl, hf⟩
        · cases h
      · next hhop =>
        split at h
        · next q hq =>
          rw [ask_nohop hq, ask_mono hl hq]
          dsimp only
          split at h
          · next v Ga sla hcall =>
            obtain ⟨G2', e, hf⟩ := hc _ _ _ _ _ _ hl hcall
            rw [e]
            dsimp only
            split at h
            · next c hcur => cases h; rw [hcur]; exact ⟨_, rfl, hf⟩
            · cases h
          · cases h
        · next hask =>
          split at h
          · next i rest =>
            split at h
            · next hs =>
              split at h
              · next c hcur =>
                cases h
                refine ⟨G2, ?_, FR_rfl hl⟩
                rw [if_pos hs, hcur]
                rfl
              · cases h
            · cases h
          · cases h
theorem fin_heap {ret : Option FieldType} {cur : List pOp} {lv : pL} {st : List Value} {Ga Gb : pH} {sl sl' : Nat} : pm_fin ret (cur, lv, st, Ga, sl) = pm_fin ret (cur, lv, st, Gb, sl') := by
  cases cur with
  | nil => rfl
  | cons o t => rfl
theorem thr_mono {call : pCall} (hc : Cm call) (hl : hle G G2) {nL : Nat} {full cur : List pOp} {lv : pL} {st : List Value} {sl : Nat} {r : pRes} (h : pm_thr call (cur, lv, st, G, sl) = some r) : pm_step X F dfl call nL full (cur, lv, st, G2, sl) = none ∧ ∃ G2', pm_thr call (cur, lv, st, G2, sl) = some (r.1, G2', r.2.2) ∧ FR G G2 r.2.1 G2' := by
  cases cur with
  | nil => cases h
  | cons o tail =>
    obtain ⟨pc, ins, len, r1, r2, r3⟩ := o
    simp only [pm_thr] at h ⊢
    split at h
    · next ht =>
      rw [if_pos ht]
      cases h
      refine ⟨?_, _, rfl, FR_app hl _⟩
      cases ins <;> simp only [pm_isThrow] at ht <;> first | (cases ht; done) | skip
      simp only [Bool.and_eq_true, decide_eq_true_eq] at ht
      simp only [pm_step, pm_lop, pm_hop, pm_ask]
      rw [if_neg (by omega)]
    · next hnt =>
      split at h
      · next hm =>
        split at h
        · next q hq =>
          split at h
          · next E Ga sla hcall =>
            cases h
            obtain ⟨G2', e, hf⟩ := hc _ _ _ _ _ _ hl hcall
            have hins := ask_ins hq
            have hlop : pm_lop nL ins lv st = none := pm_nolop (by
              rcases hins with ⟨i, h, -⟩ | ⟨i, h⟩ | ⟨i, h⟩
              · exact Or.inl ⟨i, h⟩
              · exact Or.inr (Or.inl ⟨i, h⟩)
              · exact Or.inr (Or.inr (Or.inl ⟨i, h⟩))) nL lv st
            refine ⟨?_, G2', ?_, hf⟩
            · simp only [pm_step, hlop, ask_nohop hq, ask_mono hl hq, e]
            · rw [if_neg hnt, if_pos hm, ask_mono hl hq]
              dsimp only
              rw [e]
          · cases h
        · cases h
      · cases h
theorem exec_mono {call : pCall} (hc : Cm call) {nL : Nat} {full : List pOp} {ret : Option FieldType} : ∀ (n : Nat) {G G2 : pH} (cur : List pOp) (lv : pL) (st : List Value) (sl : Nat) (r : pRes), hle G G2 → pm_exec X F dfl call nL full ret n (cur, lv, st, G, sl) = some r → ∃ G2', pm_exec X F dfl call nL full ret n (cur, lv, st, G2, sl) = some (r.1, G2', r.2.2) ∧ FR G G2 r.2.1 G2'
  | 0, _, _, _, _, _, _, _, _, h => by cases h
  | n + 1, G, G2, cur, lv, st, sl, r, hl, h => by
    simp only [pm_exec] at h ⊢
    rw [fin_heap (Ga := G2) (Gb := G) (sl' := sl)]
    split at h
    · next v hv =>
      rw [hv]
      cases h
      exact ⟨G2, rfl, FR_rfl hl⟩
    · next hv =>
      rw [hv]
      dsimp only
      split at h
      · next x' hx =>
        obtain ⟨cur', lv', st', G', sl'⟩ := x'
        obtain ⟨G2', e, hf⟩ := step_mono hc hl hx
        rw [e]
        dsimp only
        obtain ⟨G2'', e2, hf2⟩ := exec_mono hc n cur' lv' st' sl' r (FR_le hf) h
        exact ⟨G2'', e2, FR_trans hf hf2⟩
      · next hx =>
        obtain ⟨e1, G2', e2, hf⟩ := thr_mono (X := X) (F := F) (dfl := dfl) (nL := nL) (full := full) hc hl h
        rw [e1]
        exact ⟨G2', e2, hf⟩
theorem callD_mono {Mt : List pM} {fuel : Nat} : ∀ d : Nat, Cm (pm_callD X F dfl Mt fuel d)
  | 0 => fun _ _ _ _ _ _ _ h => by cases h
  | d + 1 => fun y as G G2 sl r hl h => by
    simp only [pm_callD] at h ⊢
    split at h
    · next M hM =>
      split at h
      · next o t ho =>
        split at h
        · next hc =>
          rw [if_pos hc]
          obtain ⟨r0, hr0, hcut⟩ : ∃ r0, pm_exec X F dfl (pm_callD X F dfl Mt fuel d) M.2.2.1 M.2.2.2.2 M.2.2.2.1 fuel (M.2.2.2.2, lv_args 0 as, [], G, sl) = some r0 ∧ pm_cut d (some r0) = some r := by
            rw [ho] at *
            cases he : pm_exec X F dfl (pm_callD X F dfl Mt fuel d) M.2.2.1 (o :: t) M.2.2.2.1 fuel (o :: t, lv_args 0 as, [], G, sl) with
            | none => rw [he] at h; cases h
            | some r0 => rw [he] at h; exact ⟨r0, rfl, h⟩
          obtain ⟨G2', e, hf⟩ := exec_mono (callD_mono d) fuel _ _ _ _ _ hl hr0
          obtain ⟨v, Ga, sla⟩ := r0
          cases v with
          | inl v =>
            cases hcut
            rw [ho] at e
            rw [e]
            exact ⟨G2', rfl, hf⟩
          | inr E =>
            simp only [pm_cut] at hcut
            split at hcut
            · next h5 =>
              cases hcut
              rw [ho] at e
              rw [e]
              simp only [pm_cut]
              rw [if_pos h5]
              exact ⟨G2', rfl, hf⟩
            · cases hcut
        · cases h
      · cases h
    · cases h
/-- a call goes alike where more cells are known, and leaves them as they were -/
theorem CALL_mono {Mt : List pM} {d y : Nat} {as : List Value} {sl : Nat} {r : pRes} (hl : hle G G2) (h : CALL X F dfl Mt d y as G sl r) : ∃ G2', CALL X F dfl Mt d y as G2 sl (r.1, G2', r.2.2) ∧ FR G G2 r.2.1 G2' := by
  obtain ⟨N, hN⟩ := h
  obtain ⟨G2', -, hf⟩ := callD_mono (X := X) (F := F) (dfl := dfl) (Mt := Mt) (fuel := N) d y as G G2 sl r hl (hN N (Nat.le_refl _))
  refine ⟨G2', ⟨N, fun fuel hfu => ?_⟩, hf⟩
  obtain ⟨G3, e, hf3⟩ := callD_mono (X := X) (F := F) (dfl := dfl) (Mt := Mt) (fuel := fuel) d y as G G2 sl r hl (hN fuel hfu)
  rw [e, FR_uniq hf hf3]
end MONO
