/-! ===== ... its cells, its calls ===== -/
section RENH
variable {π : Nat → Nat} {n0 : Nat}
/-- what the numbers' change must be -/
def pinv (π : Nat → Nat) (n0 : Nat) : Prop := (∀ k, π (π k) = k) ∧ ∀ k, n0 ≤ k → π k = k
theorem pinv.inj (h : pinv π n0) {a b : Nat} (e : π a = π b) : a = b := by
  rw [← h.1 a, ← h.1 b, e]
theorem pinv.lt (h : pinv π n0) {n k : Nat} (hn : n0 ≤ n) (hk : k < n) : π k < n := by
  by_cases h1 : n ≤ π k
  · have h2 := h.2 (π k) (by omega)
    rw [h.1] at h2
    omega
  · omega
theorem vren_vren (h : pinv π n0) (v : Value) : vren π (vren π v) = v := by
  cases v <;> first | rfl | skip
  next k => exact congrArg Value.ref (h.1 k)
theorem eren_eren (h : pinv π n0) (e : pE) : eren π (eren π e) = e := by
  cases e with
  | inl a =>
    obtain ⟨t, n, f⟩ := a
    show Sum.inl (t, n, fun j => vren π (vren π (f j))) = _
    congr 3
    funext j
    exact vren_vren h (f j)
  | inr o =>
    obtain ⟨c, v⟩ := o
    show Sum.inr (c, (v.map (vren π)).map (vren π)) = _
    rw [List.map_map]
    congr 2
    conv => rhs; rw [← List.map_id v]
    exact List.map_congr_left (fun x _ => vren_vren h x)
theorem gren_len (G : pH) : (gren π G).length = G.length := by
  unfold gren
  rw [List.length_map, List.length_range]
theorem gren_get (h : pinv π n0) {G : pH} (hn : n0 ≤ G.length) (k : Nat) : (gren π G)[π k]? = (G[k]?).map (fun e => e.map (eren π)) := by
  unfold gren
  by_cases hk : k < G.length
  · rw [List.getElem?_map, List.getElem?_range (h.lt hn hk), Option.map_some, h.1, List.getElem?_eq_getElem hk]
    rfl
  · rw [h.2 k (by omega), List.getElem?_eq_none (by simp; omega), List.getElem?_eq_none (by omega)]
    rfl
theorem gren_ext (h : pinv π n0) {A B : pH} (e : ∀ k, A[π k]? = B[π k]?) : A = B := by
  apply List.ext_getElem?
  intro i
  have := e (π i)
  rw [h.1] at this
  exact this
theorem gren_set (h : pinv π n0) {G : pH} (hn : n0 ≤ G.length) (k : Nat) (e : Option pE) : gren π (G.set k e) = (gren π G).set (π k) (e.map (eren π)) := by
  apply gren_ext h
  intro i
  rw [gren_get h (by rw [List.length_set]; exact hn), List.getElem?_set, List.getElem?_set]
  by_cases hi : k = i
  · subst hi
    rw [if_pos rfl, if_pos rfl, gren_len]
    by_cases hk : k < G.length
    · rw [if_pos hk, if_pos (h.lt hn hk)]; rfl
    · rw [if_neg hk, if_neg (by rw [h.2 k (by omega)]; exact hk)]; rfl
  · rw [if_neg hi, if_neg (fun e => hi (h.inj e)), gren_get h hn]
theorem gren_app (h : pinv π n0) {G : pH} (hn : n0 ≤ G.length) (L : pH) : gren π (G ++ L) = gren π G ++ L.map (fun e => e.map (eren π)) := by
  apply gren_ext h
  intro i
  rw [gren_get h (by rw [List.length_append]; omega)]
  by_cases hi : i < G.length
  · rw [List.getElem?_append_left hi, List.getElem?_append_left (by rw [gren_len]; exact h.lt hn hi), gren_get h hn]
  · rw [h.2 i (by omega), List.getElem?_append_right (by omega), List.getElem?_append_right (by rw [gren_len]; omega), gren_len, List.getElem?_map]
theorem gren_gren (h : pinv π n0) {G : pH} (hn : n0 ≤ G.length) : gren π (gren π G) = G := by
  apply gren_ext h
  intro i
  rw [gren_get h (by rw [gren_len]; exact hn)]
  have h1 := gren_get h hn (π i)
  rw [h.1] at h1
  rw [h1, Option.map_map]
  cases G[π i]? with
  | none => rfl
  | some x =>
    cases x with
    | none => rfl
    | some e =>
      show some (some (eren π (eren π e))) = _
      rw [eren_eren h]
def hren (π : Nat → Nat) (r : List Value × pH) : List Value × pH := (r.1.map (vren π), gren π r.2)
def h3ren (π : Nat → Nat) (r : List Value × pH × Nat) : List Value × pH × Nat := (r.1.map (vren π), gren π r.2.1, r.2.2)
theorem r_getf (h : pinv π n0) {G : pH} (hn : n0 ≤ G.length) (ci j : Nat) (st : List Value) : pm_getf ci j (gren π G) (st.map (vren π)) = (pm_getf ci j G st).map (List.map (vren π)) := by
  rcases st with _ | ⟨a, r⟩
  · rfl
  · cases a <;> first | rfl | skip
    next k =>
      simp only [List.map_cons, vren, pm_getf]
      rw [gren_get h hn]
      rcases G[k]? with _ | _ | (a | o)
      · rfl
      · rfl
      · rfl
      · simp only [Option.map_some, eren]
        by_cases hc : o.1 = ci
        · rw [if_pos hc, if_pos hc, List.getElem?_map]
          cases o.2[j]? <;> rfl
        · rw [if_neg hc, if_neg hc]; rfl
theorem fit_ren (ty : FieldType) (v : Value) : pm_fit ty (vren π v) = pm_fit ty v := by
  cases ty <;> cases v <;> rfl
theorem r_putf (h : pinv π n0) {G : pH} (hn : n0 ≤ G.length) (ci j : Nat) (ty : FieldType) (st : List Value) : pm_putf ci j ty (gren π G) (st.map (vren π)) = (pm_putf ci j ty G st).map (hren π) := by
  rcases st with _ | ⟨v, _ | ⟨a, r⟩⟩
  · rfl
  · rfl
  · cases a <;> first | rfl | skip
    next k =>
      simp only [List.map_cons, vren, pm_putf]
      rw [gren_get h hn]
      rcases G[k]? with _ | _ | (a | o)
      · rfl
      · rfl
      · rfl
      · simp only [Option.map_some, eren, List.length_map]
        show (if o.1 = ci ∧ j < o.2.length ∧ pm_fit ty (vren π v) = true then some (r.map (vren π), (gren π G).set (π k) (some (.inr (ci, (o.2.map (vren π)).set j (vren π v))))) else none) = _
        rw [fit_ren]
        by_cases hc : o.1 = ci ∧ j < o.2.length ∧ pm_fit ty v = true
        · rw [if_pos hc, if_pos hc]
          show _ = some (r.map (vren π), gren π (G.set k (some (.inr (ci, o.2.set j v)))))
          rw [gren_set h hn]
          show _ = some (r.map (vren π), (gren π G).set (π k) (some (.inr (ci, (o.2.set j v).map (vren π)))))
          rw [List.map_set]
        · rw [if_neg hc, if_neg hc]; rfl
theorem r_alen (h : pinv π n0) {G : pH} (hn : n0 ≤ G.length) (X : pX) (st : List Value) : pm_alen X (gren π G) (st.map (vren π)) = (pm_alen X G st).map (List.map (vren π)) := by
  rcases st with _ | ⟨a, r⟩
  · rfl
  · cases a <;> first | rfl | skip
    · next k =>
      simp only [List.map_cons, vren, pm_alen]
      rw [gren_get h hn]
      rcases G[k]? with _ | _ | (a | o)
      · rfl
      · rfl
      · simp only [Option.map_some, eren]
        split <;> rfl
      · rfl
    · next i =>
      simp only [List.map_cons, vren, pm_alen]
      cases X i <;> rfl
theorem r_ald (h : pinv π n0) {G : pH} (hn : n0 ≤ G.length) (t : Nat) (st : List Value) : pm_ald t (gren π G) (st.map (vren π)) = (pm_ald t G st).map (List.map (vren π)) := by
  rcases st with _ | ⟨b, _ | ⟨a, r⟩⟩
  · rfl
  · cases b <;> rfl
  · cases b <;> first | rfl | skip
    next i =>
      cases a <;> first | rfl | skip
      next k =>
        simp only [List.map_cons, vren, pm_ald]
        rw [gren_get h hn]
        rcases G[k]? with _ | _ | (a | o)
        · rfl
        · rfl
        · simp only [Option.map_some, eren]
          split <;> rfl
        · rfl
theorem r_iald (h : pinv π n0) {G : pH} (hn : n0 ≤ G.length) (X : pX) (st : List Value) : pm_iald X (gren π G) (st.map (vren π)) = (pm_iald X G st).map (List.map (vren π)) := by
  have h0 := r_ald h hn 0 st
  rcases st with _ | ⟨b, _ | ⟨a, r⟩⟩
  · rfl
  · cases b <;> rfl
  · cases b <;> first | exact h0 | skip
    next i =>
      cases a <;> first | exact h0 | skip
      next x =>
        simp only [List.map_cons, vren, pm_iald]
        cases X x with
        | none => rfl
        | some a =>
          dsimp only
          split <;> rfl
theorem r_aald (h : pinv π n0) {G : pH} (hn : n0 ≤ G.length) (st : List Value) : pm_aald (gren π G) (st.map (vren π)) = (pm_aald G st).map (List.map (vren π)) := by
  rcases st with _ | ⟨b, _ | ⟨a, r⟩⟩
  · rfl
  · cases b <;> rfl
  · cases b <;> first | rfl | skip
    next i =>
      cases a <;> first | rfl | skip
      next k =>
        simp only [List.map_cons, vren, pm_aald]
        rw [gren_get h hn]
        rcases G[k]? with _ | _ | (a | o)
        · rfl
        · rfl
        · simp only [Option.map_some, eren]
          split <;> rfl
        · rfl
theorem r_ast (h : pinv π n0) {G : pH} (hn : n0 ≤ G.length) (t k : Nat) (i : Int32) (v : Value) (r : List Value) : pm_ast t (gren π G) (π k) i (vren π v) (r.map (vren π)) = (pm_ast t G k i v r).map (hren π) := by
  unfold pm_ast
  rw [gren_get h hn]
  rcases G[k]? with _ | _ | (a | o)
  · rfl
  · rfl
  · simp only [Option.map_some, eren]
    by_cases hc : a.1 = t ∧ pm_in i a.2.1 = true
    · rw [if_pos hc, if_pos hc]
      show _ = some (r.map (vren π), gren π (G.set k (some (.inl (t, a.2.1, pm_upd a.2.2 i.toNatClampNeg v)))))
      rw [gren_set h hn]
      show _ = some (r.map (vren π), (gren π G).set (π k) (some (.inl (t, a.2.1, fun j => vren π (pm_upd a.2.2 i.toNatClampNeg v j)))))
      have e : pm_upd (fun j => vren π (a.2.2 j)) i.toNatClampNeg (vren π v) = fun j => vren π (pm_upd a.2.2 i.toNatClampNeg v j) := by
        funext j
        unfold pm_upd
        split <;> rfl
      rw [e]
    · rw [if_neg hc, if_neg hc]; rfl
  · rfl
theorem r_iast (h : pinv π n0) {G : pH} (hn : n0 ≤ G.length) (st : List Value) : pm_iast (gren π G) (st.map (vren π)) = (pm_iast G st).map (hren π) := by
  rcases st with _ | ⟨c, _ | ⟨b, _ | ⟨a, r⟩⟩⟩
  · rfl
  · cases c <;> rfl
  · cases c <;> cases b <;> rfl
  · cases c <;> cases b <;> first | rfl | skip
    next x i =>
      cases a <;> first | rfl | skip
      next k => exact r_ast h hn 0 k i (.int x) r
theorem r_last (h : pinv π n0) {G : pH} (hn : n0 ≤ G.length) (st : List Value) : pm_last (gren π G) (st.map (vren π)) = (pm_last G st).map (hren π) := by
  rcases st with _ | ⟨c, _ | ⟨b, _ | ⟨a, r⟩⟩⟩
  · rfl
  · cases c <;> rfl
  · cases c <;> cases b <;> rfl
  · cases c <;> cases b <;> first | rfl | skip
    next x i =>
      cases a <;> first | rfl | skip
      next k => exact r_ast h hn 1 k i (.long x) r
theorem r_zast (h : pinv π n0) {G : pH} (hn : n0 ≤ G.length) (st : List Value) : pm_zast (gren π G) (st.map (vren π)) = (pm_zast G st).map (hren π) := by
  rcases st with _ | ⟨c, _ | ⟨b, _ | ⟨a, r⟩⟩⟩
  · rfl
  · cases c <;> rfl
  · cases c <;> cases b <;> rfl
  · cases c <;> cases b <;> first | rfl | skip
    next x i =>
      cases a <;> first | rfl | skip
      next k =>
        have e : vren π (narrow .boolean (.int x)) = narrow .boolean (.int x) := rfl
        have := r_ast h hn 2 k i (narrow .boolean (.int x)) r
        rw [e] at this
        exact this
theorem r_aast (h : pinv π n0) {G : pH} (hn : n0 ≤ G.length) (ci : Nat) (st : List Value) : pm_aast ci (gren π G) (st.map (vren π)) = (pm_aast ci G st).map (hren π) := by
  rcases st with _ | ⟨c, _ | ⟨b, _ | ⟨a, r⟩⟩⟩
  · rfl
  · cases c <;> rfl
  · cases c <;> cases b <;> rfl
  · cases c <;> cases b <;> first | rfl | skip
    next v i =>
      cases a <;> first | rfl | skip
      next k =>
        simp only [List.map_cons, vren, pm_aast]
        rw [gren_get h hn]
        rcases G[v]? with _ | _ | (a | o)
        · rfl
        · rfl
        · rfl
        · simp only [Option.map_some, eren]
          by_cases hc : o.1 = ci
          · rw [if_pos hc, if_pos hc]
            exact r_ast h hn 5 k i (.ref v) r
          · rw [if_neg hc, if_neg hc]; rfl
theorem r_newa (h : pinv π n0) {G : pH} (hn : n0 ≤ G.length) (at' : ArrayType) (sl : Nat) (st : List Value) : pm_newa at' (gren π G) sl (st.map (vren π)) = (pm_newa at' G sl st).map (h3ren π) := by
  rcases st with _ | ⟨a, r⟩
  · rfl
  · cases a <;> first | rfl | skip
    next n =>
      simp only [List.map_cons, vren, pm_newa]
      have e : ∀ q, pm_atype at' = some q → vren π q.2 = q.2 := fun q hq => by
        cases at' <;> simp only [pm_atype] at hq <;> cases hq <;> rfl
      cases hq : pm_atype at' with
      | none => rfl
      | some q =>
        dsimp only
        by_cases hc : pm_in n 67000 = true
        · rw [if_pos hc, if_pos hc]
          simp only [Option.map_some, h3ren]
          rw [gren_app h hn, gren_len]
          have e0 : vren π (.ref G.length) = .ref G.length := congrArg Value.ref (h.2 _ hn)
          simp only [List.map_cons, List.map_nil, Option.map_some, eren, e0, e q hq]
        · rw [if_neg hc, if_neg hc]; rfl
theorem r_anew (h : pinv π n0) {G : pH} (hn : n0 ≤ G.length) (sl : Nat) (st : List Value) : pm_anew (gren π G) sl (st.map (vren π)) = (pm_anew G sl st).map (h3ren π) := by
  rcases st with _ | ⟨a, r⟩
  · rfl
  · cases a <;> first | rfl | skip
    next n =>
      simp only [List.map_cons, vren, pm_anew]
      by_cases hc : pm_in n 67000 = true
      · rw [if_pos hc, if_pos hc]
        simp only [Option.map_some, h3ren]
        rw [gren_app h hn, gren_len]
        simp only [List.map_cons, List.map_nil, Option.map_some, eren, vren, h.2 G.length hn]
      · rw [if_neg hc, if_neg hc]; rfl
theorem r_mna (h : pinv π n0) {G : pH} (hn : n0 ≤ G.length) (t sl : Nat) (st : List Value) : pm_mna t (gren π G) sl (st.map (vren π)) = (pm_mna t G sl st).map (h3ren π) := by
  rcases st with _ | ⟨b, _ | ⟨a, r⟩⟩
  · rfl
  · cases b <;> rfl
  · cases b <;> cases a <;> first | rfl | skip
    next k n =>
      simp only [List.map_cons, vren, pm_mna]
      by_cases hc : t < 2 ∧ pm_in n 1000 = true ∧ pm_in k 67000 = true
      · rw [if_pos hc, if_pos hc]
        simp only [Option.map_some, h3ren]
        rw [gren_app h (by rw [List.length_append]; omega), gren_app h hn, gren_len]
        have e0 : vren π (.ref G.length) = .ref G.length := congrArg Value.ref (h.2 _ hn)
        simp only [List.map_cons, List.map_nil, List.map_replicate, Option.map_some, eren, e0]
        have e1 : (fun i => if i < n.toNatClampNeg then Value.ref (G.length + 1 + i) else .null) = fun j => vren π (if j < n.toNatClampNeg then .ref (G.length + 1 + j) else .null) := by
          funext j
          split
          · exact (congrArg Value.ref (h.2 _ (by omega))).symm
          · rfl
        have e2 : vren π (if t = 0 then Value.int 0 else .long 0) = if t = 0 then Value.int 0 else .long 0 := by split <;> rfl
        rw [e2, e1]
      · rw [if_neg hc, if_neg hc]; rfl
theorem r_cpy (h : pinv π n0) {G : pH} (hn : n0 ≤ G.length) (st : List Value) : pm_cpy (gren π G) (st.map (vren π)) = (pm_cpy G st).map (hren π) := by
  rcases st with _ | ⟨a1, _ | ⟨a2, _ | ⟨a3, _ | ⟨a4, _ | ⟨a5, r⟩⟩⟩⟩⟩
  · rfl
  · cases a1 <;> rfl
  · cases a1 <;> cases a2 <;> rfl
  · cases a1 <;> first | rfl | skip
    cases a2 <;> first | rfl | skip
    cases a3 <;> rfl
  · cases a1 <;> first | rfl | skip
    cases a2 <;> first | rfl | skip
    cases a3 <;> first | rfl | skip
    cases a4 <;> rfl
  · cases a1 <;> first | rfl | skip
    next n =>
    cases a2 <;> first | rfl | skip
    next dp =>
    cases a3 <;> first | rfl | skip
    next a =>
    cases a4 <;> first | rfl | skip
    next sp =>
    cases a5 <;> first | rfl | skip
    next b =>
    simp only [List.map_cons, vren, pm_cpy]
    rw [gren_get h hn, gren_get h hn]
    rcases hA : G[a]? with _ | _ | (d | o)
    · rfl
    · rfl
    · rcases hB : G[b]? with _ | _ | (e | o)
      · rfl
      · rfl
      · simp only [Option.map_some, eren, fit_ren, vren_cats]
        split
        · next hc =>
          show _ = some (r.map (vren π), gren π (G.set a _))
          rw [gren_set h hn]
          have e9 : va_cpy (fun j => vren π (e.2.2 j)) (fun j => vren π (d.2.2 j)) sp.toNatClampNeg dp.toNatClampNeg n.toNatClampNeg = fun j => vren π (va_cpy e.2.2 d.2.2 sp.toNatClampNeg dp.toNatClampNeg n.toNatClampNeg j) := by
            funext j
            unfold va_cpy
            split <;> rfl
          simp only [Option.map_some, eren, e9]
        · rfl
      · rfl
    · rcases hB : G[b]? with _ | _ | (e | o) <;> rfl
theorem hop_ren (h : pinv π n0) {G : pH} (hn : n0 ≤ G.length) {dfl : Nat → Nat × List Value} (hd : ∀ r, (dfl r).2.map (vren π) = (dfl r).2) (X : pX) (F : Nat → Nat → FieldType) (ins : Instr) (r1 r2 : Nat) (r3 : Int) (st : List Value) (sl : Nat) : pm_hop X F dfl ins r1 r2 r3 (st.map (vren π)) (gren π G) sl = (pm_hop X F dfl ins r1 r2 r3 st G sl).map (h3ren π) := by
  unfold pm_hop
  split
  · rw [r_getf h hn]
    cases pm_getf r1 r2 G st <;> rfl
  · rw [r_putf h hn]
    cases pm_putf r1 r2 (F r1 r2) G st <;> rfl
  · rw [r_alen h hn]
    cases pm_alen X G st <;> rfl
  · rw [r_iald h hn]
    cases pm_iald X G st <;> rfl
  · rw [r_ald h hn]
    cases pm_ald 1 G st <;> rfl
  · rw [r_ald h hn]
    cases pm_ald 2 G st <;> rfl
  · rw [r_aald h hn]
    cases pm_aald G st <;> rfl
  · rw [r_iast h hn]
    cases pm_iast G st <;> rfl
  · rw [r_last h hn]
    cases pm_last G st <;> rfl
  · rw [r_zast h hn]
    cases pm_zast G st <;> rfl
  · rw [r_aast h hn]
    cases pm_aast r1 G st <;> rfl
  · by_cases h3 : r3 = 0
    · rw [if_pos h3, if_pos h3]
      simp only [pm_new, Option.map_some, h3ren]
      rw [gren_app h hn, gren_len]
      simp only [List.map_cons, List.map_nil, Option.map_some, eren, vren, h.2 G.length hn, hd]
    · rw [if_neg h3, if_neg h3]; rfl
  · exact r_newa h hn _ sl st
  · exact r_anew h hn sl st
  · exact r_mna h hn r1 sl st
  · by_cases h3 : r3 = 7
    · rw [if_pos h3, if_pos h3, r_cpy h hn]
      cases pm_cpy G st <;> rfl
    · rw [if_neg h3, if_neg h3]; rfl
  · rfl
  · rfl
  · rfl
  · rfl
  · rfl
theorem args_ren (n : Nat) (st : List Value) : pm_argsOf n (st.map (vren π)) = (pm_argsOf n st).map (fun q => (q.1.map (vren π), q.2.map (vren π))) := by
  unfold pm_argsOf
  rw [List.length_map, ← List.map_drop, vren_cats, ← List.map_take, ← List.map_reverse]
  exact if_ren (fun q : List Value × List Value => (q.1.map (vren π), q.2.map (vren π))) _ ((st.take n).reverse, st.drop n)
theorem args9_ren (n : Nat) (st : List Value) : pm_args9 n (st.map (vren π)) = (pm_args9 n st).map (fun q => (q.1.map (vren π), q.2.map (vren π))) := by
  unfold pm_args9
  rw [List.length_map, ← List.map_drop, vren_cats, ← List.map_take, ← List.map_reverse]
  exact if_ren (fun q : List Value × List Value => (q.1.map (vren π), q.2.map (vren π))) _ ((st.take n).reverse, st.drop n)
theorem recv_ren (h : pinv π n0) {G : pH} (hn : n0 ≤ G.length) (ci : Nat) (as : List Value) : pm_recv ci (gren π G) (as.map (vren π)) = pm_recv ci G as := by
  rcases as with _ | ⟨a, r⟩
  · rfl
  · cases a <;> first | rfl | skip
    next k =>
      simp only [List.map_cons, vren, pm_recv]
      rw [gren_get h hn]
      rcases G[k]? with _ | _ | (a | o) <;> rfl
theorem ask_ren (h : pinv π n0) {G : pH} (hn : n0 ≤ G.length) (ins : Instr) (r2 : Nat) (r3 : Int) (st : List Value) : pm_ask ins r2 r3 (st.map (vren π)) (gren π G) = (pm_ask ins r2 r3 st G).map (fun q => (q.1.map (vren π), q.2.map (vren π))) := by
  unfold pm_ask
  split
  · by_cases h7 : r3 = 7
    · rw [if_pos h7, if_pos h7]; rfl
    · rw [if_neg h7, if_neg h7]
      by_cases h8 : r3 = 8
      · rw [if_pos h8, if_pos h8]; exact args9_ren r2 st
      · rw [if_neg h8, if_neg h8]; exact args_ren r2 st
  · by_cases h0 : r3 = 0
    · rw [if_pos h0, if_pos h0, args_ren]
      rcases pm_argsOf r2 st with _ | ⟨as, rest⟩
      · rfl
      · rcases as with _ | ⟨a, as⟩
        · rfl
        · cases a <;> rfl
    · rw [if_neg h0, if_neg h0]; rfl
  · rw [args_ren]
    rcases pm_argsOf r2 st with _ | q
    · rfl
    · simp only [Option.map_some]
      rw [recv_ren h hn]
      exact if_ren (fun q : List Value × List Value => (q.1.map (vren π), q.2.map (vren π))) _ q
  · rfl
theorem fin_ren (ret : Option FieldType) (x : pC) : pm_fin ret (xren π x) = pm_fin ret x ∧ ∀ v, pm_fin ret x = some v → v.map (vren π) = v := by
  obtain ⟨cur, lv, st, G, sl⟩ := x
  rcases cur with _ | ⟨⟨pc, ins, len, r1, r2, r3⟩, tail⟩
  · exact ⟨rfl, fun v hv => by cases hv⟩
  · simp only [xren, pm_fin]
    split
    · rcases st with _ | ⟨a, _ | ⟨b, r⟩⟩
      · exact ⟨rfl, fun v hv => by cases hv⟩
      · cases a <;> refine ⟨rfl, fun v hv => ?_⟩ <;> first | (cases hv; done) | (dsimp only at hv; split at hv <;> first | (cases hv; rfl) | cases hv)
      · cases a <;> exact ⟨rfl, fun v hv => by cases hv⟩
    · rcases st with _ | ⟨a, _ | ⟨b, r⟩⟩
      · exact ⟨rfl, fun v hv => by cases hv⟩
      · cases a <;> refine ⟨rfl, fun v hv => ?_⟩ <;> first | (cases hv; done) | (dsimp only at hv; split at hv <;> first | (cases hv; rfl) | cases hv)
      · cases a <;> exact ⟨rfl, fun v hv => by cases hv⟩
    · rcases st with _ | ⟨a, r⟩
      · refine ⟨rfl, fun v hv => ?_⟩
        dsimp only at hv
        split at hv <;> first | (cases hv; rfl) | cases hv
      · exact ⟨rfl, fun v hv => by cases hv⟩
    · exact ⟨rfl, fun v hv => by cases hv⟩
end RENH
