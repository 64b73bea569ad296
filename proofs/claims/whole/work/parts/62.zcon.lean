/-! ===== contracts of two methods: from any numbers that keep the facts both return, and their cells hold the same new numbers ===== -/
/-- implications that are known -/
abbrev sI : Type := List (sFs × sQ × Bool)
noncomputable def iok (X : pX) (ρ : sR) (I : sI) : Prop := ∀ c ∈ I, fall X ρ c.1 → sc X ρ c.2.1 = c.2.2
noncomputable def fmh (F : sFs) : Nat := @List.rec (sQ × Bool) (fun _ => Nat) 0 (fun f _ ih => Nat.lor (Nat.lor (tmh f.1.2.1) (tmh f.1.2.2)) ih) F
/-- may the facts say something of it: a number never, a variable or a place if it stands there, else always -/
noncomputable def rel1 (m : Nat) (t : sT) : Bool := @Bool.rec (fun _ => Bool) (@Bool.rec (fun _ => Bool) (@Bool.rec (fun _ => Bool) (@Bool.rec (fun _ => Bool) true (Nat.beq (Nat.land 1 (Nat.shiftRight m (Nat.mod (thd t) 1021))) 1) (Nat.beq (ttag t) 10)) (Nat.beq (Nat.land 1 (Nat.shiftRight m (Nat.mod (thd t) 1021))) 1) (Nat.beq (ttag t) 0)) false (Nat.beq (ttag t) 2)) false (Nat.beq (ttag t) 1)
noncomputable def relq (m : Nat) (c : sQ) : Bool := @Bool.rec (fun _ => Bool) (rel1 m c.2.2) true (rel1 m c.2.1)
noncomputable def bxn (a b : Bool) : Bool := @Bool.rec (fun _ => Bool) (@Bool.rec (fun _ => Bool) true false b) b a
theorem bxn_ok {a b : Bool} (h : bxn a b = true) : a = b := by
  cases a <;> cases b <;> first | rfl | cases h
/-- a guard that holds -/
noncomputable def gon (F : sFs) (g : sQ × Bool) : Bool := @Option.rec Bool (fun _ => Bool) false (fun b => bxn b g.2) (@Bool.rec (fun _ => Option Bool) (sdec [] g.1) (sdec F g.1) (relq (fmh F) g.1))
theorem gon_ok {X : pX} {ρ : sR} {F : sFs} (hF : fok X ρ F) {g : sQ × Bool} (h : gon F g = true) : sc X ρ g.1 = g.2 := by
  unfold gon at h
  cases hr : relq (fmh F) g.1 with
  | true =>
    rw [hr] at h
    cases hs : sdec F g.1 with
    | none => rw [hs] at h; cases h
    | some b =>
      rw [hs] at h
      rw [sdec_ok hF hs]
      exact bxn_ok h
  | false =>
    rw [hr] at h
    cases hs : sdec [] g.1 with
    | none => rw [hs] at h; cases h
    | some b =>
      rw [hs] at h
      rw [sdec_ok (F := []) ⟨hF.1, fun f hf => by cases hf⟩ hs]
      exact bxn_ok h
/-- what follows at once -/
noncomputable def ifire (F : sFs) (I : sI) : sFs := I.filterMap (fun c => if c.1.all (gon F) && !(decide (sdec F c.2.1 = some c.2.2)) then some c.2 else none)
noncomputable def isat (F : sFs) (I : sI) : sFs := ifire F I ++ F
theorem isat_ok {X : pX} {ρ : sR} {F : sFs} {I : sI} (hF : fok X ρ F) (hI : iok X ρ I) : fok X ρ (isat F I) := by
  refine ⟨hF.1, fun f hf => ?_⟩
  rcases List.mem_append.mp hf with hf | hf
  · obtain ⟨c, hc, he⟩ := List.mem_filterMap.mp hf
    split at he
    · next hg =>
      cases he
      simp only [Bool.and_eq_true] at hg
      refine hI c hc (fun g hgm => ?_)
      exact gon_ok hF (List.all_eq_true.mp hg.1 g hgm)
    · cases he
  · exact hF.2 f hf
/-- a part of the cells -/
noncomputable def lmask (l : List Nat) : Nat := @List.rec Nat (fun _ => Nat) 0 (fun k _ ih => Nat.lor (Nat.shiftLeft 1 k) ih) l
theorem lmask_bit {k : Nat} : ∀ l : List Nat, (lmask l).testBit k = decide (k ∈ l)
  | [] => by
    rw [decide_eq_false (fun h => by cases h)]
    exact Nat.zero_testBit k
  | a :: l => by
    have e : lmask (a :: l) = (1 <<< a) ||| lmask l := rfl
    rw [e, Nat.testBit_or, lmask_bit l, Nat.testBit_shiftLeft]
    by_cases h : a = k
    · subst h
      simp
    · have h1 : (decide (k ≥ a) && Nat.testBit 1 (k - a)) = false := by
        rw [Bool.and_eq_false_iff]
        by_cases h2 : k ≥ a
        · right
          exact Nat.testBit_lt_two_pow (Nat.one_lt_two_pow (by omega))
        · left
          exact decide_eq_false h2
      rw [h1, Bool.false_or]
      exact decide_eq_decide.mpr ⟨fun q => List.mem_cons_of_mem _ q, fun q => by rcases List.mem_cons.mp q with e | e; (· exact absurd e.symm h); exact e⟩
noncomputable def foot (Z : sH) (l : List Nat) : sH := (tflt none 9 (Nat.mod (lmask l) (Nat.pow 2 512)) Z.1, 0)
theorem hget_nil (k : Nat) : hget hnil k = none := by
  rw [hget_def]
  unfold hnil
  split
  · have : ∀ (n : Nat) (j : Nat), tget n (tnew (none : Option sE) n) j = none := by
      intro n
      induction n with
      | zero => intro j; rfl
      | succ n ih =>
        intro j
        by_cases h : j < 2 ^ n
        · exact (tget_l h).trans (ih j)
        · exact (tget_r h).trans (ih _)
    exact this 9 k
  · rfl
theorem hget_big {G : sH} {k : Nat} (h : ¬ k < 512) : hget G k = none := by
  rw [hget_def, if_neg h]
theorem hset_get {G : sH} {a k : Nat} {e : Option sE} : hget (hset G a e) k = if a = k ∧ a < 512 then e else hget G k := by
  by_cases h : a = k
  · subst h
    by_cases h5 : a < 512
    · rw [if_pos ⟨rfl, h5⟩, hget_self h5]
    · rw [if_neg (fun q => h5 q.2), hget_big h5, hget_big h5]
  · rw [if_neg (fun q => h q.1), hget_ne h]
theorem foot_get {Z : sH} {k : Nat} (l : List Nat) : hget (foot Z l) k = if k ∈ l then hget Z k else none := by
  by_cases hk : k < 512
  · rw [hget_def, hget_def, if_pos hk, if_pos hk]
    refine (tflt_get 9 _ k Z.1 (Nat.mod_lt _ (Nat.two_pow_pos _)) hk).trans ?_
    have hk9 : k < 2 ^ 9 := hk
    have e : (lmask l % 2 ^ 2 ^ 9).testBit k = decide (k ∈ l) := by
      rw [Nat.testBit_mod_two_pow, decide_eq_true hk9, Bool.true_and, lmask_bit]
    rw [e]
    by_cases hm : k ∈ l
    · rw [if_pos hm, if_pos (decide_eq_true hm)]
    · rw [if_neg hm, if_neg (by simpa using hm)]
  · rw [hget_big hk, hget_big hk]
    split <;> rfl
theorem foot_len {Z : sH} (l : List Nat) : (foot Z l).2 = 0 := rfl
theorem foot_ext {Z Z' : sH} {l : List Nat} (h : ∀ k ∈ l, hget Z' k = hget Z k) : foot Z' l = foot Z l := by
  refine Prod.ext ?_ rfl
  refine tflt_ext 9 _ Z'.1 Z.1 (Nat.mod_lt _ (Nat.two_pow_pos _)) (fun k hk hb => ?_)
  have hb : (lmask l % 2 ^ 2 ^ 9).testBit k = true := hb
  rw [Nat.testBit_mod_two_pow, decide_eq_true hk, Bool.true_and, lmask_bit] at hb
  have h1 := h k (of_decide_eq_true hb)
  have hk : k < 512 := hk
  rw [hget_def, hget_def, if_pos hk, if_pos hk] at h1
  exact h1
/-- ids and level; arguments; cells; what must hold; which variables and arrays are new; answers; what holds then; implications before and then -/
abbrev sC : Type := (Nat × Nat × Nat) × (List sT × List sT) × (List Nat × List Nat) × sFs × (List Nat × List Nat) × (Option sT × Option sT) × sFs × (sI × sI)
noncomputable def SREL (X : pX) (Ft : Nat → Nat → FieldType) (dfl : Nat → Nat × List Value) (Mt : List pM) (K : sK) (Z : sH) (C : sC) : Prop := ∀ ρ : sR, kok X ρ K → fok X ρ C.2.2.2.1 → iok X ρ C.2.2.2.2.2.2.2.1 → ∃ ρ' : sR, ((∀ i, i ∉ C.2.2.2.2.1.1 → ρ'.1 i = ρ.1 i ∧ ρ'.2.1 i = ρ.2.1 i) ∧ ∀ a, a ∉ C.2.2.2.2.1.2 → ∀ j, bden X ρ' (.arg a) j = bden X ρ (.arg a) j) ∧ fok X ρ' C.2.2.2.2.2.2.1 ∧ iok X ρ' C.2.2.2.2.2.2.2.2 ∧
  (∀ (B : pB) (G : pH), HR X (rwB ρ B) (foot Z C.2.2.1.1) G → ∃ G' : pH, CALL X Ft dfl Mt C.1.2.2 C.1.1 (dS X ρ C.2.1.1) G B.2.2 (.inl (C.2.2.2.2.2.1.1.map (sv X ρ')), G', B.2.2) ∧ HR X (rwB ρ' B) (foot Z C.2.2.1.1) G') ∧
  ∀ (B : pB) (G : pH), HR X (rwB ρ B) (foot Z C.2.2.1.2) G → ∃ G' : pH, CALL X Ft dfl Mt C.1.2.2 C.1.2.1 (dS X ρ C.2.1.2) G B.2.2 (.inl (C.2.2.2.2.2.1.2.map (sv X ρ')), G', B.2.2) ∧ HR X (rwB ρ' B) (foot Z C.2.2.1.2) G'
section CON
variable {X : pX} {Ft : Nat → Nat → FieldType} {dfl : Nat → Nat × List Value} {Mt : List pM} {hl : Nat → Option (pHd × Nat)} {K : sK} {ρ : sR}
/-! deeper is no harm -/
noncomputable def callLe (c c' : pCall) : Prop := ∀ y as G sl r, c y as G sl = some r → c' y as G sl = some r
theorem step_up {c c' : pCall} (h : callLe c c') {nL : Nat} {full : List pOp} {x x' : pC} (hs : pm_step X Ft dfl c nL full x = some x') : pm_step X Ft dfl c' nL full x = some x' := by
  obtain ⟨cur, lv, st, G, sl⟩ := x
  cases cur with
  | nil => cases hs
  | cons o tail =>
    obtain ⟨pc, ins, len, r1, r2, r3⟩ := o
    simp only [pm_step] at hs ⊢
    split at hs
    · exact hs
    · split at hs
      · exact hs
      · split at hs
        · next q hq =>
          split at hs
          · next v G' sl' hc => rw [h _ _ _ _ _ hc]; exact hs
          · cases hs
        · exact hs
theorem thr_up {c c' : pCall} (h : callLe c c') {nL : Nat} {full : List pOp} {x : pC} {r : pRes} (ht : pm_thr c x = some r) : pm_thr c' x = some r ∧ pm_step X Ft dfl c' nL full x = none := by
  obtain ⟨cur, lv, st, G, sl⟩ := x
  cases cur with
  | nil => cases ht
  | cons o tail =>
    obtain ⟨pc, ins, len, r1, r2, r3⟩ := o
    simp only [pm_thr] at ht ⊢
    split at ht
    · next h1 =>
      rw [if_pos h1]
      refine ⟨ht, ?_⟩
      cases ins <;> simp only [pm_isThrow] at h1 <;> first | (cases h1; done) | skip
      simp only [Bool.and_eq_true, decide_eq_true_eq] at h1
      simp only [pm_step, pm_lop, pm_hop, pm_ask]
      rw [if_neg (by omega)]
    · next h1 =>
      rw [if_neg h1]
      split at ht
      · next h2 =>
        rw [if_pos h2]
        split at ht
        · next q hq =>
          split at ht
          · next E G' sl' hc =>
            rw [h _ _ _ _ _ hc]
            refine ⟨ht, ?_⟩
            have hins : (∃ i, ins = .invokestatic i ∧ r3 ≠ 7) ∨ (∃ i, ins = .invokespecial i) ∨ (∃ i, ins = .invokevirtual i) := by
              cases ins <;> simp only [pm_ask] at hq
              case invokestatic i =>
                split at hq
                · cases hq
                · next h7 => exact Or.inl ⟨i, rfl, h7⟩
              case invokespecial i => exact Or.inr (Or.inl ⟨i, rfl⟩)
              case invokevirtual i => exact Or.inr (Or.inr ⟨i, rfl⟩)
              all_goals (cases hq)
            have hlop : pm_lop nL ins lv st = none := pm_nolop (by
              rcases hins with ⟨i, h, -⟩ | ⟨i, h⟩ | ⟨i, h⟩
              · exact Or.inl ⟨i, h⟩
              · exact Or.inr (Or.inl ⟨i, h⟩)
              · exact Or.inr (Or.inr (Or.inl ⟨i, h⟩))) nL lv st
            have hhop : pm_hop X Ft dfl ins r1 r2 r3 st G sl = none := pm_nohop (by
              rcases hins with ⟨i, h, h7⟩ | ⟨i, h⟩ | ⟨i, h⟩
              · exact Or.inl ⟨i, h, h7⟩
              · exact Or.inr (Or.inl ⟨i, h⟩)
              · exact Or.inr (Or.inr (Or.inl ⟨i, h⟩))) r1 r2 st G sl
            simp only [pm_step, hlop, hhop, hq, h _ _ _ _ _ hc]
          · cases ht
        · cases ht
      · cases ht
theorem exec_up {c c' : pCall} (h : callLe c c') {nL : Nat} {full : List pOp} {ret : Option FieldType} : ∀ (n : Nat) (x : pC) (r : pRes), pm_exec X Ft dfl c nL full ret n x = some r → pm_exec X Ft dfl c' nL full ret n x = some r
  | 0, _, _, he => by cases he
  | n + 1, x, r, he => by
    simp only [pm_exec] at he ⊢
    split at he
    · exact he
    · split at he
      · next x' hx =>
        rw [step_up h hx]
        exact exec_up h n x' r he
      · next hx =>
        obtain ⟨h1, h2⟩ := thr_up (X := X) (Ft := Ft) (dfl := dfl) (nL := nL) (full := full) h he
        rw [h2]
        exact h1
theorem callD_up {fuel : Nat} : ∀ d : Nat, callLe (pm_callD X Ft dfl Mt fuel d) (pm_callD X Ft dfl Mt fuel (d + 1))
  | 0 => fun _ _ _ _ _ h => by cases h
  | d + 1 => fun y as G sl r h => by
    have ih := callD_up (fuel := fuel) d
    have key : ∀ (q q' : Option pRes), (∀ r, q = some r → q' = some r) → pm_cut d q = some r → pm_cut (d + 1) q' = some r := by
      intro q q' hq hc
      cases q with
      | none => cases hc
      | some r0 =>
        rw [hq r0 rfl]
        obtain ⟨v, G', sl'⟩ := r0
        cases v with
        | inl v => exact hc
        | inr E =>
          simp only [pm_cut] at hc ⊢
          split at hc
          · next h5 => rw [if_pos (by omega)]; exact hc
          · cases hc
    simp only [pm_callD] at h ⊢
    split at h
    · next M hM =>
      split at h
      · next o t ho =>
        split at h
        · next hc =>
          rw [if_pos hc]
          exact key _ _ (fun r hr => exec_up ih fuel _ r hr) h
        · cases h
      · cases h
    · cases h
theorem CALL_up {d d' y : Nat} {as : List Value} {G : pH} {sl : Nat} {r : pRes} (hd : d ≤ d') (h : CALL X Ft dfl Mt d y as G sl r) : CALL X Ft dfl Mt d' y as G sl r := by
  induction d' with
  | zero =>
    have : d = 0 := by omega
    subst this
    exact h
  | succ n ih =>
    by_cases e : d = n + 1
    · subst e; exact h
    · obtain ⟨N, hN⟩ := ih (by omega)
      exact ⟨N, fun fuel hf => callD_up n _ _ _ _ _ (hN fuel hf)⟩
/-! a pattern's cell with its variables set -/
noncomputable def lsubc (σ : sM) : sT → Option sT
  | .index a => match afnd σ a with
    | none => some (.index a)
    | some (.arg c, []) => some (.index c)
    | _ => none
  | .add (.index a) r => match afnd σ a, lsubc σ r with
    | none, some r' => some (.add (.index a) r')
    | some (.arg c, []), some r' => some (.add (.index c) r')
    | _, _ => none
  | _ => none
noncomputable def csubR (F : sFs) (σ : sM) (e0 : sE) : Option sE := match e0 with
  | .inr (c, v) => if v.all scl then some (.inr (c, v.map (ssub σ))) else none
  | .inl (t, n, b, u) => match b with
    | .arg a => if u.all (fun x => scl x.1 && scl x.2) then match afnd σ a with
        | none => some (.inl (t, n, .arg a, u.map (fun x => (ssub σ x.1, ssub σ x.2))))
        | some p => if p.2.all (fun x => sk x.1 == 0 && decide (0 ≤ (sivl F x.1).1)) then some (.inl (t, n, p.1, u.map (fun x => (ssub σ x.1, ssub σ x.2)) ++ p.2)) else none
      else none
    | .old (.mul (.sub (.index m) (.index w)) l) => if u.all (fun x => scl x.1 && scl x.2) then match lsubc σ l with
        | some l' => some (.inl (t, n, .old (.mul (.sub (.index m) (.index w)) l'), u.map (fun x => (ssub σ x.1, ssub σ x.2))))
        | none => none
      else none
    | .old (.add (.sub (.arg q) (.index k)) (.add (.mul (.sub (.index m) (.index w)) l) (.index c))) => if u.all (fun x => scl x.1 && scl x.2) then match sfnd σ q, afnd σ c, lsubc σ l with
        | none, none, some l' => some (.inl (t, n, .old (.add (.sub (.arg q) (.index k)) (.add (.mul (.sub (.index m) (.index w)) l') (.index c))), u.map (fun x => (ssub σ x.1, ssub σ x.2))))
        | _, _, _ => none
      else none
    | .old _ => none
    | b => if scl b && u.all (fun x => scl x.1 && scl x.2) then some (.inl (t, n, ssub σ b, u.map (fun x => (ssub σ x.1, ssub σ x.2)))) else none
/-- the same, with the frequent ones first -/
noncomputable def csubA (F : sFs) (σ : sM) (t n a : Nat) (u : List (sT × sT)) : Option sE := if u.all (fun x => scl x.1 && scl x.2) then match afnd σ a with
        | none => some (.inl (t, n, .arg a, u.map (fun x => (ssub σ x.1, ssub σ x.2))))
        | some p => if p.2.all (fun x => sk x.1 == 0 && decide (0 ≤ (sivl F x.1).1)) then some (.inl (t, n, p.1, u.map (fun x => (ssub σ x.1, ssub σ x.2)) ++ p.2)) else none
      else none
noncomputable def csubX (F : sFs) (σ : sM) (e0 : sE) : Option sE := match e0 with
  | .inr o => if o.2.all scl then some (.inr (o.1, o.2.map (ssub σ))) else none
  | .inl q => bif Nat.beq (ttag q.2.2.1) 0 then csubA F σ q.1 q.2.1 (tpn q.2.2.1) q.2.2.2 else csubR F σ (.inl q)
theorem csubX_eq (F : sFs) (σ : sM) (e0 : sE) : csubX F σ e0 = csubR F σ e0 := by
  cases e0 with
  | inr o => rfl
  | inl q =>
    obtain ⟨t, n, b, u⟩ := q
    cases b <;> rfl
/-- what an array of the pattern is set to -/
noncomputable def aval (X : pX) (σ : sM) (ρ : sR) (a j : Nat) : Value := match afnd σ a with
  | none => bden X ρ (.arg a) j
  | some p => aden X ρ p.1 p.2 j
/-- ρ'' shows under σ the numbers that ρ' has below n -/
noncomputable def REP (X : pX) (n : Nat) (ρ' ρ'' : sR) (σ : sM) : Prop := (∀ i, i < n → sd X ρ'' (ssub σ (.arg i)) = (ρ'.1 i, ρ'.2.1 i)) ∧ ∀ a, a < n → ∀ j, aval X σ ρ'' a j = bden X ρ' (.arg a) j
variable {n : Nat} {ρ' ρ'' : sR} {σ : sM}
theorem REP_d (h : REP X n ρ' ρ'' σ) : ∀ t : sT, vlt n t = true → scl t = true → sd X ρ'' (ssub σ t) = sd X ρ' t := by
  intro t
  induction t with
  | arg i =>
    intro ht _
    exact h.1 i (Nat.blt_eq.mp ht)
  | add a b iha ihb =>
    intro ht hs
    simp only [vlt_arg, vlt_int, vlt_long, vlt_null, vlt_index, vlt_field, vlt_static, vlt_string, vlt_mirror, vlt_length, vlt_elem, vlt_add, vlt_sub, vlt_mul, vlt_div, vlt_rem, vlt_op2, vlt_op1, vlt_sum, vlt_result, vlt_thrown, vlt_old, scl_arg, scl_int, scl_long, scl_null, scl_index, scl_field, scl_static, scl_string, scl_mirror, scl_length, scl_elem, scl_add, scl_sub, scl_mul, scl_div, scl_rem, scl_op2, scl_op1, scl_sum, scl_result, scl_thrown, scl_old, Bool.and_eq_true] at ht hs
    simp only [ssub_arg, ssub_int, ssub_long, ssub_null, ssub_index, ssub_field, ssub_static, ssub_string, ssub_mirror, ssub_length, ssub_elem, ssub_add, ssub_sub, ssub_mul, ssub_div, ssub_rem, ssub_op2, ssub_op1, ssub_sum, ssub_result, ssub_thrown, ssub_old, sd, iha ht.1 hs.1, ihb ht.2 hs.2]
  | sub a b iha ihb =>
    intro ht hs
    simp only [vlt_arg, vlt_int, vlt_long, vlt_null, vlt_index, vlt_field, vlt_static, vlt_string, vlt_mirror, vlt_length, vlt_elem, vlt_add, vlt_sub, vlt_mul, vlt_div, vlt_rem, vlt_op2, vlt_op1, vlt_sum, vlt_result, vlt_thrown, vlt_old, scl_arg, scl_int, scl_long, scl_null, scl_index, scl_field, scl_static, scl_string, scl_mirror, scl_length, scl_elem, scl_add, scl_sub, scl_mul, scl_div, scl_rem, scl_op2, scl_op1, scl_sum, scl_result, scl_thrown, scl_old, Bool.and_eq_true] at ht hs
    simp only [ssub_arg, ssub_int, ssub_long, ssub_null, ssub_index, ssub_field, ssub_static, ssub_string, ssub_mirror, ssub_length, ssub_elem, ssub_add, ssub_sub, ssub_mul, ssub_div, ssub_rem, ssub_op2, ssub_op1, ssub_sum, ssub_result, ssub_thrown, ssub_old, sd, iha ht.1 hs.1, ihb ht.2 hs.2]
  | mul a b iha ihb =>
    intro ht hs
    simp only [vlt_arg, vlt_int, vlt_long, vlt_null, vlt_index, vlt_field, vlt_static, vlt_string, vlt_mirror, vlt_length, vlt_elem, vlt_add, vlt_sub, vlt_mul, vlt_div, vlt_rem, vlt_op2, vlt_op1, vlt_sum, vlt_result, vlt_thrown, vlt_old, scl_arg, scl_int, scl_long, scl_null, scl_index, scl_field, scl_static, scl_string, scl_mirror, scl_length, scl_elem, scl_add, scl_sub, scl_mul, scl_div, scl_rem, scl_op2, scl_op1, scl_sum, scl_result, scl_thrown, scl_old, Bool.and_eq_true] at ht hs
    simp only [ssub_arg, ssub_int, ssub_long, ssub_null, ssub_index, ssub_field, ssub_static, ssub_string, ssub_mirror, ssub_length, ssub_elem, ssub_add, ssub_sub, ssub_mul, ssub_div, ssub_rem, ssub_op2, ssub_op1, ssub_sum, ssub_result, ssub_thrown, ssub_old, sd, iha ht.1 hs.1, ihb ht.2 hs.2]
  | div a b iha ihb =>
    intro ht hs
    simp only [vlt_arg, vlt_int, vlt_long, vlt_null, vlt_index, vlt_field, vlt_static, vlt_string, vlt_mirror, vlt_length, vlt_elem, vlt_add, vlt_sub, vlt_mul, vlt_div, vlt_rem, vlt_op2, vlt_op1, vlt_sum, vlt_result, vlt_thrown, vlt_old, scl_arg, scl_int, scl_long, scl_null, scl_index, scl_field, scl_static, scl_string, scl_mirror, scl_length, scl_elem, scl_add, scl_sub, scl_mul, scl_div, scl_rem, scl_op2, scl_op1, scl_sum, scl_result, scl_thrown, scl_old, Bool.and_eq_true] at ht hs
    simp only [ssub_arg, ssub_int, ssub_long, ssub_null, ssub_index, ssub_field, ssub_static, ssub_string, ssub_mirror, ssub_length, ssub_elem, ssub_add, ssub_sub, ssub_mul, ssub_div, ssub_rem, ssub_op2, ssub_op1, ssub_sum, ssub_result, ssub_thrown, ssub_old, sd, iha ht.1 hs.1, ihb ht.2 hs.2]
  | rem a b iha ihb =>
    intro ht hs
    simp only [vlt_arg, vlt_int, vlt_long, vlt_null, vlt_index, vlt_field, vlt_static, vlt_string, vlt_mirror, vlt_length, vlt_elem, vlt_add, vlt_sub, vlt_mul, vlt_div, vlt_rem, vlt_op2, vlt_op1, vlt_sum, vlt_result, vlt_thrown, vlt_old, scl_arg, scl_int, scl_long, scl_null, scl_index, scl_field, scl_static, scl_string, scl_mirror, scl_length, scl_elem, scl_add, scl_sub, scl_mul, scl_div, scl_rem, scl_op2, scl_op1, scl_sum, scl_result, scl_thrown, scl_old, Bool.and_eq_true] at ht hs
    simp only [ssub_arg, ssub_int, ssub_long, ssub_null, ssub_index, ssub_field, ssub_static, ssub_string, ssub_mirror, ssub_length, ssub_elem, ssub_add, ssub_sub, ssub_mul, ssub_div, ssub_rem, ssub_op2, ssub_op1, ssub_sum, ssub_result, ssub_thrown, ssub_old, sd, iha ht.1 hs.1, ihb ht.2 hs.2]
  | op2 o a b iha ihb =>
    intro ht hs
    simp only [vlt_arg, vlt_int, vlt_long, vlt_null, vlt_index, vlt_field, vlt_static, vlt_string, vlt_mirror, vlt_length, vlt_elem, vlt_add, vlt_sub, vlt_mul, vlt_div, vlt_rem, vlt_op2, vlt_op1, vlt_sum, vlt_result, vlt_thrown, vlt_old, scl_arg, scl_int, scl_long, scl_null, scl_index, scl_field, scl_static, scl_string, scl_mirror, scl_length, scl_elem, scl_add, scl_sub, scl_mul, scl_div, scl_rem, scl_op2, scl_op1, scl_sum, scl_result, scl_thrown, scl_old, Bool.and_eq_true] at ht hs
    simp only [ssub_arg, ssub_int, ssub_long, ssub_null, ssub_index, ssub_field, ssub_static, ssub_string, ssub_mirror, ssub_length, ssub_elem, ssub_add, ssub_sub, ssub_mul, ssub_div, ssub_rem, ssub_op2, ssub_op1, ssub_sum, ssub_result, ssub_thrown, ssub_old, sd, iha ht.1 hs.1, ihb ht.2 hs.2]
  | op1 o a iha =>
    intro ht hs
    simp only [vlt_arg, vlt_int, vlt_long, vlt_null, vlt_index, vlt_field, vlt_static, vlt_string, vlt_mirror, vlt_length, vlt_elem, vlt_add, vlt_sub, vlt_mul, vlt_div, vlt_rem, vlt_op2, vlt_op1, vlt_sum, vlt_result, vlt_thrown, vlt_old, scl_arg, scl_int, scl_long, scl_null, scl_index, scl_field, scl_static, scl_string, scl_mirror, scl_length, scl_elem, scl_add, scl_sub, scl_mul, scl_div, scl_rem, scl_op2, scl_op1, scl_sum, scl_result, scl_thrown, scl_old] at ht hs
    simp only [ssub_arg, ssub_int, ssub_long, ssub_null, ssub_index, ssub_field, ssub_static, ssub_string, ssub_mirror, ssub_length, ssub_elem, ssub_add, ssub_sub, ssub_mul, ssub_div, ssub_rem, ssub_op2, ssub_op1, ssub_sum, ssub_result, ssub_thrown, ssub_old, sd, iha ht hs]
  | elem t i iht ihi =>
    intro ht hs
    cases t with
    | string c k =>
      have hi : vlt n i = true := ht
      have hsi : scl i = true := hs
      simp only [ssub_arg, ssub_int, ssub_long, ssub_null, ssub_index, ssub_field, ssub_static, ssub_string, ssub_mirror, ssub_length, ssub_elem, ssub_add, ssub_sub, ssub_mul, ssub_div, ssub_rem, ssub_op2, ssub_op1, ssub_sum, ssub_result, ssub_thrown, ssub_old, sd, ihi hi hsi]
    | _ => cases hs
  | length t iht =>
    intro ht hs
    cases t with
    | string c k => rfl
    | _ => cases hs
  | _ => first | (intro _ _; rfl) | (intro _ hs; cases hs)
/-- terms whose kind the variables' numbers tell -/
theorem sk_sub (hk : ∀ i u, sfnd σ i = some u → sk u = i % 2) : ∀ t : sT, scl t = true → sk (ssub σ t) = sk t := by
  intro t
  cases t with
  | arg i =>
    intro _
    show sk (match sfnd σ i with
      | some u => u
      | none => .arg i) = i % 2
    split
    · next u hu => exact hk i u hu
    · rfl
  | elem t i =>
    intro hs
    cases t with
    | string c k => rfl
    | _ => cases hs
  | _ => first | (intro _; rfl) | (intro hs; cases hs)
theorem REP_v (h : REP X n ρ' ρ'' σ) (hk : ∀ i u, sfnd σ i = some u → sk u = i % 2) {t : sT} (ht : vlt n t = true) (hs : scl t = true) : sv X ρ'' (ssub σ t) = sv X ρ' t := by
  have h1 := REP_d h t ht hs
  have h2 := sk_sub hk t hs
  by_cases ha : sk t = 0
  · rw [sv_int (h2.trans ha), sv_int ha, h1]
  · by_cases hb : sk t = 1
    · rw [sv_long (h2.trans hb), sv_long hb, h1]
    · cases t with
      | arg i => exact absurd (show i % 2 = 0 ∨ i % 2 = 1 by omega) (by rintro (e | e); (· exact ha e); exact hb e)
      | index k => rfl
      | string c k => rfl
      | null => rfl
      | int v => exact absurd rfl ha
      | long v => exact absurd rfl hb
      | op2 o a b =>
        show (if sk2 o = 1 then Value.long (sd X ρ'' (ssub σ (.op2 o a b))).2 else .int (sd X ρ'' (ssub σ (.op2 o a b))).1) = if sk2 o = 1 then Value.long (sd X ρ' (.op2 o a b)).2 else .int (sd X ρ' (.op2 o a b)).1
        rw [h1]
      | op1 o a =>
        show (if sk1 o = 1 then Value.long (sd X ρ'' (ssub σ (.op1 o a))).2 else .int (sd X ρ'' (ssub σ (.op1 o a))).1) = if sk1 o = 1 then Value.long (sd X ρ' (.op1 o a)).2 else .int (sd X ρ' (.op1 o a)).1
        rw [h1]
      | elem t i =>
        cases t with
        | string c k => exact absurd rfl ha
        | _ => cases hs
      | length t => exact absurd rfl ha
      | add a b => exact absurd rfl ha
      | sub a b => exact absurd rfl ha
      | mul a b => exact absurd rfl ha
      | div a b => exact absurd rfl ha
      | rem a b => exact absurd rfl ha
      | _ => cases hs
/-- the same array, or another of its kind with the same numbers -/
noncomputable def SA (X : pX) (ρ' ρ'' : sR) (a c : Nat) : Prop := ∀ j, bden X ρ'' (.arg c) j = bden X ρ' (.arg a) j
theorem SA_val {a c m : Nat} (h : SA X ρ' ρ'' a c) (j : Nat) : (if c % 2 = 1 then Value.long (ρ''.2.2.2.1 c j) else .int (cmap m (ρ''.2.2.1 c j))) = if a % 2 = 1 then Value.long (ρ'.2.2.2.1 a j) else .int (cmap m (ρ'.2.2.1 a j)) := by
  have hj := h j
  simp only [bden] at hj
  by_cases h1 : c % 2 = 1
  · rw [if_pos h1] at hj ⊢
    by_cases h2 : a % 2 = 1
    · rw [if_pos h2] at hj ⊢
      exact hj
    · rw [if_neg h2] at hj
      cases hj
  · rw [if_neg h1] at hj ⊢
    by_cases h2 : a % 2 = 1
    · rw [if_pos h2] at hj
      cases hj
    · rw [if_neg h2] at hj ⊢
      have hj : ρ''.2.2.1 c j = ρ'.2.2.1 a j := by injection hj
      rw [hj]
theorem lsub_cat (h : REP X n ρ' ρ'' σ) : ∀ (l l' : sT), vltC n l = true → lsubc σ l = some l' → ∀ b : Nat, (catA l b = none ∧ catA l' b = none) ∨ ∃ a c, catA l b = some a ∧ catA l' b = some c ∧ SA X ρ' ρ'' a c := by
  have one : ∀ a, a < n → ∀ l', (match afnd σ a with
      | none => some a
      | some (.arg c, []) => some c
      | _ => none) = some l' → SA X ρ' ρ'' a l' := by
    intro a ha l' hl j
    have h2 := h.2 a ha j
    unfold aval at h2
    split at hl
    · next hp => cases hl; rw [hp] at h2; exact h2
    · next c hp => cases hl; rw [hp] at h2; exact h2
    · cases hl
  intro l
  induction l with
  | index a =>
    intro l' hv hl b
    have ha : a < n := Nat.blt_eq.mp hv
    have hl : (match afnd σ a with
      | none => some (.index a)
      | some (.arg c, []) => some (.index c)
      | _ => none) = some l' := hl
    cases b with
    | zero =>
      right
      split at hl
      · next hp => cases hl; exact ⟨a, a, rfl, rfl, one a ha a (by rw [hp])⟩
      · next c hp => cases hl; exact ⟨a, c, rfl, rfl, one a ha c (by rw [hp])⟩
      · cases hl
    | succ b =>
      left
      split at hl
      · cases hl; exact ⟨rfl, rfl⟩
      · cases hl; exact ⟨rfl, rfl⟩
      · cases hl
  | add x r ihx ihr =>
    intro l' hv hl b
    cases x with
    | index a =>
      have hv : (Nat.blt a n && vltC n r) = true := hv
      simp only [Bool.and_eq_true] at hv
      have ha : a < n := Nat.blt_eq.mp hv.1
      have hl : (match afnd σ a, lsubc σ r with
        | none, some r' => some (.add (.index a) r')
        | some (.arg c, []), some r' => some (.add (.index c) r')
        | _, _ => none) = some l' := hl
      split at hl
      · next r' hp hr =>
        cases hl
        cases b with
        | zero => exact Or.inr ⟨a, a, rfl, rfl, one a ha a (by rw [hp])⟩
        | succ b => exact ihr r' hv.2 hr b
      · next c r' hp hr =>
        cases hl
        cases b with
        | zero => exact Or.inr ⟨a, c, rfl, rfl, one a ha c (by rw [hp])⟩
        | succ b => exact ihr r' hv.2 hr b
      · cases hl
    | _ => cases hv
  | _ =>
    intro l' hv
    cases hv
theorem csubX_ok {F : sFs} (hF : fok X ρ'' F) (h : REP X n ρ' ρ'' σ) (hk : ∀ i u, sfnd σ i = some u → sk u = i % 2) {e0 e : sE} (hv : vltE n e0 = true) (hs : csubX F σ e0 = some e) {y : pE} (hy : CR X ρ' e0 y) : CR X ρ'' e y := by
  rw [csubX_eq] at hs
  cases e0 with
  | inr q =>
    obtain ⟨c, v⟩ := q
    simp only [csubR] at hs
    simp only [vltE, List.all_eq_true] at hv
    split at hs
    · next hv2 =>
      cases hs
      cases y with
      | inl z => exact hy.elim
      | inr z =>
        have hy : z = (c, v.map (sv X ρ')) := hy
        show z = (c, (v.map (ssub σ)).map (sv X ρ''))
        rw [hy, List.map_map]
        exact congrArg (fun l => (c, l)) (List.map_congr_left (fun t ht => (REP_v h hk (hv t ht) (List.all_eq_true.mp hv2 t ht)).symm))
    · cases hs
  | inl q =>
    obtain ⟨t, m, b, u⟩ := q
    simp only [vltE, Bool.and_eq_true, List.all_eq_true] at hv
    cases y with
    | inr z => exact hy.elim
    | inl z =>
      obtain ⟨q1, q2, q3, q4⟩ := hy
      dsimp only at q1 q2 q3 q4
      simp only [csubR] at hs
      split at hs
      · next a =>
        split at hs
        · next hc =>
          have hu : ∀ x ∈ u, (vlt n x.1 = true ∧ vlt n x.2 = true) ∧ scl x.1 = true ∧ scl x.2 = true := fun x hx => ⟨by simpa using hv.2 x hx, by simpa using List.all_eq_true.mp hc x hx⟩
          have hall : ∀ (b : sT) (r u : List (sT × sT)) (j : Nat), aden X ρ'' b r j = bden X ρ' (.arg a) j → (∀ x ∈ u, (vlt n x.1 = true ∧ vlt n x.2 = true) ∧ scl x.1 = true ∧ scl x.2 = true) → aden X ρ'' b (u.map (fun x => (ssub σ x.1, ssub σ x.2)) ++ r) j = aden X ρ' (.arg a) u j := by
            intro b r u j hb
            induction u with
            | nil => intro _; exact hb
            | cons x r ih =>
              intro hr
              have hx := hr x List.mem_cons_self
              simp only [List.map_cons, List.cons_append, aden]
              rw [REP_d h _ hx.1.1 hx.2.1, REP_v h hk hx.1.2 hx.2.2, ih (fun z hz => hr z (List.mem_cons_of_mem _ hz))]
          have hneg : ∀ x ∈ u.map (fun x => (ssub σ x.1, ssub σ x.2)), ¬ (sd X ρ'' x.1).1 < 0 := fun x hx => by
            obtain ⟨x0, hx0, rfl⟩ := List.mem_map.mp hx
            have := hu x0 hx0
            rw [REP_d h _ this.1.1 this.2.1]
            exact q4 x0 hx0
          have ha : a < n := Nat.blt_eq.mp hv.1
          have h2 := h.2 a ha
          unfold aval at h2
          split at hs
          · next hp =>
            cases hs
            refine ⟨q1, q2, fun j hj => ?_, hneg⟩
            rw [q3 j hj]
            have h3 := h2 j
            rw [hp] at h3
            have h4 := hall (.arg a) [] u j h3 hu
            rw [List.append_nil] at h4
            exact h4.symm
          · next p hp =>
            split at hs
            · next hn =>
              cases hs
              refine ⟨q1, q2, fun j hj => ?_, fun x hx => ?_⟩
              · rw [q3 j hj]
                have h3 := h2 j
                rw [hp] at h3
                exact (hall p.1 p.2 u j h3 hu).symm
              · rcases List.mem_append.mp hx with hx | hx
                · exact hneg x hx
                · have h9 := List.all_eq_true.mp hn x hx
                  simp only [Bool.and_eq_true, beq_iff_eq, decide_eq_true_eq] at h9
                  have h8 := sivl_ok hF x.1
                  rw [sn_i h9.1] at h8
                  exact s_nn (by omega)
            · cases hs
        · cases hs
      · next mm w l =>
        split at hs
        · next hc =>
          have hu : ∀ x ∈ u, (vlt n x.1 = true ∧ vlt n x.2 = true) ∧ scl x.1 = true ∧ scl x.2 = true := fun x hx => ⟨by simpa using hv.2 x hx, by simpa using List.all_eq_true.mp hc x hx⟩
          split at hs
          · next l' hl' =>
            cases hs
            have hbase : ∀ j, bden X ρ'' (.old (.mul (.sub (.index mm) (.index w)) l')) j = bden X ρ' (.old (.mul (.sub (.index mm) (.index w)) l)) j := fun j => by
              show cden ρ'' (.mul (.sub (.index mm) (.index w)) l') j = cden ρ' (.mul (.sub (.index mm) (.index w)) l) j
              unfold cden
              dsimp only
              rcases lsub_cat h l l' hv.1 hl' (j / w) with ⟨e1, e2⟩ | ⟨a, c, e1, e2, e3⟩
              · rw [e1, e2]
              · rw [e1, e2]
                exact SA_val e3 (j % w)
            have hall : ∀ (u : List (sT × sT)) (j : Nat), (∀ x ∈ u, (vlt n x.1 = true ∧ vlt n x.2 = true) ∧ scl x.1 = true ∧ scl x.2 = true) → aden X ρ'' (.old (.mul (.sub (.index mm) (.index w)) l')) (u.map (fun x => (ssub σ x.1, ssub σ x.2))) j = aden X ρ' (.old (.mul (.sub (.index mm) (.index w)) l)) u j := by
              intro u j
              induction u with
              | nil => intro _; exact hbase j
              | cons x r ih =>
                intro hr
                have hx := hr x List.mem_cons_self
                simp only [List.map_cons, aden]
                rw [REP_d h _ hx.1.1 hx.2.1, REP_v h hk hx.1.2 hx.2.2, ih (fun z hz => hr z (List.mem_cons_of_mem _ hz))]
            refine ⟨q1, q2, fun j hj => ?_, fun x hx => ?_⟩
            · rw [q3 j hj]
              exact (hall u j hu).symm
            · obtain ⟨x0, hx0, rfl⟩ := List.mem_map.mp hx
              have := hu x0 hx0
              rw [REP_d h _ this.1.1 this.2.1]
              exact q4 x0 hx0
          · cases hs
        · cases hs
      · next q k mm w l c =>
        split at hs
        · next hc =>
          have hu : ∀ x ∈ u, (vlt n x.1 = true ∧ vlt n x.2 = true) ∧ scl x.1 = true ∧ scl x.2 = true := fun x hx => ⟨by simpa using hv.2 x hx, by simpa using List.all_eq_true.mp hc x hx⟩
          split at hs
          · next l' hq hcn hl' =>
            cases hs
            have hv1 : (Nat.blt q n && (Nat.blt c n && vltC n l)) = true := hv.1
            simp only [Bool.and_eq_true] at hv1
            have hq1 : q < n := Nat.blt_eq.mp hv1.1
            have hc1 : c < n := Nat.blt_eq.mp hv1.2.1
            have eq0 : ρ''.1 q = ρ'.1 q := by
              have h9 := h.1 q hq1
              simp only [ssub_arg, ssub_int, ssub_long, ssub_null, ssub_index, ssub_field, ssub_static, ssub_string, ssub_mirror, ssub_length, ssub_elem, ssub_add, ssub_sub, ssub_mul, ssub_div, ssub_rem, ssub_op2, ssub_op1, ssub_sum, ssub_result, ssub_thrown, ssub_old, hq, sd] at h9
              exact congrArg Prod.fst h9
            have ec : ∀ j, (if c % 2 = 1 then Value.long (ρ''.2.2.2.1 c j) else .int (ρ''.2.2.1 c j)) = if c % 2 = 1 then Value.long (ρ'.2.2.2.1 c j) else .int (ρ'.2.2.1 c j) := fun j => by
              have h9 := h.2 c hc1 j
              unfold aval at h9
              rw [hcn] at h9
              exact h9
            have ed : ∀ j, rden ρ'' mm w l' j = rden ρ' mm w l j := fun j => by
              unfold rden
              rcases lsub_cat h l l' hv1.2.2 hl' (j / w) with ⟨e1, e2⟩ | ⟨a, c', e1, e2, e3⟩
              · rw [e1, e2]
              · rw [e1, e2]
                exact SA_val e3 (j % w)
            have hbase : ∀ j, bden X ρ'' (.old (.add (.sub (.arg q) (.index k)) (.add (.mul (.sub (.index mm) (.index w)) l') (.index c)))) j = bden X ρ' (.old (.add (.sub (.arg q) (.index k)) (.add (.mul (.sub (.index mm) (.index w)) l) (.index c)))) j := fun j => by
              show (if _ then _ else _) = if _ then _ else _
              rw [eq0, ed, ec]
            have hall : ∀ (u : List (sT × sT)) (j : Nat), (∀ x ∈ u, (vlt n x.1 = true ∧ vlt n x.2 = true) ∧ scl x.1 = true ∧ scl x.2 = true) → aden X ρ'' (.old (.add (.sub (.arg q) (.index k)) (.add (.mul (.sub (.index mm) (.index w)) l') (.index c)))) (u.map (fun x => (ssub σ x.1, ssub σ x.2))) j = aden X ρ' (.old (.add (.sub (.arg q) (.index k)) (.add (.mul (.sub (.index mm) (.index w)) l) (.index c)))) u j := by
              intro u j
              induction u with
              | nil => intro _; exact hbase j
              | cons x r ih =>
                intro hr
                have hx := hr x List.mem_cons_self
                simp only [List.map_cons, aden]
                rw [REP_d h _ hx.1.1 hx.2.1, REP_v h hk hx.1.2 hx.2.2, ih (fun z hz => hr z (List.mem_cons_of_mem _ hz))]
            refine ⟨q1, q2, fun j hj => ?_, fun x hx => ?_⟩
            · rw [q3 j hj]
              exact (hall u j hu).symm
            · obtain ⟨x0, hx0, rfl⟩ := List.mem_map.mp hx
              have := hu x0 hx0
              rw [REP_d h _ this.1.1 this.2.1]
              exact q4 x0 hx0
          · cases hs
        · cases hs
      · cases hs
      · next x9 hna hno1 hno3 hno2 =>
        split at hs
        · next hc =>
          cases hs
          simp only [Bool.and_eq_true, List.all_eq_true] at hc
          have hu : ∀ x ∈ u, (vlt n x.1 = true ∧ vlt n x.2 = true) ∧ scl x.1 = true ∧ scl x.2 = true := fun x hx => ⟨by simpa using hv.2 x hx, by simpa using hc.2 x hx⟩
          have hvb : vlt n b = true := by
            have := hv.1
            rw [vltB_eq] at this
            unfold vltO at this
            split at this
            · next m' w' l' => exact absurd rfl (hno1 _ _ _)
            · next q' k' m' w' l' c' => exact absurd rfl (hno2 _)
            · exact this
          have hb1 : ∀ (ρ0 : sR) (t0 : sT) (j : Nat), (∀ a, t0 ≠ .arg a) → (∀ a, t0 ≠ .old a) → bden X ρ0 t0 j = sv X ρ0 t0 := fun ρ0 t0 j g1 g2 => by
            unfold bden
            split
            · next a => exact absurd rfl (g1 a)
            · next a => exact absurd rfl (g2 a)
            · rfl
          have hbase : ∀ j, bden X ρ'' (ssub σ b) j = bden X ρ' b j := fun j => by
            rw [hb1 ρ' b j (fun a e => hna a e) (fun a e => hno2 a e), hb1 ρ'' (ssub σ b) j (fun a e => by
              cases b <;> first | (exact absurd rfl (hna _)) | (simp only [ssub_arg, ssub_int, ssub_long, ssub_null, ssub_index, ssub_field, ssub_static, ssub_string, ssub_mirror, ssub_length, ssub_elem, ssub_add, ssub_sub, ssub_mul, ssub_div, ssub_rem, ssub_op2, ssub_op1, ssub_sum, ssub_result, ssub_thrown, ssub_old] at e; cases e)) (fun a e => by
              cases b <;> first | (exact absurd rfl (hna _)) | (exact absurd rfl (hno2 _)) | (simp only [ssub_arg, ssub_int, ssub_long, ssub_null, ssub_index, ssub_field, ssub_static, ssub_string, ssub_mirror, ssub_length, ssub_elem, ssub_add, ssub_sub, ssub_mul, ssub_div, ssub_rem, ssub_op2, ssub_op1, ssub_sum, ssub_result, ssub_thrown, ssub_old] at e; cases e)), REP_v h hk hvb hc.1]
          have hall : ∀ (u : List (sT × sT)) (j : Nat), (∀ x ∈ u, (vlt n x.1 = true ∧ vlt n x.2 = true) ∧ scl x.1 = true ∧ scl x.2 = true) → aden X ρ'' (ssub σ b) (u.map (fun x => (ssub σ x.1, ssub σ x.2))) j = aden X ρ' b u j := by
            intro u j
            induction u with
            | nil => intro _; exact hbase j
            | cons x r ih =>
              intro hr
              have hx := hr x List.mem_cons_self
              simp only [List.map_cons, aden]
              rw [REP_d h _ hx.1.1 hx.2.1, REP_v h hk hx.1.2 hx.2.2, ih (fun z hz => hr z (List.mem_cons_of_mem _ hz))]
          refine ⟨q1, q2, fun j hj => ?_, fun x hx => ?_⟩
          · rw [q3 j hj]
            exact (hall u j hu).symm
          · obtain ⟨x0, hx0, rfl⟩ := List.mem_map.mp hx
            have := hu x0 hx0
            rw [REP_d h _ this.1.1 this.2.1]
            exact q4 x0 hx0
        · cases hs
/-! terms that may speak of an array's place by its number -/
noncomputable def selE (b : sT) (k : Int32) (a : Nat) : List (sT × sT) → Option sT
  | [] => match b with
    | .arg c => if c % 2 = a % 2 then some (.elem (.arg c) (.int k)) else none
    | _ => none
  | u :: r => match sC1 u.1 with
    | some p => if p.1.toNatClampNeg = k.toNatClampNeg then (if sk u.2 = a % 2 then some u.2 else none) else selE b k a r
    | none => none
noncomputable def ssk (i : sT) (a : Nat) (σ : sM) : sT := @Jvm.Term.rec (fun _ => Nat → sM → sT) (fun _ _ _ => .null) (fun v a _ => (match afnd σ a with
        | none => .elem (.arg a) (.int v)
        | some p => (selE p.1 v a p.2).getD .null)) (fun _ _ _ => .null) (fun _ _ => .null) (fun _ _ _ => .null) (fun _ _ _ _ _ _ _ => .null) (fun _ _ _ _ _ => .null) (fun _ _ _ _ => .null) (fun _ _ _ => .null) (fun _ _ _ _ => .null) (fun _ _ _ _ _ _ => .null) (fun _ _ _ _ _ _ => .null) (fun _ _ _ _ _ _ => .null) (fun _ _ _ _ _ _ => .null) (fun _ _ _ _ _ _ => .null) (fun _ _ _ _ _ _ => .null) (fun _ _ _ _ _ _ _ => .null) (fun _ _ _ _ _ => .null) (fun _ _ _ _ => .null) (fun _ _ => .null) (fun _ _ => .null) (fun _ _ _ _ => .null) i a σ
noncomputable def sse (t i : sT) (σ : sM) : sT := @Jvm.Term.rec (fun _ => sT → sM → sT) (fun i i_ _ => ssk i_ i σ) (fun _ _ _ => .null) (fun _ _ _ => .null) (fun _ _ => .null) (fun _ _ _ => .null) (fun _ _ _ _ _ _ _ => .null) (fun _ _ _ _ _ => .null) (fun _ _ _ _ => .null) (fun _ _ _ => .null) (fun _ _ _ _ => .null) (fun _ _ _ _ _ _ => .null) (fun _ _ _ _ _ _ => .null) (fun _ _ _ _ _ _ => .null) (fun _ _ _ _ _ _ => .null) (fun _ _ _ _ _ _ => .null) (fun _ _ _ _ _ _ => .null) (fun _ _ _ _ _ _ _ => .null) (fun _ _ _ _ _ => .null) (fun _ _ _ _ => .null) (fun _ _ => .null) (fun _ _ => .null) (fun _ _ _ _ => .null) t i σ
noncomputable def ssubE (σ : sM) (t : sT) : sT := @Jvm.Term.rec (fun _ => sM → sT) (fun i _ => (match sfnd σ i with
    | some u => u
    | none => .arg i)) (fun v _ => .int v) (fun v _ => .long v) (fun _ => .null) (fun k _ => .index k) (fun t c n d _ _ => .field t c n d) (fun c n d _ => .static c n d) (fun c i _ => .string c i) (fun c _ => .mirror c) (fun t _ _ => .length t) (fun t i _ _ _ => sse t i σ) (fun _ _ ha hb _ => .add (ha σ) (hb σ)) (fun _ _ ha hb _ => .sub (ha σ) (hb σ)) (fun _ _ ha hb _ => .mul (ha σ) (hb σ)) (fun _ _ ha hb _ => .div (ha σ) (hb σ)) (fun _ _ ha hb _ => .rem (ha σ) (hb σ)) (fun o _ _ ha hb _ => .op2 o (ha σ) (hb σ)) (fun o _ ha _ => .op1 o (ha σ)) (fun t _ _ => .sum t) (fun _ => .result) (fun _ => .thrown) (fun t _ _ => .old t) t σ
theorem ssubE_arg {σ : sM} {i : Nat} : ssubE σ (.arg i) = (match sfnd σ i with
    | some u => u
    | none => .arg i) := rfl
theorem ssubE_int {σ : sM} {v : Int32} : ssubE σ (.int v) = (.int v) := rfl
theorem ssubE_long {σ : sM} {v : Int64} : ssubE σ (.long v) = (.long v) := rfl
theorem ssubE_null {σ : sM} : ssubE σ (.null) = (.null) := rfl
theorem ssubE_index {σ : sM} {k : Nat} : ssubE σ (.index k) = (.index k) := rfl
theorem ssubE_field {σ : sM} {t : sT} {c : String} {n : String} {d : String} : ssubE σ (.field t c n d) = (.field t c n d) := rfl
theorem ssubE_static {σ : sM} {c : String} {n : String} {d : String} : ssubE σ (.static c n d) = (.static c n d) := rfl
theorem ssubE_string {σ : sM} {c : String} {i : Nat} : ssubE σ (.string c i) = (.string c i) := rfl
theorem ssubE_mirror {σ : sM} {c : String} : ssubE σ (.mirror c) = (.mirror c) := rfl
theorem ssubE_length {σ : sM} {t : sT} : ssubE σ (.length t) = (.length t) := rfl
theorem ssubE_elem {σ : sM} {t : sT} {i : sT} : ssubE σ (.elem t i) = (match t with
    | .arg a => (match i with
      | .int k => (match afnd σ a with
        | none => .elem (.arg a) (.int k)
        | some p => (selE p.1 k a p.2).getD .null)
      | _ => .null)
    | _ => .null) := by cases t <;> first | rfl | (cases i <;> rfl)
theorem ssubE_add {σ : sM} {a : sT} {b : sT} : ssubE σ (.add a b) = (.add (ssubE σ a) (ssubE σ b)) := rfl
theorem ssubE_sub {σ : sM} {a : sT} {b : sT} : ssubE σ (.sub a b) = (.sub (ssubE σ a) (ssubE σ b)) := rfl
theorem ssubE_mul {σ : sM} {a : sT} {b : sT} : ssubE σ (.mul a b) = (.mul (ssubE σ a) (ssubE σ b)) := rfl
theorem ssubE_div {σ : sM} {a : sT} {b : sT} : ssubE σ (.div a b) = (.div (ssubE σ a) (ssubE σ b)) := rfl
theorem ssubE_rem {σ : sM} {a : sT} {b : sT} : ssubE σ (.rem a b) = (.rem (ssubE σ a) (ssubE σ b)) := rfl
theorem ssubE_op2 {σ : sM} {o : Binary} {a : sT} {b : sT} : ssubE σ (.op2 o a b) = (.op2 o (ssubE σ a) (ssubE σ b)) := rfl
theorem ssubE_op1 {σ : sM} {o : Unary} {a : sT} : ssubE σ (.op1 o a) = (.op1 o (ssubE σ a)) := rfl
theorem ssubE_sum {σ : sM} {t : sT} : ssubE σ (.sum t) = (.sum t) := rfl
theorem ssubE_result {σ : sM} : ssubE σ (.result) = (.result) := rfl
theorem ssubE_thrown {σ : sM} : ssubE σ (.thrown) = (.thrown) := rfl
theorem ssubE_old {σ : sM} {t : sT} : ssubE σ (.old t) = (.old t) := rfl
/-- the kinds of an operation's operands -/
noncomputable def skin (o : Binary) : Nat × Nat := match o with
  | .iand | .ior | .ixor | .ishl | .ishr | .iushr => (0, 0)
  | .ladd | .lsub | .lmul | .ldiv | .land | .lor | .lxor | .lcmp => (1, 1)
  | .lshl | .lshr | .lushr => (1, 0)
  | _ => (9, 9)
noncomputable def skin1 (o : Unary) : Nat := match o with
  | .ineg | .i2b | .i2s | .i2l => 0
  | .l2i | .lneg => 1
  | _ => 9
noncomputable def sgk (i : sT) (a : Nat) (σ : sM) : Bool := @Jvm.Term.rec (fun _ => Nat → sM → Bool) (fun _ _ _ => false) (fun v a _ => (match afnd σ a with
        | none => true
        | some p => (selE p.1 v a p.2).isSome)) (fun _ _ _ => false) (fun _ _ => false) (fun _ _ _ => false) (fun _ _ _ _ _ _ _ => false) (fun _ _ _ _ _ => false) (fun _ _ _ _ => false) (fun _ _ _ => false) (fun _ _ _ _ => false) (fun _ _ _ _ _ _ => false) (fun _ _ _ _ _ _ => false) (fun _ _ _ _ _ _ => false) (fun _ _ _ _ _ _ => false) (fun _ _ _ _ _ _ => false) (fun _ _ _ _ _ _ => false) (fun _ _ _ _ _ _ _ => false) (fun _ _ _ _ _ => false) (fun _ _ _ _ => false) (fun _ _ => false) (fun _ _ => false) (fun _ _ _ _ => false) i a σ
noncomputable def sge (t i : sT) (σ : sM) : Bool := @Jvm.Term.rec (fun _ => sT → sM → Bool) (fun i i_ _ => sgk i_ i σ) (fun _ _ _ => false) (fun _ _ _ => false) (fun _ _ => false) (fun _ _ _ => false) (fun _ _ _ _ _ _ _ => false) (fun _ _ _ _ _ => false) (fun _ _ _ _ => false) (fun _ _ _ => false) (fun _ _ _ _ => false) (fun _ _ _ _ _ _ => false) (fun _ _ _ _ _ _ => false) (fun _ _ _ _ _ _ => false) (fun _ _ _ _ _ _ => false) (fun _ _ _ _ _ _ => false) (fun _ _ _ _ _ _ => false) (fun _ _ _ _ _ _ _ => false) (fun _ _ _ _ _ => false) (fun _ _ _ _ => false) (fun _ _ => false) (fun _ _ => false) (fun _ _ _ _ => false) t i σ
noncomputable def sgd (σ : sM) (t : sT) : Bool := @Jvm.Term.rec (fun _ => sM → Bool) (fun _ _ => true) (fun _ _ => true) (fun _ _ => true) (fun _ => false) (fun _ _ => false) (fun _ _ _ _ _ _ => false) (fun _ _ _ _ => false) (fun _ _ _ => false) (fun _ _ => false) (fun _ _ _ => false) (fun t i _ _ _ => sge t i σ) (fun a b ha hb _ => sk a == 0 && (sk b == 0 && (ha σ && hb σ))) (fun a b ha hb _ => sk a == 0 && (sk b == 0 && (ha σ && hb σ))) (fun a b ha hb _ => sk a == 0 && (sk b == 0 && (ha σ && hb σ))) (fun a b ha hb _ => sk a == 0 && (sk b == 0 && (ha σ && hb σ))) (fun a b ha hb _ => sk a == 0 && (sk b == 0 && (ha σ && hb σ))) (fun o a b ha hb _ => sk a == (skin o).1 && (sk b == (skin o).2 && (ha σ && hb σ))) (fun o a ha _ => sk a == skin1 o && ha σ) (fun _ _ _ => false) (fun _ => false) (fun _ => false) (fun _ _ _ => false) t σ
theorem sgd_arg {σ : sM} {i : Nat} : sgd σ (.arg i) = (true) := rfl
theorem sgd_int {σ : sM} {v : Int32} : sgd σ (.int v) = (true) := rfl
theorem sgd_long {σ : sM} {v : Int64} : sgd σ (.long v) = (true) := rfl
theorem sgd_null {σ : sM} : sgd σ (.null) = (false) := rfl
theorem sgd_index {σ : sM} {k : Nat} : sgd σ (.index k) = (false) := rfl
theorem sgd_field {σ : sM} {t : sT} {c : String} {n : String} {d : String} : sgd σ (.field t c n d) = (false) := rfl
theorem sgd_static {σ : sM} {c : String} {n : String} {d : String} : sgd σ (.static c n d) = (false) := rfl
theorem sgd_string {σ : sM} {c : String} {i : Nat} : sgd σ (.string c i) = (false) := rfl
theorem sgd_mirror {σ : sM} {c : String} : sgd σ (.mirror c) = (false) := rfl
theorem sgd_length {σ : sM} {t : sT} : sgd σ (.length t) = (false) := rfl
theorem sgd_elem {σ : sM} {t : sT} {i : sT} : sgd σ (.elem t i) = (match t with
    | .arg a => (match i with
      | .int k => (match afnd σ a with
        | none => true
        | some p => (selE p.1 k a p.2).isSome)
      | _ => false)
    | _ => false) := by cases t <;> first | rfl | (cases i <;> rfl)
theorem sgd_add {σ : sM} {a : sT} {b : sT} : sgd σ (.add a b) = (sk a == 0 && (sk b == 0 && (sgd σ a && sgd σ b))) := rfl
theorem sgd_sub {σ : sM} {a : sT} {b : sT} : sgd σ (.sub a b) = (sk a == 0 && (sk b == 0 && (sgd σ a && sgd σ b))) := rfl
theorem sgd_mul {σ : sM} {a : sT} {b : sT} : sgd σ (.mul a b) = (sk a == 0 && (sk b == 0 && (sgd σ a && sgd σ b))) := rfl
theorem sgd_div {σ : sM} {a : sT} {b : sT} : sgd σ (.div a b) = (sk a == 0 && (sk b == 0 && (sgd σ a && sgd σ b))) := rfl
theorem sgd_rem {σ : sM} {a : sT} {b : sT} : sgd σ (.rem a b) = (sk a == 0 && (sk b == 0 && (sgd σ a && sgd σ b))) := rfl
theorem sgd_op2 {σ : sM} {o : Binary} {a : sT} {b : sT} : sgd σ (.op2 o a b) = (sk a == (skin o).1 && (sk b == (skin o).2 && (sgd σ a && sgd σ b))) := rfl
theorem sgd_op1 {σ : sM} {o : Unary} {a : sT} : sgd σ (.op1 o a) = (sk a == skin1 o && sgd σ a) := rfl
theorem sgd_sum {σ : sM} {t : sT} : sgd σ (.sum t) = (false) := rfl
theorem sgd_result {σ : sM} : sgd σ (.result) = (false) := rfl
theorem sgd_thrown {σ : sM} : sgd σ (.thrown) = (false) := rfl
theorem sgd_old {σ : sM} {t : sT} : sgd σ (.old t) = (false) := rfl
theorem selE_ok {ρ : sR} {b : sT} {k : Int32} {a : Nat} : ∀ (u : List (sT × sT)) {t : sT}, selE b k a u = some t → sk t = a % 2 ∧ aden X ρ b u k.toNatClampNeg = sv X ρ t
  | [], t, h => by
    unfold selE at h
    split at h
    · next c =>
      split at h
      · next hc =>
        cases h
        refine ⟨hc, ?_⟩
        show bden X ρ (.arg c) _ = _
        unfold bden
        dsimp only
        by_cases h1 : c % 2 = 1
        · rw [if_pos h1, sv_long (t := .elem (.arg c) (.int k)) h1]; rfl
        · rw [if_neg h1, sv_int (t := .elem (.arg c) (.int k)) (by show c % 2 = 0; omega)]; rfl
      · cases h
    · cases h
  | u :: r, t, h => by
    unfold selE at h
    split at h
    · next p hp =>
      unfold aden
      rw [sC1_ok hp]
      split at h
      · next hj =>
        split at h
        · next hk =>
          cases h
          exact ⟨hk, by rw [if_pos hj]⟩
        · cases h
      · next hj =>
        rw [if_neg hj]
        exact selE_ok r h
    · cases h
/-- the same number, as its kind shows it -/
noncomputable def seqv (X : pX) (ρ1 ρ2 : sR) (a b : sT) : Prop := sk a = sk b ∧ (sk b = 0 → (sd X ρ1 a).1 = (sd X ρ2 b).1) ∧ (sk b = 1 → (sd X ρ1 a).2 = (sd X ρ2 b).2)
theorem s2_eqv {o : Binary} {p q p' q' : Int32 × Int64} (h1 : (skin o).1 = 0 → p.1 = p'.1) (h2 : (skin o).1 = 1 → p.2 = p'.2) (h3 : (skin o).2 = 0 → q.1 = q'.1) (h4 : (skin o).2 = 1 → q.2 = q'.2) : (sk2 o = 0 → (s2 o p q).1 = (s2 o p' q').1) ∧ (sk2 o = 1 → (s2 o p q).2 = (s2 o p' q').2) := by
  cases o <;> simp only [skin] at h1 h2 h3 h4 <;> simp only [sk2, s2] <;> simp_all
theorem s1_eqv {o : Unary} {p p' : Int32 × Int64} (h1 : skin1 o = 0 → p.1 = p'.1) (h2 : skin1 o = 1 → p.2 = p'.2) : (sk1 o = 0 → (s1 o p).1 = (s1 o p').1) ∧ (sk1 o = 1 → (s1 o p).2 = (s1 o p').2) := by
  cases o <;> simp only [skin1] at h1 h2 <;> simp only [sk1, s1] <;> simp_all
theorem ssubE_e (h : REP X n ρ' ρ'' σ) (hk : ∀ i u, sfnd σ i = some u → sk u = i % 2) : ∀ t : sT, vlt n t = true → sgd σ t = true → seqv X ρ'' ρ' (ssubE σ t) t := by
  intro t
  induction t with
  | int v => intro _ _; exact ⟨rfl, fun _ => rfl, fun _ => rfl⟩
  | long v => intro _ _; exact ⟨rfl, fun _ => rfl, fun _ => rfl⟩
  | arg i =>
    intro hv _
    have h1 := h.1 i (Nat.blt_eq.mp hv)
    have e : ssubE σ (.arg i) = ssub σ (.arg i) := rfl
    refine ⟨?_, fun _ => by rw [e, h1]; rfl, fun _ => by rw [e, h1]; rfl⟩
    show sk (match sfnd σ i with
      | some u => u
      | none => .arg i) = i % 2
    split
    · next u hu => exact hk i u hu
    · rfl
  | add a b iha ihb =>
    intro hv hs
    simp only [vlt_arg, vlt_int, vlt_long, vlt_null, vlt_index, vlt_field, vlt_static, vlt_string, vlt_mirror, vlt_length, vlt_elem, vlt_add, vlt_sub, vlt_mul, vlt_div, vlt_rem, vlt_op2, vlt_op1, vlt_sum, vlt_result, vlt_thrown, vlt_old, sgd_arg, sgd_int, sgd_long, sgd_null, sgd_index, sgd_field, sgd_static, sgd_string, sgd_mirror, sgd_length, sgd_elem, sgd_add, sgd_sub, sgd_mul, sgd_div, sgd_rem, sgd_op2, sgd_op1, sgd_sum, sgd_result, sgd_thrown, sgd_old, Bool.and_eq_true, beq_iff_eq] at hv hs
    have e1 := (iha hv.1 hs.2.2.1).2.1 hs.1
    have e2 := (ihb hv.2 hs.2.2.2).2.1 hs.2.1
    exact ⟨rfl, fun _ => by simp only [ssubE_arg, ssubE_int, ssubE_long, ssubE_null, ssubE_index, ssubE_field, ssubE_static, ssubE_string, ssubE_mirror, ssubE_length, ssubE_elem, ssubE_add, ssubE_sub, ssubE_mul, ssubE_div, ssubE_rem, ssubE_op2, ssubE_op1, ssubE_sum, ssubE_result, ssubE_thrown, ssubE_old, sd, e1, e2], fun q => absurd q (by show ¬ (0 = 1); decide)⟩
  | sub a b iha ihb =>
    intro hv hs
    simp only [vlt_arg, vlt_int, vlt_long, vlt_null, vlt_index, vlt_field, vlt_static, vlt_string, vlt_mirror, vlt_length, vlt_elem, vlt_add, vlt_sub, vlt_mul, vlt_div, vlt_rem, vlt_op2, vlt_op1, vlt_sum, vlt_result, vlt_thrown, vlt_old, sgd_arg, sgd_int, sgd_long, sgd_null, sgd_index, sgd_field, sgd_static, sgd_string, sgd_mirror, sgd_length, sgd_elem, sgd_add, sgd_sub, sgd_mul, sgd_div, sgd_rem, sgd_op2, sgd_op1, sgd_sum, sgd_result, sgd_thrown, sgd_old, Bool.and_eq_true, beq_iff_eq] at hv hs
    have e1 := (iha hv.1 hs.2.2.1).2.1 hs.1
    have e2 := (ihb hv.2 hs.2.2.2).2.1 hs.2.1
    exact ⟨rfl, fun _ => by simp only [ssubE_arg, ssubE_int, ssubE_long, ssubE_null, ssubE_index, ssubE_field, ssubE_static, ssubE_string, ssubE_mirror, ssubE_length, ssubE_elem, ssubE_add, ssubE_sub, ssubE_mul, ssubE_div, ssubE_rem, ssubE_op2, ssubE_op1, ssubE_sum, ssubE_result, ssubE_thrown, ssubE_old, sd, e1, e2], fun q => absurd q (by show ¬ (0 = 1); decide)⟩
  | mul a b iha ihb =>
    intro hv hs
    simp only [vlt_arg, vlt_int, vlt_long, vlt_null, vlt_index, vlt_field, vlt_static, vlt_string, vlt_mirror, vlt_length, vlt_elem, vlt_add, vlt_sub, vlt_mul, vlt_div, vlt_rem, vlt_op2, vlt_op1, vlt_sum, vlt_result, vlt_thrown, vlt_old, sgd_arg, sgd_int, sgd_long, sgd_null, sgd_index, sgd_field, sgd_static, sgd_string, sgd_mirror, sgd_length, sgd_elem, sgd_add, sgd_sub, sgd_mul, sgd_div, sgd_rem, sgd_op2, sgd_op1, sgd_sum, sgd_result, sgd_thrown, sgd_old, Bool.and_eq_true, beq_iff_eq] at hv hs
    have e1 := (iha hv.1 hs.2.2.1).2.1 hs.1
    have e2 := (ihb hv.2 hs.2.2.2).2.1 hs.2.1
    exact ⟨rfl, fun _ => by simp only [ssubE_arg, ssubE_int, ssubE_long, ssubE_null, ssubE_index, ssubE_field, ssubE_static, ssubE_string, ssubE_mirror, ssubE_length, ssubE_elem, ssubE_add, ssubE_sub, ssubE_mul, ssubE_div, ssubE_rem, ssubE_op2, ssubE_op1, ssubE_sum, ssubE_result, ssubE_thrown, ssubE_old, sd, e1, e2], fun q => absurd q (by show ¬ (0 = 1); decide)⟩
  | div a b iha ihb =>
    intro hv hs
    simp only [vlt_arg, vlt_int, vlt_long, vlt_null, vlt_index, vlt_field, vlt_static, vlt_string, vlt_mirror, vlt_length, vlt_elem, vlt_add, vlt_sub, vlt_mul, vlt_div, vlt_rem, vlt_op2, vlt_op1, vlt_sum, vlt_result, vlt_thrown, vlt_old, sgd_arg, sgd_int, sgd_long, sgd_null, sgd_index, sgd_field, sgd_static, sgd_string, sgd_mirror, sgd_length, sgd_elem, sgd_add, sgd_sub, sgd_mul, sgd_div, sgd_rem, sgd_op2, sgd_op1, sgd_sum, sgd_result, sgd_thrown, sgd_old, Bool.and_eq_true, beq_iff_eq] at hv hs
    have e1 := (iha hv.1 hs.2.2.1).2.1 hs.1
    have e2 := (ihb hv.2 hs.2.2.2).2.1 hs.2.1
    exact ⟨rfl, fun _ => by simp only [ssubE_arg, ssubE_int, ssubE_long, ssubE_null, ssubE_index, ssubE_field, ssubE_static, ssubE_string, ssubE_mirror, ssubE_length, ssubE_elem, ssubE_add, ssubE_sub, ssubE_mul, ssubE_div, ssubE_rem, ssubE_op2, ssubE_op1, ssubE_sum, ssubE_result, ssubE_thrown, ssubE_old, sd, e1, e2], fun q => absurd q (by show ¬ (0 = 1); decide)⟩
  | rem a b iha ihb =>
    intro hv hs
    simp only [vlt_arg, vlt_int, vlt_long, vlt_null, vlt_index, vlt_field, vlt_static, vlt_string, vlt_mirror, vlt_length, vlt_elem, vlt_add, vlt_sub, vlt_mul, vlt_div, vlt_rem, vlt_op2, vlt_op1, vlt_sum, vlt_result, vlt_thrown, vlt_old, sgd_arg, sgd_int, sgd_long, sgd_null, sgd_index, sgd_field, sgd_static, sgd_string, sgd_mirror, sgd_length, sgd_elem, sgd_add, sgd_sub, sgd_mul, sgd_div, sgd_rem, sgd_op2, sgd_op1, sgd_sum, sgd_result, sgd_thrown, sgd_old, Bool.and_eq_true, beq_iff_eq] at hv hs
    have e1 := (iha hv.1 hs.2.2.1).2.1 hs.1
    have e2 := (ihb hv.2 hs.2.2.2).2.1 hs.2.1
    exact ⟨rfl, fun _ => by simp only [ssubE_arg, ssubE_int, ssubE_long, ssubE_null, ssubE_index, ssubE_field, ssubE_static, ssubE_string, ssubE_mirror, ssubE_length, ssubE_elem, ssubE_add, ssubE_sub, ssubE_mul, ssubE_div, ssubE_rem, ssubE_op2, ssubE_op1, ssubE_sum, ssubE_result, ssubE_thrown, ssubE_old, sd, e1, e2], fun q => absurd q (by show ¬ (0 = 1); decide)⟩
  | op2 o a b iha ihb =>
    intro hv hs
    simp only [vlt_arg, vlt_int, vlt_long, vlt_null, vlt_index, vlt_field, vlt_static, vlt_string, vlt_mirror, vlt_length, vlt_elem, vlt_add, vlt_sub, vlt_mul, vlt_div, vlt_rem, vlt_op2, vlt_op1, vlt_sum, vlt_result, vlt_thrown, vlt_old, sgd_arg, sgd_int, sgd_long, sgd_null, sgd_index, sgd_field, sgd_static, sgd_string, sgd_mirror, sgd_length, sgd_elem, sgd_add, sgd_sub, sgd_mul, sgd_div, sgd_rem, sgd_op2, sgd_op1, sgd_sum, sgd_result, sgd_thrown, sgd_old, Bool.and_eq_true, beq_iff_eq] at hv hs
    obtain ⟨-, a0, a1⟩ := iha hv.1 hs.2.2.1
    obtain ⟨-, b0, b1⟩ := ihb hv.2 hs.2.2.2
    have key := s2_eqv (o := o) (p := sd X ρ'' (ssubE σ a)) (p' := sd X ρ' a) (q := sd X ρ'' (ssubE σ b)) (q' := sd X ρ' b) (fun q => a0 (hs.1.trans q)) (fun q => a1 (hs.1.trans q)) (fun q => b0 (hs.2.1.trans q)) (fun q => b1 (hs.2.1.trans q))
    exact ⟨rfl, key.1, key.2⟩
  | op1 o a iha =>
    intro hv hs
    simp only [vlt_arg, vlt_int, vlt_long, vlt_null, vlt_index, vlt_field, vlt_static, vlt_string, vlt_mirror, vlt_length, vlt_elem, vlt_add, vlt_sub, vlt_mul, vlt_div, vlt_rem, vlt_op2, vlt_op1, vlt_sum, vlt_result, vlt_thrown, vlt_old, sgd_arg, sgd_int, sgd_long, sgd_null, sgd_index, sgd_field, sgd_static, sgd_string, sgd_mirror, sgd_length, sgd_elem, sgd_add, sgd_sub, sgd_mul, sgd_div, sgd_rem, sgd_op2, sgd_op1, sgd_sum, sgd_result, sgd_thrown, sgd_old, Bool.and_eq_true, beq_iff_eq] at hv hs
    obtain ⟨-, a0, a1⟩ := iha hv hs.2
    have key := s1_eqv (o := o) (p := sd X ρ'' (ssubE σ a)) (p' := sd X ρ' a) (fun q => a0 (hs.1.trans q)) (fun q => a1 (hs.1.trans q))
    exact ⟨rfl, key.1, key.2⟩
  | elem t i iht ihi =>
    intro hv hs
    cases t with
    | arg a =>
      cases i with
      | int k =>
        have ha : a < n := by
          have hv : (Nat.blt a n && true) = true := hv
          simp only [Bool.and_true] at hv
          exact Nat.blt_eq.mp hv
        have h2 := h.2 a ha k.toNatClampNeg
        unfold aval at h2
        have hb : bden X ρ' (.arg a) k.toNatClampNeg = sv X ρ' (.elem (.arg a) (.int k)) := by
          unfold bden
          dsimp only
          by_cases h1 : a % 2 = 1
          · rw [if_pos h1, sv_long (t := .elem (.arg a) (.int k)) h1]; rfl
          · rw [if_neg h1, sv_int (t := .elem (.arg a) (.int k)) (by show a % 2 = 0; omega)]; rfl
        have fin : ∀ t' : sT, sk t' = a % 2 → sv X ρ'' t' = sv X ρ' (.elem (.arg a) (.int k)) → seqv X ρ'' ρ' t' (.elem (.arg a) (.int k)) := by
          intro t' hk' hv'
          refine ⟨hk', fun q => ?_, fun q => ?_⟩
          · have q : a % 2 = 0 := q
            rw [sv_int (hk'.trans q), sv_int (t := .elem (.arg a) (.int k)) q] at hv'
            injection hv'
          · have q : a % 2 = 1 := q
            rw [sv_long (hk'.trans q), sv_long (t := .elem (.arg a) (.int k)) q] at hv'
            injection hv'
        show seqv X ρ'' ρ' (match afnd σ a with
          | none => .elem (.arg a) (.int k)
          | some p => (selE p.1 k a p.2).getD .null) _
        have hs : (match afnd σ a with
          | none => true
          | some p => (selE p.1 k a p.2).isSome) = true := hs
        cases hp : afnd σ a with
        | none =>
          rw [hp] at h2
          refine fin _ rfl ?_
          rw [← hb, ← h2]
          show sv X ρ'' (.elem (.arg a) (.int k)) = bden X ρ'' (.arg a) k.toNatClampNeg
          unfold bden
          dsimp only
          by_cases h1 : a % 2 = 1
          · rw [if_pos h1, sv_long (t := .elem (.arg a) (.int k)) h1]; rfl
          · rw [if_neg h1, sv_int (t := .elem (.arg a) (.int k)) (by show a % 2 = 0; omega)]; rfl
        | some p =>
          rw [hp] at h2 hs
          dsimp only at hs ⊢
          cases he : selE p.1 k a p.2 with
          | none => rw [he] at hs; cases hs
          | some t' =>
            obtain ⟨k1, k2⟩ := selE_ok (X := X) (ρ := ρ'') p.2 he
            refine fin t' k1 ?_
            rw [← k2, ← hb]
            exact h2
      | _ => cases hs
    | _ => cases hs
  | _ => intro _ hs; cases hs
/-- a condition's value, by the kinds of its terms -/
theorem sc_eqv {ρ1 ρ2 : sR} {k : Nat} {a b a' b' : sT} (ha : seqv X ρ1 ρ2 a' a) (hb : seqv X ρ1 ρ2 b' b) (hk : skok (k, a, b) = true) : sc X ρ1 (k, a', b') = sc X ρ2 (k, a, b) := by
  have h9 := skok_k hk
  unfold sc
  dsimp only
  split
  · have : sk a = 0 ∧ sk b = 0 := by simpa [skok] using hk
    rw [ha.2.1 this.1, hb.2.1 this.2]
  · have : sk a = 0 ∧ sk b = 0 := by simpa [skok] using hk
    rw [ha.2.1 this.1, hb.2.1 this.2]
  · have : sk a = 1 ∧ sk b = 1 := by simpa [skok] using hk
    rw [ha.2.2 this.1, hb.2.2 this.2]
  · have : sk a = 1 ∧ sk b = 1 := by simpa [skok] using hk
    rw [ha.2.2 this.1, hb.2.2 this.2]
  · have h9 : _ < 100 := h9
    simp only [ble100 h9, Bool.false_and]
theorem seqv_n {ρ1 ρ2 : sR} {a b : sT} (h : seqv X ρ1 ρ2 a b) (hk : sk b = 0 ∨ sk b = 1) : sn X ρ1 a = sn X ρ2 b := by
  unfold sn
  rw [h.1]
  rcases hk with hk | hk
  · rw [hk, if_neg (by decide), if_neg (by decide), h.2.1 hk]
  · rw [hk, if_pos rfl, if_pos rfl, h.2.2 hk]
/-- every number of the pattern shows in what it is set to -/
theorem REP_rsub (hM : sMok K σ = true) : REP X n (rsub X ρ σ) ρ σ := by
  constructor
  · intro i _
    show sd X ρ (match sfnd σ i with
      | some u => u
      | none => .arg i) = _
    cases hf : sfnd σ i with
    | none => simp only [rsub, hf]; rfl
    | some u => simp only [rsub, hf]
  · intro a _ j
    unfold aval
    cases hp : afnd σ a with
    | none => simp only [bden, rsub, hp]
    | some p =>
      obtain ⟨m1, m2, m3⟩ := sMok_arr hM hp
      dsimp only
      rw [aden_kind (X := X) (ρ := ρ) (j := j) m2 p.2 m3]
      simp only [bden, rsub, hp]
end CON
