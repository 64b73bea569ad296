/-! ===== Arrays.fill ===== -/
section FILL
variable {X : pX} {Ft : Nat → Nat → FieldType} {dfl : Nat → Nat × List Value} {Mt : List pM}
noncomputable def flC : List pOp := [(0, .iconst 0, 1, 0, 0, 0), (1, .istore_n 2, 1, 0, 0, 0), (2, .aload_n 0, 1, 0, 0, 0), (3, .arraylength, 1, 0, 0, 0), (4, .istore_n 3, 1, 0, 0, 0), (5, .iload_n 2, 1, 0, 0, 0), (6, .iload_n 3, 1, 0, 0, 0), (7, .if_icmp .ge 13, 3, 0, 0, 0), (10, .aload_n 0, 1, 0, 0, 0), (11, .iload_n 2, 1, 0, 0, 0), (12, .iload_n 1, 1, 0, 0, 0), (13, .iastore, 1, 0, 0, 0), (14, .iinc 2 1, 3, 0, 0, 0), (17, .goto (-12), 3, 0, 0, 0), (20, .return_, 1, 0, 0, 0)]
noncomputable def flA (n : Nat) (f : Nat → Value) : Option pE := some (.inl (0, n, f))
theorem RUN.stp {d nL : Nat} {full : List pOp} {ret : Option FieldType} {x x' : pC} {r : pRes} (hf : pm_fin ret x = none) (h : ∀ fuel, pm_step X Ft dfl (pm_callD X Ft dfl Mt fuel d) nL full x = some x') (hr : RUN X Ft dfl Mt d nL full ret x' r) : RUN X Ft dfl Mt d nL full ret x r := RUN.step hf ⟨0, fun fuel _ => h fuel⟩ hr
theorem fl_hop {call : pCall} {nL : Nat} {full tail cur : List pOp} {pc len r1 r2 : Nat} {ins : Instr} {r3 : Int} {lv : pL} {st st' : List Value} {G G' : pH} {sl sl' : Nat} (h1 : pm_lop nL ins lv st = none) (h2 : pm_hop X Ft dfl ins r1 r2 r3 st G sl = some (st', G', sl')) (h3 : pm_to full tail pc len none = some cur) : pm_step X Ft dfl call nL full ((pc, ins, len, r1, r2, r3) :: tail, lv, st, G, sl) = some (cur, lv, st', G', sl') := by
  simp only [pm_step, h1, h2, h3]
theorem fl_set (G : pH) (k : Nat) (a b : Option pE) : (G.set k a).set k b = G.set k b := by rw [List.set_set]
theorem fl_n {n : Nat} (hn : n < 67000) : (Int32.ofNat n).toInt = n := Int32.toInt_ofNat_of_lt (by omega)
theorem fl_i {i : Int32} (hi : ¬ i < 0) : i.toInt = i.toNatClampNeg := by
  have h1 := Int32.le_iff_toInt_le.mp (Int32.not_lt.mp hi)
  simp at h1
  rw [s_nat]
  omega
theorem fl_loop {d k n : Nat} {v : Int32} {sl : Nat} (hn : n < 67000) : ∀ (m : Nat) (i : Int32) (f : Nat → Value) (G : pH), k < G.length → ¬ i < 0 → i.toNatClampNeg + m = n →
    ∃ g : Nat → Value, (∀ j, j < n → g j = if i.toNatClampNeg ≤ j then .int v else f j) ∧ RUN X Ft dfl Mt d 4 flC none (flC.drop 5, [(2, .int i), (3, .int (Int32.ofNat n)), (0, .ref k), (1, .int v)], [], G.set k (flA n f), sl) (.inl none, G.set k (flA n g), sl)
  | 0, i, f, G, hk, hi, hm => by
    refine ⟨f, fun j hj => by rw [if_neg (by omega)], ?_⟩
    refine RUN.stp rfl (fun _ => rfl) ?_
    refine RUN.stp rfl (fun _ => rfl) ?_
    have hc : pm_c2 .ge i (Int32.ofNat n) = true := by
      apply decide_eq_true
      apply Int32.le_iff_toInt_le.mpr
      rw [fl_n hn]
      have := fl_i hi
      omega
    refine RUN.stp (x' := (flC.drop 14, [(2, .int i), (3, .int (Int32.ofNat n)), (0, .ref k), (1, .int v)], [], G.set k (flA n f), sl)) rfl (fun _ => ?_) ?_
    · show (match pm_to flC _ 7 3 (pm_br (pm_c2 .ge i (Int32.ofNat n)) 13) with
        | some cur => some (cur, _, _, _, _)
        | none => none) = _
      rw [hc]
      rfl
    · exact RUN.fin (v := none) rfl
  | m + 1, i, f, G, hk, hi, hm => by
    have h0 := fl_i hi
    have h3 : (i + 1).toInt = i.toInt + 1 := s_add (y := 1) (by show _ ≤ i.toInt + 1; omega) (by show i.toInt + 1 ≤ _; omega)
    have h1 : (i + 1).toNatClampNeg = i.toNatClampNeg + 1 := by rw [s_nat, h3]; omega
    have h2 : ¬ i + 1 < 0 := s_nn (by rw [h3]; omega)
    obtain ⟨g, hg, hr⟩ := fl_loop hn m (i + 1) (pm_upd f i.toNatClampNeg (.int v)) G hk h2 (by omega)
    refine ⟨g, fun j hj => ?_, ?_⟩
    · rw [hg j hj, h1]
      unfold pm_upd
      by_cases c1 : i.toNatClampNeg + 1 ≤ j
      · rw [if_pos c1, if_pos (by omega)]
      · rw [if_neg c1]
        by_cases c2 : j = i.toNatClampNeg
        · subst c2
          simp
        · rw [if_neg c2, if_neg (by omega)]
    · refine RUN.stp rfl (fun _ => rfl) ?_
      refine RUN.stp rfl (fun _ => rfl) ?_
      have hc : pm_c2 .ge i (Int32.ofNat n) = false := by
        apply decide_eq_false
        intro h9
        have h9 := Int32.le_iff_toInt_le.mp h9
        rw [fl_n hn] at h9
        omega
      refine RUN.stp (x' := (flC.drop 8, [(2, .int i), (3, .int (Int32.ofNat n)), (0, .ref k), (1, .int v)], [], G.set k (flA n f), sl)) rfl (fun _ => ?_) ?_
      · show (match pm_to flC _ 7 3 (pm_br (pm_c2 .ge i (Int32.ofNat n)) 13) with
          | some cur => some (cur, _, _, _, _)
          | none => none) = _
        rw [hc]
        rfl
      refine RUN.stp rfl (fun _ => rfl) ?_
      refine RUN.stp rfl (fun _ => rfl) ?_
      refine RUN.stp rfl (fun _ => rfl) ?_
      refine RUN.stp (x' := (flC.drop 12, [(2, .int i), (3, .int (Int32.ofNat n)), (0, .ref k), (1, .int v)], [], G.set k (flA n (pm_upd f i.toNatClampNeg (.int v))), sl)) rfl (fun _ => ?_) ?_
      · have e1 : (G.set k (flA n f))[k]? = some (flA n f) := List.getElem?_set_self hk
        have e2 : pm_iast (G.set k (flA n f)) [.int v, .int i, .ref k] = some ([], G.set k (flA n (pm_upd f i.toNatClampNeg (.int v)))) := by
          simp only [pm_iast, pm_ast]
          rw [e1]
          show (if 0 = 0 ∧ pm_in i n = true then some ([], (G.set k (flA n f)).set k (flA n (pm_upd f i.toNatClampNeg (.int v)))) else none) = _
          rw [if_pos ⟨rfl, by
            unfold pm_in
            rw [decide_eq_false hi, decide_eq_true (by omega)]
            rfl⟩, fl_set]
        exact fl_hop rfl (by simp only [pm_hop, e2]) rfl
      refine RUN.stp rfl (fun _ => rfl) ?_
      refine RUN.stp rfl (fun _ => rfl) ?_
      exact hr
theorem fl_call {d y k n : Nat} {v : Int32} {f : Nat → Value} {G : pH} {sl : Nat} {M : pM} (hM : Mt[y]? = some M) (h4 : M.2.2.1 = 4) (hr : M.2.2.2.1 = none) (hC : M.2.2.2.2 = flC) (hn : n < 67000) (hk : G[k]? = some (flA n f)) : ∃ g : Nat → Value, (∀ j, j < n → g j = .int v) ∧ CALL X Ft dfl Mt (d + 1) y [.ref k, .int v] G sl (.inl none, G.set k (flA n g), sl) := by
  have hkl : k < G.length := (List.getElem?_eq_some_iff.mp hk).1
  obtain ⟨g, hg, hrun⟩ := fl_loop (X := X) (Ft := Ft) (dfl := dfl) (Mt := Mt) (d := d) (k := k) (v := v) (sl := sl) hn n 0 f G hkl (by decide) (by show 0 + n = n; omega)
  refine ⟨g, fun j hj => by rw [hg j hj]; exact if_pos (show 0 ≤ j from Nat.zero_le _), ?_⟩
  have e0 : G.set k (flA n f) = G := by
    apply List.ext_getElem?
    intro j
    by_cases hj : k = j
    · subst hj; rw [List.getElem?_set_self hkl, hk]
    · rw [List.getElem?_set_ne hj]
  rw [e0] at hrun
  refine CALL.of hM (o := (0, .iconst 0, 1, 0, 0, 0)) (t := flC.drop 1) hC rfl (by rw [h4]; show 2 ≤ 4; decide) (fun E hE => nomatch hE) ?_
  rw [h4, hr, hC]
  refine RUN.stp rfl (fun _ => rfl) ?_
  refine RUN.stp rfl (fun _ => rfl) ?_
  refine RUN.stp rfl (fun _ => rfl) ?_
  refine RUN.stp (x' := (flC.drop 4, [(2, .int 0), (0, .ref k), (1, .int v)], [.int (Int32.ofNat n)], G, sl)) rfl (fun _ => ?_) ?_
  · have e2 : pm_alen X G [.ref k] = some [.int (Int32.ofNat n)] := by
      simp only [pm_alen]
      rw [hk]
      rfl
    exact fl_hop rfl (by simp only [pm_hop, e2]) rfl
  refine RUN.stp rfl (fun _ => rfl) ?_
  refine RUN.mono ?_ ?_ hrun
  · intro q hq
    simp only [List.mem_cons, List.not_mem_nil, or_false] at hq
    show q ∈ [(3, Value.int (Int32.ofNat n)), (2, .int 0), (0, .ref k), (1, .int v)]
    simp only [List.mem_cons, List.not_mem_nil, or_false]
    rcases hq with h | h | h | h <;> simp [h]
  · show ([3, 2, 0, 1] : List Nat).Nodup
    decide
theorem aden_fill {ρ : sR} {b : sT} {v : Int32} {j : Nat} : ∀ (m s : Nat), s + m ≤ 100 → s ≤ j → j < s + m → aden X ρ b ((List.range' s m).map (fun i => (Jvm.Term.int (Int32.ofNat i), Jvm.Term.int v))) j = .int v
  | 0, s, _, _, _ => by omega
  | m + 1, s, h1, h2, h3 => by
    rw [List.range'_succ, List.map_cons]
    have e : (sd X ρ (Jvm.Term.int (Int32.ofNat s))).1.toNatClampNeg = s := by
      show (Int32.ofNat s).toNatClampNeg = s
      rw [s_nat, Int32.toInt_ofNat_small (by omega)]
      omega
    unfold aden
    dsimp only
    rw [e]
    by_cases h : s = j
    · rw [if_pos h]
      rfl
    · rw [if_neg h]
      exact aden_fill m (s + 1) (by omega) (by omega) (by omega)
/-- what a call of it makes of the cells: the symbolic form -/
noncomputable def sfill (yf : Nat) (y : Nat) (as : List sT) (G : sH) : Option sH := if y = yf then match as with
    | [.index k, .int v] => match hget G k with
      | some (.inl a) => if a.1 = 0 ∧ a.2.1 < 67000 then some (hset G k (some (.inl (if a.2.1 ≤ 16 then (0, a.2.1, a.2.2.1, (List.range a.2.1).map (fun i => (.int (Int32.ofNat i), .int v))) else (0, a.2.1, .int v, []))))) else none
      | _ => none
    | _ => none
  else none
theorem sfill_ok {ρ : sR} {yf y : Nat} {as : List sT} {sG sG' : sH} {G : pH} {d sl : Nat} {M : pM} (hM : Mt[yf]? = some M) (h4 : M.2.2.1 = 4) (hr : M.2.2.2.1 = none) (hC : M.2.2.2.2 = flC) (hR : HR X ρ sG G) (h : sfill yf y as sG = some sG') : ∃ G' : pH, CALL X Ft dfl Mt (d + 1) y (dS X ρ as) G sl (.inl none, G', sl) ∧ HR X ρ sG' G' := by
  unfold sfill at h
  split at h
  · next hy =>
    subst hy
    split at h
    · next k v =>
      split at h
      · next a ha =>
        split at h
        · next hc =>
          cases h
          obtain ⟨f, h1, -, -⟩ := hR.arr ha
          rw [hc.1] at h1
          obtain ⟨g, hg, hcall⟩ := fl_call (X := X) (Ft := Ft) (dfl := dfl) (d := d) (v := v) (sl := sl) hM h4 hr hC hc.2 h1
          refine ⟨_, hcall, hR.set ((List.getElem?_eq_some_iff.mp h1).1) (hget_lt ha) ?_⟩
          split
          · next h16 =>
            refine ⟨rfl, rfl, fun j hj => ?_, fun u hu => ?_⟩
            · have hj : j < a.2.1 := hj
              show g j = aden X ρ a.2.2.1 ((List.range a.2.1).map (fun i => (Jvm.Term.int (Int32.ofNat i), Jvm.Term.int v))) j
              rw [hg j hj, List.range_eq_range', aden_fill a.2.1 0 (by omega) (by omega) (by omega)]
            · obtain ⟨i, hi, rfl⟩ := List.mem_map.mp hu
              have hi := List.mem_range.mp hi
              show ¬ Int32.ofNat i < 0
              refine s_nn ?_
              rw [Int32.toInt_ofNat_small (by omega)]
              omega
          · exact ⟨rfl, rfl, fun j hj => hg j hj, fun u hu => by cases hu⟩
        · cases h
      · cases h
    · cases h
  · cases h
end FILL
