/-! ===== whole numbers of a million: the class's way and the model's ===== -/
noncomputable def fdv (x : Int64) : Int64 := x / 1000000 - ((lg_cmp (x / 1000000 * 1000000) x + 1) / 2).toInt64
theorem fdv_gt {x : Int64} (h : x < x / 1000000 * 1000000) : fdv x = x / 1000000 - 1 := by
  unfold fdv lg_cmp
  rw [if_pos h]
  rfl
theorem fdv_le {x : Int64} (h : ¬ x < x / 1000000 * 1000000) : fdv x = x / 1000000 := by
  unfold fdv lg_cmp
  rw [if_neg h]
  split
  · show x / 1000000 - 0 = _
    rw [Int64.sub_zero]
  · show x / 1000000 - 0 = _
    rw [Int64.sub_zero]
theorem fd_t (z : Int) : (0 ≤ z ∧ z.tdiv 1000000 = z / 1000000) ∨ (z < 0 ∧ z.tdiv 1000000 = -((-z) / 1000000)) := by
  by_cases h : 0 ≤ z
  · exact Or.inl ⟨h, Int.tdiv_eq_ediv_of_nonneg h⟩
  · refine Or.inr ⟨by omega, ?_⟩
    have h1 : (-z).tdiv 1000000 = (-z) / 1000000 := Int.tdiv_eq_ediv_of_nonneg (by omega)
    rw [← h1, Int.neg_tdiv, Int.neg_neg]
theorem fd_q (x : Int64) : (x / 1000000 * 1000000).toInt = x.toInt.tdiv 1000000 * 1000000 := by
  have h1 := Int64.le_toInt x
  have h2 := Int64.toInt_lt x
  have h3 := fd_t x.toInt
  have e1 : (x / 1000000).toInt = x.toInt.tdiv 1000000 := by
    rw [Int64.toInt_div]
    show (x.toInt.tdiv 1000000).bmod (2 ^ 64) = _
    apply Int.bmod_eq_of_le <;> omega
  rw [Int64.toInt_mul, e1]
  show (x.toInt.tdiv 1000000 * 1000000).bmod (2 ^ 64) = _
  apply Int.bmod_eq_of_le <;> omega
theorem fd_neg {x : Int64} (h : x < 0) : ¬ x / 1000000 * 1000000 < x := fun h9 => by
  have h1 := Int64.lt_iff_toInt_lt.mp h
  have h2 := Int64.lt_iff_toInt_lt.mp h9
  rw [fd_q] at h2
  have h3 := fd_t x.toInt
  simp at h1
  omega
theorem fd_pos {x : Int64} (h : ¬ x < 0) : ¬ x < x / 1000000 * 1000000 := fun h9 => by
  have h1 := Int64.le_iff_toInt_le.mp (Int64.not_lt.mp h)
  have h2 := Int64.lt_iff_toInt_lt.mp h9
  rw [fd_q] at h2
  have h3 := fd_t x.toInt
  simp at h1
  omega
theorem fd_xor (x : Int64) : x ^^^ 1000000 < 0 ↔ x < 0 := by
  have e : ∀ y : Int64, y < 0 ↔ y.toBitVec.msb = true := fun y => by
    rw [Int64.lt_iff_toInt_lt, BitVec.msb_eq_toInt]
    simp
  rw [e, e, Int64.toBitVec_xor, BitVec.msb_xor]
  have : (1000000 : Int64).toBitVec.msb = false := by decide
  rw [this, Bool.xor_false]
section FDIV
variable {X : pX} {Ft : Nat → Nat → FieldType} {dfl : Nat → Nat × List Value} {Mt : List pM}
noncomputable def whC (i : Nat) : List pOp := [(0, .lload_n 0, 1, 0, 0, 0), (1, .ldc2_w i, 3, 0, 0, 1000000), (4, .ldiv, 1, 0, 0, 0), (5, .lstore_n 2, 1, 0, 0, 0), (6, .lload_n 2, 1, 0, 0, 0), (7, .ldc2_w i, 3, 0, 0, 1000000), (10, .lmul, 1, 0, 0, 0), (11, .lload_n 0, 1, 0, 0, 0), (12, .lcmp, 1, 0, 0, 0), (13, .ifCond .le 9, 3, 0, 0, 0), (16, .lload_n 2, 1, 0, 0, 0), (17, .lconst 1, 1, 0, 0, 0), (18, .lsub, 1, 0, 0, 0), (19, .goto 4, 3, 0, 0, 0), (22, .lload_n 2, 1, 0, 0, 0), (23, .lreturn, 1, 0, 0, 0)]
noncomputable def fdC : List pOp := [(0, .lload_n 0, 1, 0, 0, 0), (1, .lload_n 2, 1, 0, 0, 0), (2, .ldiv, 1, 0, 0, 0), (3, .lstore 4, 2, 0, 0, 0), (5, .lload_n 0, 1, 0, 0, 0), (6, .lload_n 2, 1, 0, 0, 0), (7, .lxor, 1, 0, 0, 0), (8, .lconst 0, 1, 0, 0, 0), (9, .lcmp, 1, 0, 0, 0), (10, .ifCond .ge 17, 3, 0, 0, 0), (13, .lload 4, 2, 0, 0, 0), (15, .lload_n 2, 1, 0, 0, 0), (16, .lmul, 1, 0, 0, 0), (17, .lload_n 0, 1, 0, 0, 0), (18, .lcmp, 1, 0, 0, 0), (19, .ifCond .eq 8, 3, 0, 0, 0), (22, .lload 4, 2, 0, 0, 0), (24, .lconst 1, 1, 0, 0, 0), (25, .lsub, 1, 0, 0, 0), (26, .lreturn, 1, 0, 0, 0), (27, .lload 4, 2, 0, 0, 0), (29, .lreturn, 1, 0, 0, 0)]
theorem fd_if {call : pCall} {nL : Nat} {full tail cur : List pOp} {pc len r1 r2 : Nat} {cnd : Jvm.ClassFile.Cond} {off r3 : Int} {lv : pL} {st : List Value} {x : Int32} {G : pH} {sl : Nat} {b : Bool} (h1 : pm_c1 cnd x = b) (h3 : pm_to full tail pc len (pm_br b off) = some cur) : pm_step X Ft dfl call nL full ((pc, .ifCond cnd off, len, r1, r2, r3) :: tail, lv, .int x :: st, G, sl) = some (cur, lv, st, G, sl) := by
  simp only [pm_step, pm_lop, pm_if, h1, h3]
theorem wh_call {d y i : Nat} {x : Int64} {G : pH} {sl : Nat} {M : pM} (hM : Mt[y]? = some M) (h4 : M.2.2.1 = 4) (hr : M.2.2.2.1 = some .long) (hC : M.2.2.2.2 = whC i) : CALL X Ft dfl Mt (d + 1) y [.long x] G sl (.inl (some (.long (fdv x))), G, sl) := by
  refine CALL.of hM (o := (0, .lload_n 0, 1, 0, 0, 0)) (t := (whC i).drop 1) hC rfl (by rw [h4]; show 2 ≤ 4; decide) (fun E hE => nomatch hE) ?_
  rw [h4, hr, hC]
  refine RUN.stp rfl (fun _ => rfl) ?_
  refine RUN.stp rfl (fun _ => rfl) ?_
  refine RUN.stp (x' := ((whC i).drop 3, [(0, .long x)], [.long (x / 1000000)], G, sl)) rfl (fun _ => rfl) ?_
  refine RUN.stp rfl (fun _ => rfl) ?_
  refine RUN.stp rfl (fun _ => rfl) ?_
  refine RUN.stp rfl (fun _ => rfl) ?_
  refine RUN.stp rfl (fun _ => rfl) ?_
  refine RUN.stp rfl (fun _ => rfl) ?_
  refine RUN.stp (x' := ((whC i).drop 9, [(2, .long (x / 1000000)), (0, .long x)], [.int (lg_cmp (x / 1000000 * 1000000) x)], G, sl)) rfl (fun _ => rfl) ?_
  by_cases h : x < x / 1000000 * 1000000
  · have hc : pm_c1 .le (lg_cmp (x / 1000000 * 1000000) x) = false := by
      rw [pm_l2_ok]
      exact decide_eq_false (Int64.not_le.mpr h)
    refine RUN.stp (x' := ((whC i).drop 10, [(2, .long (x / 1000000)), (0, .long x)], [], G, sl)) rfl (fun _ => fd_if hc rfl) ?_
    rw [fdv_gt h]
    refine RUN.stp rfl (fun _ => rfl) ?_
    refine RUN.stp rfl (fun _ => rfl) ?_
    refine RUN.stp rfl (fun _ => rfl) ?_
    refine RUN.stp rfl (fun _ => rfl) ?_
    exact RUN.fin (v := some (.long (x / 1000000 - 1))) rfl
  · have hc : pm_c1 .le (lg_cmp (x / 1000000 * 1000000) x) = true := by
      rw [pm_l2_ok]
      exact decide_eq_true (Int64.not_lt.mp h)
    refine RUN.stp (x' := ((whC i).drop 14, [(2, .long (x / 1000000)), (0, .long x)], [], G, sl)) rfl (fun _ => fd_if hc rfl) ?_
    rw [fdv_le h]
    refine RUN.stp rfl (fun _ => rfl) ?_
    exact RUN.fin (v := some (.long (x / 1000000))) rfl
theorem fd_call {d y : Nat} {x : Int64} {G : pH} {sl : Nat} {M : pM} (hM : Mt[y]? = some M) (h4 : M.2.2.1 = 6) (hr : M.2.2.2.1 = some .long) (hC : M.2.2.2.2 = fdC) : CALL X Ft dfl Mt (d + 1) y [.long x, .long 1000000] G sl (.inl (some (.long (fdv x))), G, sl) := by
  refine CALL.of hM (o := (0, .lload_n 0, 1, 0, 0, 0)) (t := fdC.drop 1) hC rfl (by rw [h4]; show 4 ≤ 6; decide) (fun E hE => nomatch hE) ?_
  rw [h4, hr, hC]
  refine RUN.stp rfl (fun _ => rfl) ?_
  refine RUN.stp rfl (fun _ => rfl) ?_
  refine RUN.stp (x' := (fdC.drop 3, [(0, .long x), (2, .long 1000000)], [.long (x / 1000000)], G, sl)) rfl (fun _ => rfl) ?_
  refine RUN.stp rfl (fun _ => rfl) ?_
  refine RUN.stp rfl (fun _ => rfl) ?_
  refine RUN.stp rfl (fun _ => rfl) ?_
  refine RUN.stp rfl (fun _ => rfl) ?_
  refine RUN.stp rfl (fun _ => rfl) ?_
  refine RUN.stp (x' := (fdC.drop 9, [(4, .long (x / 1000000)), (0, .long x), (2, .long 1000000)], [.int (lg_cmp (x ^^^ 1000000) 0)], G, sl)) rfl (fun _ => rfl) ?_
  by_cases h0 : x < 0
  · have hc : pm_c1 .ge (lg_cmp (x ^^^ 1000000) 0) = false := by
      rw [pm_l2_ok]
      exact decide_eq_false (Int64.not_le.mpr ((fd_xor x).mpr h0))
    refine RUN.stp (x' := (fdC.drop 10, [(4, .long (x / 1000000)), (0, .long x), (2, .long 1000000)], [], G, sl)) rfl (fun _ => fd_if hc rfl) ?_
    refine RUN.stp rfl (fun _ => rfl) ?_
    refine RUN.stp rfl (fun _ => rfl) ?_
    refine RUN.stp rfl (fun _ => rfl) ?_
    refine RUN.stp rfl (fun _ => rfl) ?_
    refine RUN.stp (x' := (fdC.drop 15, [(4, .long (x / 1000000)), (0, .long x), (2, .long 1000000)], [.int (lg_cmp (x / 1000000 * 1000000) x)], G, sl)) rfl (fun _ => rfl) ?_
    by_cases h : x / 1000000 * 1000000 = x
    · have hc : pm_c1 .eq (lg_cmp (x / 1000000 * 1000000) x) = true := by
        rw [pm_l2_ok]
        exact decide_eq_true h
      refine RUN.stp (x' := (fdC.drop 20, [(4, .long (x / 1000000)), (0, .long x), (2, .long 1000000)], [], G, sl)) rfl (fun _ => fd_if hc rfl) ?_
      rw [fdv_le (by rw [h]; exact Int64.lt_irrefl)]
      refine RUN.stp rfl (fun _ => rfl) ?_
      exact RUN.fin (v := some (.long (x / 1000000))) rfl
    · have hc : pm_c1 .eq (lg_cmp (x / 1000000 * 1000000) x) = false := by
        rw [pm_l2_ok]
        exact decide_eq_false h
      refine RUN.stp (x' := (fdC.drop 16, [(4, .long (x / 1000000)), (0, .long x), (2, .long 1000000)], [], G, sl)) rfl (fun _ => fd_if hc rfl) ?_
      have h9 : x < x / 1000000 * 1000000 := by
        have := fd_neg h0
        rcases Int64.lt_or_lt_of_ne h with h8 | h8
        · exact absurd h8 this
        · exact h8
      rw [fdv_gt h9]
      refine RUN.stp rfl (fun _ => rfl) ?_
      refine RUN.stp rfl (fun _ => rfl) ?_
      refine RUN.stp rfl (fun _ => rfl) ?_
      exact RUN.fin (v := some (.long (x / 1000000 - 1))) rfl
  · have hc : pm_c1 .ge (lg_cmp (x ^^^ 1000000) 0) = true := by
      rw [pm_l2_ok]
      exact decide_eq_true (Int64.not_lt.mp (fun h => h0 ((fd_xor x).mp h)))
    refine RUN.stp (x' := (fdC.drop 20, [(4, .long (x / 1000000)), (0, .long x), (2, .long 1000000)], [], G, sl)) rfl (fun _ => fd_if hc rfl) ?_
    rw [fdv_le (fd_pos h0)]
    refine RUN.stp rfl (fun _ => rfl) ?_
    exact RUN.fin (v := some (.long (x / 1000000))) rfl
/-- the symbolic form -/
noncomputable def fdT (x : sT) : sT := match sC1 x with
  | some p => .long (fdv p.2)
  | none => .op2 .lsub (.op2 .ldiv x (.long 1000000)) (.op1 .i2l (.div (.add (.op2 .lcmp (.op2 .lmul (.op2 .ldiv x (.long 1000000)) (.long 1000000)) x) (.int 1)) (.int 2)))
theorem fdT_v (ρ : sR) (x : sT) : sv X ρ (fdT x) = .long (fdv (sd X ρ x).2) := by
  unfold fdT
  split
  · next p hp => rw [sC1_ok hp]; rfl
  · rfl
/-- pure calls in one: number yw the model's whole, number yd Math.floorDiv -/
noncomputable def spur (yw yd y : Nat) (as : List sT) : Option sT := if y = yw then match as with
    | [x] => if sk x = 1 then some (fdT x) else none
    | _ => none
  else if y = yd then match as with
    | [x, .long m] => if sk x = 1 ∧ m = 1000000 then some (fdT x) else none
    | _ => none
  else none
theorem spur_ok {ρ : sR} {yw yd y i : Nat} {as : List sT} {t : sT} {G : pH} {d sl : Nat} {M M' : pM} (hM : Mt[yw]? = some M) (h4 : M.2.2.1 = 4) (hr : M.2.2.2.1 = some .long) (hC : M.2.2.2.2 = whC i) (hM' : Mt[yd]? = some M') (h4' : M'.2.2.1 = 6) (hr' : M'.2.2.2.1 = some .long) (hC' : M'.2.2.2.2 = fdC) (h : spur yw yd y as = some t) : CALL X Ft dfl Mt (d + 1) y (dS X ρ as) G sl (.inl (some (sv X ρ t)), G, sl) := by
  unfold spur at h
  split at h
  · next hy =>
    subst hy
    split at h
    · next x =>
      split at h
      · next hk =>
        cases h
        rw [fdT_v]
        show CALL X Ft dfl Mt (d + 1) y [sv X ρ x] G sl _
        rw [sv_long hk]
        exact wh_call hM h4 hr hC
      · cases h
    · cases h
  · split at h
    · next hy =>
      subst hy
      split at h
      · next x m =>
        split at h
        · next hk =>
          obtain ⟨hk, rfl⟩ := hk
          cases h
          rw [fdT_v]
          show CALL X Ft dfl Mt (d + 1) y [sv X ρ x, .long 1000000] G sl _
          rw [sv_long hk]
          exact fd_call hM' h4' hr' hC'
        · cases h
      · cases h
    · cases h
end FDIV
