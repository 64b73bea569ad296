/-! ===== sums of terms ===== -/
noncomputable def ladd (t : sT) (c : Int32) : List (sT × Int32) → List (sT × Int32)
  | [] => [(t, c)]
  | (u, d) :: r => if tqe u t = true then (u, d + c) :: r else (u, d) :: ladd t c r
noncomputable def lin : sT → Int32 → List (sT × Int32) × Int32 → List (sT × Int32) × Int32
  | .int v, c, s => (s.1, s.2 + c * v)
  | .add a b, c, s => lin b c (lin a c s)
  | .sub a b, c, s => lin b (-c) (lin a c s)
  | .mul a b, c, s => match sC1 b with
    | some v => lin a (c * v.1) s
    | none => match sC1 a with
      | some v => lin b (c * v.1) s
      | none => (ladd (.mul a b) c s.1, s.2)
  | t, c, s => (ladd t c s.1, s.2)
noncomputable def leq (a b : sT) : Bool := sk a == 0 && (sk b == 0 && ((lin b (-1) (lin a 1 ([], 0))).1.all (fun q => decide (q.2 = 0)) && decide ((lin b (-1) (lin a 1 ([], 0))).2 = 0)))
section LIN
variable {X : pX} {ρ : sR}
noncomputable def lsum (X : pX) (ρ : sR) : List (sT × Int32) → Int32
  | [] => 0
  | q :: r => q.2 * (sd X ρ q.1).1 + lsum X ρ r
theorem ladd_ok (t : sT) (c : Int32) : ∀ m : List (sT × Int32), lsum X ρ (ladd t c m) = lsum X ρ m + c * (sd X ρ t).1
  | [] => by
    simp only [ladd, lsum]
    grind
  | (u, d) :: r => by
    simp only [ladd]
    split
    · next h =>
      have h := tqe_ok _ _ h
      subst h
      simp only [lsum]
      grind
    · simp only [lsum, ladd_ok t c r]
      grind
theorem lin_ok : ∀ (t : sT) (c : Int32) (s : List (sT × Int32) × Int32), lsum X ρ (lin t c s).1 + (lin t c s).2 = lsum X ρ s.1 + s.2 + c * (sd X ρ t).1 := by
  intro t
  induction t with
  | int v =>
    intro c s
    simp only [lin, sd]
    grind
  | add a b iha ihb =>
    intro c s
    simp only [lin, sd]
    rw [ihb, iha]
    grind
  | sub a b iha ihb =>
    intro c s
    simp only [lin, sd]
    rw [ihb, iha]
    grind
  | mul a b iha ihb =>
    intro c s
    simp only [lin]
    split
    · next v hv =>
      rw [iha]
      simp only [sd, sC1_ok hv]
      grind
    · split
      · next v hv =>
        rw [ihb]
        simp only [sd, sC1_ok hv]
        grind
      · simp only [ladd_ok]
        grind
  | _ =>
    intro c s
    simp only [lin, ladd_ok]
    grind
theorem lsum_0 : ∀ m : List (sT × Int32), m.all (fun q => decide (q.2 = 0)) = true → lsum X ρ m = 0
  | [], _ => rfl
  | q :: r, h => by
    simp only [List.all_cons, Bool.and_eq_true, decide_eq_true_eq] at h
    simp only [lsum, h.1, lsum_0 r h.2]
    grind
theorem leq_ok {a b : sT} (h : leq a b = true) : sv X ρ a = sv X ρ b := by
  simp only [leq, Bool.and_eq_true, beq_iff_eq, decide_eq_true_eq] at h
  obtain ⟨h1, h2, h3, h4⟩ := h
  have e := lin_ok (X := X) (ρ := ρ) b (-1) (lin a 1 ([], 0))
  rw [lin_ok a 1, lsum_0 _ h3, h4] at e
  simp only [lsum] at e
  have e : (sd X ρ a).1 = (sd X ρ b).1 := by grind
  rw [sv_int h1, sv_int h2, e]
/-- an index in short -/
noncomputable def nidx (i : sT) : sT := match i with
  | .int _ => i
  | .arg _ => i
  | _ => match lin i 1 ([], 0) with
    | ([(x, c)], k) => if c = 1 ∧ sk x = 0 then (if k = 0 then x else .add x (.int k)) else i
    | _ => i
theorem nidx_d (i : sT) : (sd X ρ (nidx i)).1 = (sd X ρ i).1 := by
  unfold nidx
  split
  · rfl
  · rfl
  · split
    · next x c k hl =>
      split
      · next hc =>
        have e := lin_ok (X := X) (ρ := ρ) i 1 ([], 0)
        rw [hl] at e
        simp only [lsum, hc.1] at e
        split
        · next hk =>
          rw [hk] at e
          grind
        · simp only [sd]
          grind
      · rfl
    · rfl
theorem nidx_k (i : sT) (h : sk i = 0) : sk (nidx i) = 0 := by
  unfold nidx
  split
  · exact h
  · exact h
  · split
    · split
      · next hc =>
        split
        · exact hc.2
        · rfl
      · exact h
    · exact h
/-- the difference of two, if it is a number -/
noncomputable def ldiff (i j : sT) : Option Int32 := if sk i = 0 ∧ sk j = 0 then (if (lin j (-1) (lin i 1 ([], 0))).1.all (fun q => decide (q.2 = 0)) = true then some (lin j (-1) (lin i 1 ([], 0))).2 else none) else none
theorem ldiff_ok {i j : sT} {c : Int32} (h : ldiff i j = some c) : decide ((sd X ρ i).1 = (sd X ρ j).1) = decide (c = 0) := by
  unfold ldiff at h
  split at h
  · split at h
    · next h3 =>
      cases h
      have e := lin_ok (X := X) (ρ := ρ) j (-1) (lin i 1 ([], 0))
      rw [lin_ok i 1, lsum_0 _ h3] at e
      simp only [lsum] at e
      apply decide_eq_decide.mpr
      constructor
      · intro h9
        grind
      · intro h9
        grind
    · cases h
  · cases h
end LIN
