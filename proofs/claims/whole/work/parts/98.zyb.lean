/-! ===== what a contract leaves alone stays: numbers kept beside it ===== -/
section FRM
variable {X : pX} {K : sK} {ρ0 : sR}
noncomputable def rmx (n : Nat) (ρ ρ2 : sR) : sR := (fun i => if i < n then ρ.1 i else ρ2.1 i, fun i => if i < n then ρ.2.1 i else ρ2.2.1 i, fun a => if a < n then ρ.2.2.1 a else ρ2.2.2.1 a, fun a => if a < n then ρ.2.2.2.1 a else ρ2.2.2.2.1 a, ρ.2.2.2.2)
theorem rmx_vok {n : Nat} {ρ ρ2 : sR} (h1 : vok X ρ) (h2 : vok X ρ2) : vok X (rmx n ρ ρ2) := by
  constructor
  · intro i r hr
    by_cases hi : i < n
    · have e : sn X (rmx n ρ ρ2) (.arg i) = sn X ρ (.arg i) := by
        show (if i % 2 = 1 then (if i < n then ρ.2.1 i else ρ2.2.1 i).toInt else (if i < n then ρ.1 i else ρ2.1 i).toInt) = if i % 2 = 1 then (ρ.2.1 i).toInt else (ρ.1 i).toInt
        rw [if_pos hi, if_pos hi]
      rw [e]
      exact h1.1 i r hr
    · have e : sn X (rmx n ρ ρ2) (.arg i) = sn X ρ2 (.arg i) := by
        show (if i % 2 = 1 then (if i < n then ρ.2.1 i else ρ2.2.1 i).toInt else (if i < n then ρ.1 i else ρ2.1 i).toInt) = if i % 2 = 1 then (ρ2.2.1 i).toInt else (ρ2.1 i).toInt
        rw [if_neg hi, if_neg hi]
      rw [e]
      exact h2.1 i r hr
  · intro a t r hr
    by_cases ha : a < n
    · have q1 : (rmx n ρ ρ2).2.2.1 a = ρ.2.2.1 a := if_pos ha
      have q2 : (rmx n ρ ρ2).2.2.2.1 a = ρ.2.2.2.1 a := if_pos ha
      have e : sn X (rmx n ρ ρ2) (.elem (.arg a) t) = sn X ρ (.elem (.arg a) (.int (sd X (rmx n ρ ρ2) t).1)) := by
        show (if a % 2 = 1 then ((rmx n ρ ρ2).2.2.2.1 a (sd X (rmx n ρ ρ2) t).1.toNatClampNeg).toInt else ((rmx n ρ ρ2).2.2.1 a (sd X (rmx n ρ ρ2) t).1.toNatClampNeg).toInt) = if a % 2 = 1 then (ρ.2.2.2.1 a (sd X (rmx n ρ ρ2) t).1.toNatClampNeg).toInt else (ρ.2.2.1 a (sd X (rmx n ρ ρ2) t).1.toNatClampNeg).toInt
        rw [q1, q2]
      rw [e]
      exact h1.2 a _ r hr
    · have q1 : (rmx n ρ ρ2).2.2.1 a = ρ2.2.2.1 a := if_neg ha
      have q2 : (rmx n ρ ρ2).2.2.2.1 a = ρ2.2.2.2.1 a := if_neg ha
      have e : sn X (rmx n ρ ρ2) (.elem (.arg a) t) = sn X ρ2 (.elem (.arg a) (.int (sd X (rmx n ρ ρ2) t).1)) := by
        show (if a % 2 = 1 then ((rmx n ρ ρ2).2.2.2.1 a (sd X (rmx n ρ ρ2) t).1.toNatClampNeg).toInt else ((rmx n ρ ρ2).2.2.1 a (sd X (rmx n ρ ρ2) t).1.toNatClampNeg).toInt) = if a % 2 = 1 then (ρ2.2.2.2.1 a (sd X (rmx n ρ ρ2) t).1.toNatClampNeg).toInt else (ρ2.2.2.1 a (sd X (rmx n ρ ρ2) t).1.toNatClampNeg).toInt
        rw [q1, q2]
      rw [e]
      exact h2.2 a _ r hr
/-- a contract with more numbers let go, and what is said beside it -/
noncomputable def cwid (m ma : List Nat) (G : sI) (C : sC) : sC := (C.1, C.2.1, C.2.2.1, C.2.2.2.1, (m ++ C.2.2.2.2.1.1, ma ++ C.2.2.2.2.1.2), C.2.2.2.2.2.1, C.2.2.2.2.2.2.1, (C.2.2.2.2.2.2.2.1 ++ G, C.2.2.2.2.2.2.2.2 ++ G))
/-- from a cut on, what the contract leaves alone is as it is at the cut -/
theorem CUT_frame {Z : sH} {C : sC} {d : Nat} {m ma : List Nat} {G : sI} {c1 c2 : sF × List sF × Nat} {F : sFs} {I : sI} (hv : vok X ρ0) (hG : nodI (fun i => C.2.2.2.2.1.1.contains i || Nat.ble 65536 i) (fun _ => true) G = true) (h : ∀ ρ : sR, vok X ρ → CUTOK X K Z C d ρ (c1, c2, F, I)) : CUTOK X K Z (cwid m ma G C) d ρ0 (c1, c2, F, I ++ G) := by
  intro ρ1 k1 k2 k3 k4
  have km := rmx_vok (n := 65536) k2.1 hv
  obtain ⟨ρ', vc, vm, j, a, b⟩ := h (rmx 65536 ρ1 ρ0) km ρ1 k1 k2 (fun c hc => k3 c (List.mem_append.mpr (Or.inl hc))) ⟨fun i hi _ => ⟨(if_pos hi).symm, (if_pos hi).symm⟩, fun a ha _ => ⟨(if_pos ha).symm, (if_pos ha).symm⟩⟩
  obtain ⟨⟨j1, j2⟩, j3, j4, j5, j6⟩ := j
  refine ⟨ρ', vc, vm, ⟨⟨fun i hi => ?_, fun a ha j => ?_⟩, j3, fun c hc => ?_, j5, j6⟩, a, b⟩
  · have hn : i ∉ C.2.2.2.2.1.1 := fun q => hi (List.mem_append.mpr (Or.inr q))
    obtain ⟨e1, e2⟩ := j1 i hn
    by_cases hi2 : i < 65536
    · have k := k4.1 i hi2 hi
      exact ⟨e1.trans ((if_pos hi2).trans k.1), e2.trans ((if_pos hi2).trans k.2)⟩
    · exact ⟨e1.trans (if_neg hi2), e2.trans (if_neg hi2)⟩
  · refine (j2 a (fun q => ha (List.mem_append.mpr (Or.inr q))) j).trans ?_
    by_cases ha2 : a < 65536
    · have k := k4.2 a ha2 ha
      have q1 : (rmx 65536 ρ1 ρ0).2.2.1 a = ρ0.2.2.1 a := (if_pos ha2).trans k.1
      have q2 : (rmx 65536 ρ1 ρ0).2.2.2.1 a = ρ0.2.2.2.1 a := (if_pos ha2).trans k.2
      unfold bden
      dsimp only
      rw [q1, q2]
    · have q1 : (rmx 65536 ρ1 ρ0).2.2.1 a = ρ0.2.2.1 a := if_neg ha2
      have q2 : (rmx 65536 ρ1 ρ0).2.2.2.1 a = ρ0.2.2.2.1 a := if_neg ha2
      unfold bden
      dsimp only
      rw [q1, q2]
  · rcases List.mem_append.mp hc with h1 | h1
    · exact j4 c h1
    · refine (nod_iok (V := fun i => C.2.2.2.2.1.1.contains i || Nat.ble 65536 i) (R := fun _ => true) ⟨fun i hi => ?_, fun a ha => by cases ha⟩ ?_ (fun c hc => k3 c (List.mem_append.mpr (Or.inr hc)))) c h1
      · simp only [Bool.or_eq_false_iff] at hi
        have h3 : i < 65536 := Nat.lt_of_not_le (fun e => by rw [Nat.ble_eq_true_of_le e] at hi; cases hi.2)
        obtain ⟨e1, e2⟩ := j1 i (fun e => by rw [List.contains_iff_mem.mpr e] at hi; cases hi.1)
        exact ⟨e1.trans (if_pos h3), e2.trans (if_pos h3)⟩
      · exact hG
/-- the same, rows let go besides -/
noncomputable def cwia (ma : List Nat) (C : sC) : sC := (C.1, C.2.1, C.2.2.1, C.2.2.2.1, (C.2.2.2.2.1.1, ma ++ C.2.2.2.2.1.2), C.2.2.2.2.2.1, C.2.2.2.2.2.2.1, C.2.2.2.2.2.2.2)
theorem CUT_frama {Z : sH} {C : sC} {d : Nat} {ma : List Nat} {q : sCut} (hv : vok X ρ0) (h : ∀ ρ : sR, vok X ρ → CUTOK X K Z C d ρ q) : CUTOK X K Z (cwia ma C) d ρ0 q := by
  intro ρ1 k1 k2 k3 k4
  have km := rmx_vok (n := 65536) k2.1 hv
  obtain ⟨ρ', vc, vm, j, a, b⟩ := h (rmx 65536 ρ1 ρ0) km ρ1 k1 k2 k3 ⟨fun i hi _ => ⟨(if_pos hi).symm, (if_pos hi).symm⟩, fun a ha _ => ⟨(if_pos ha).symm, (if_pos ha).symm⟩⟩
  obtain ⟨⟨j1, j2⟩, j3⟩ := j
  refine ⟨ρ', vc, vm, ⟨⟨fun i hi => ?_, fun a ha j => ?_⟩, j3⟩, a, b⟩
  · obtain ⟨e1, e2⟩ := j1 i hi
    by_cases hi2 : i < 65536
    · have k := k4.1 i hi2 hi
      exact ⟨e1.trans ((if_pos hi2).trans k.1), e2.trans ((if_pos hi2).trans k.2)⟩
    · exact ⟨e1.trans (if_neg hi2), e2.trans (if_neg hi2)⟩
  · refine (j2 a (fun q => ha (List.mem_append.mpr (Or.inr q))) j).trans ?_
    by_cases ha2 : a < 65536
    · have k := k4.2 a ha2 ha
      have q1 : (rmx 65536 ρ1 ρ0).2.2.1 a = ρ0.2.2.1 a := (if_pos ha2).trans k.1
      have q2 : (rmx 65536 ρ1 ρ0).2.2.2.1 a = ρ0.2.2.2.1 a := (if_pos ha2).trans k.2
      unfold bden
      dsimp only
      rw [q1, q2]
    · have q1 : (rmx 65536 ρ1 ρ0).2.2.1 a = ρ0.2.2.1 a := if_neg ha2
      have q2 : (rmx 65536 ρ1 ρ0).2.2.2.1 a = ρ0.2.2.2.1 a := if_neg ha2
      unfold bden
      dsimp only
      rw [q1, q2]
end FRM
