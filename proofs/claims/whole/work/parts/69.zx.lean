/-! ===== cuts with arrays, places up to sums ===== -/
noncomputable def uqeB : List (sT × sT) → List (sT × sT) → Bool
  | [], [] => true
  | x :: r, y :: s => (tqe x.1 y.1 || leq x.1 y.1) && (tqe x.2 y.2 && uqeB r s)
  | _, _ => false
theorem uqeB_ok {X : pX} {ρ : sR} {b : sT} {j : Nat} : ∀ (u w : List (sT × sT)), uqeB u w = true → aden X ρ b u j = aden X ρ b w j
  | [], [], _ => rfl
  | x :: r, y :: s, h => by
    simp only [uqeB, Bool.and_eq_true, Bool.or_eq_true] at h
    have e1 : (sd X ρ x.1).1 = (sd X ρ y.1).1 := by
      rcases h.1 with h1 | h1
      · rw [tqe_ok _ _ h1]
      · have hk : sk x.1 = 0 ∧ sk y.1 = 0 := by
          simp only [leq, Bool.and_eq_true, beq_iff_eq] at h1
          exact ⟨h1.1, h1.2.1⟩
        refine sv_d ?_
        rw [leq_ok h1, sv_int hk.2]
    show (if (sd X ρ x.1).1.toNatClampNeg = j then sv X ρ x.2 else aden X ρ b r j) = if (sd X ρ y.1).1.toNatClampNeg = j then sv X ρ y.2 else aden X ρ b s j
    rw [e1, tqe_ok _ _ h.2.1, uqeB_ok r s h.2.2]
  | [], _ :: _, h => by cases h
  | _ :: _, [], h => by cases h
/-- the arrays become these -/
noncomputable def wsokB (σ : sM) (wa : List (Nat × sT × List (sT × sT))) : Bool := wa.all (fun q => match afnd σ q.1 with
  | some p => tqe p.1 q.2.1 && uqeB p.2 q.2.2
  | none => tqe (.arg q.1) q.2.1 && q.2.2.isEmpty)
section SEMB
variable {X : pX} {K : sK} {ρ ρ0 : sR}
theorem wsokB_ok {σ : sM} {wa : List (Nat × sT × List (sT × sT))} (hM : sMok K σ = true) (h : wsokB σ wa = true) : ∀ q ∈ wa, q.1 < 65536 → ∀ j, bden X (rsub X ρ σ) (.arg q.1) j = aden X ρ q.2.1 q.2.2 j := by
  intro q hq hq6 j
  have h1 := List.all_eq_true.mp h q hq
  have h2 := (REP_rsub (X := X) (ρ := ρ) (n := 65536) hM).2 q.1 hq6 j
  rw [← h2]
  unfold aval
  obtain ⟨a, b, u⟩ := q
  dsimp only at h1 ⊢
  cases hp : afnd σ a with
  | some p =>
    rw [hp] at h1
    simp only [Bool.and_eq_true] at h1
    dsimp only
    rw [tqe_ok _ _ h1.1]
    exact uqeB_ok _ _ h1.2
  | none =>
    rw [hp] at h1
    simp only [Bool.and_eq_true, List.isEmpty_iff] at h1
    dsimp only
    rw [← tqe_ok _ _ h1.1, h1.2]
    rfl
/-- ... with arrays -/
noncomputable def cutatB (K : sK) (Z : sH) (C : sC) (p : sCut × List (Nat × sT) × List (Nat × sT × List (sT × sT))) (F : sFs) (I : sI) (s1 s2 : sS) : Bool := cutat K Z C none p.1 F I s1 s2 && ((p.2.1.all (fun w => vlt 65536 w.2) && p.2.2.all (fun w => Nat.blt w.1 65536 && (vltB 65536 w.2.1 && w.2.2.all (fun x => vlt 65536 x.1 && vlt 65536 x.2)))) && (wsok (rguess Z C.2.2.1.1 C.2.2.1.2 (cst Z C.2.2.1.1 p.1.1) (cst Z C.2.2.1.2 p.1.2.1) s1 s2) p.2.1 && wsokB (rguess Z C.2.2.1.1 C.2.2.1.2 (cst Z C.2.2.1.1 p.1.1) (cst Z C.2.2.1.2 p.1.2.1) s1 s2) p.2.2))
noncomputable def cleafB (K : sK) (Z : sH) (C : sC) (Q : List (sCut × List (Nat × sT) × List (Nat × sT × List (sT × sT)))) (F : sFs) (I : sI) (s1 s2 : sS) : Bool := Q.any (fun p => cutatB K Z C p F I s1 s2) || rleaf K Z C F I s1 s2
theorem SEM_runB (hx : K.2.2.2 = false) (hk0 : ∀ a l, K.2.2.1 a = some l → a < 1000) {Z : sH} {Cs : List (sH × sC)} (hCs : ∀ C ∈ Cs, SREL X pF pdfl mt_all K C.1 C.2) {C : sC} {d : Nat} (hfine : cfine Z 65536 C = true) {Q : List (sCut × List (Nat × sT) × List (Nat × sT × List (sT × sT)))} (hv0 : vok X ρ0) (n : Nat) {b1 b2 : Bool} {q : sCut} (h : cbody K Cs (cpl1 Z C (Q.map (fun p => p.1))) (cpl2 Z C (Q.map (fun p => p.1))) (cleafB K Z C Q) n b1 b2 q.2.2.1 q.2.2.2 (cst Z C.2.2.1.1 q.1) (cst Z C.2.2.1.2 q.2.1) = true) {ρ1 : sR} (k1 : kok X ρ1 K) (k2 : fok X ρ1 q.2.2.1) (k3 : iok X ρ1 q.2.2.2) (k4 : agrM 65536 C.2.2.2.2.1.1 C.2.2.2.2.1.2 ρ1 ρ0)
    (hQ : ∀ p ∈ Q, ∀ ρ3 : sR, kok X ρ3 K → fok X ρ3 p.1.2.2.1 → iok X ρ3 p.1.2.2.2 → agrM 65536 C.2.2.2.2.1.1 C.2.2.2.2.1.2 ρ3 ρ0 → (∀ w ∈ p.2.1, sd X ρ3 (.arg w.1) = sd X ρ1 w.2) → (∀ w ∈ p.2.2, ∀ j, bden X ρ3 (.arg w.1) j = aden X ρ1 w.2.1 w.2.2 j) → AT X Z C d ρ0 ρ3 p.1) : AT X Z C d ρ0 ρ1 q := by
  refine cbody_ok hx hk0 hCs (A := fun ρ2 => agrM 65536 C.2.2.2.2.1.1 C.2.2.2.2.1.2 ρ2 ρ0 ∧ agr 65536 ρ2 ρ1) (fun off ρ2 ρ3 h1 h2 h3 => ⟨agrM_new h1 h2 h3.1, ⟨fun i hi => ⟨(h2.1 i (by omega)).1.trans (h3.2.1 i hi).1, (h2.1 i (by omega)).2.trans (h3.2.1 i hi).2⟩, fun a ha => ⟨(h2.2 a (by omega)).1.trans (h3.2.2 a ha).1, (h2.2 a (by omega)).2.trans (h3.2.2 a ha).2⟩⟩⟩) (fun ρ2 F I s1 s2 q1 q2 q3 q4 g1 g2 q5 => ?_) n h k1 k2 k3 ⟨k4, ⟨fun _ _ => ⟨rfl, rfl⟩, fun _ _ => ⟨rfl, rfl⟩⟩⟩
  simp only [cleafB, Bool.or_eq_true] at q5
  rcases q5 with q5 | q5
  · obtain ⟨p, hp, q5⟩ := List.any_eq_true.mp q5
    simp only [cutatB, Bool.and_eq_true, cutat] at q5
    obtain ⟨⟨-, -, -, -, q6⟩, ⟨q7, q7a⟩, q8, q8a⟩ := q5
    refine rcase_sem hx q1 q2 q3 q4.1 rfl rfl g1 g2 q6 (fun r0 r1 r2 r3 r4 => hQ p hp _ r1 r2 r3 r4 (fun w hw => ?_) (fun w hw j => ?_))
    · rw [wsok_ok (X := X) (ρ := ρ2) q8 w hw]
      exact vlt_d q4.2 _ (List.all_eq_true.mp q7 w hw)
    · have h9 := List.all_eq_true.mp q7a w hw
      simp only [Bool.and_eq_true, List.all_eq_true] at h9
      rw [wsokB_ok (X := X) (ρ := ρ2) r0 q8a w hw (Nat.blt_eq.mp h9.1) j]
      exact vlt_aden q4.2 h9.2.1 j _ (fun x hx => h9.2.2 x hx)
  · exact rleaf_ok hx hfine q1 q2 q3 hv0 q4.1 g1 g2 q5
end SEMB
