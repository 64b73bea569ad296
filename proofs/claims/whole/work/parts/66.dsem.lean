/-! ===== cuts with facts that Lean itself keeps: what the variables become is told ===== -/
noncomputable def rguess (Z : sH) (l1 l2 : List Nat) (p1 p2 s1 s2 : sS) : sM := smG Z s2.2.2.2.1 (smG Z s1.2.2.2.1 (smFs (smF (smFs (smF ([], []) p1.1 s1.1) p1.2.1 s1.2.1) p2.1 s2.1) p2.2.1 s2.2.1) l1) l2
/-- the variables become these terms -/
noncomputable def wsok (σ : sM) (ws : List (Nat × sT)) : Bool := ws.all (fun q => match sfnd σ q.1 with
  | some t => tqe t q.2
  | none => tqe (.arg q.1) q.2)
noncomputable def uqe : List (sT × sT) → List (sT × sT) → Bool
  | [], [] => true
  | x :: r, y :: s => tqe x.1 y.1 && (tqe x.2 y.2 && uqe r s)
  | _, _ => false
theorem uqe_ok : ∀ (u w : List (sT × sT)), uqe u w = true → u = w
  | [], [], _ => rfl
  | x :: r, y :: s, h => by
    simp only [uqe, Bool.and_eq_true] at h
    rw [uqe_ok r s h.2.2, Prod.ext (tqe_ok _ _ h.1) (tqe_ok _ _ h.2.1)]
  | [], _ :: _, h => by cases h
  | _ :: _, [], h => by cases h
/-- the arrays become these -/
noncomputable def wsokA (σ : sM) (wa : List (Nat × sT × List (sT × sT))) : Bool := wa.all (fun q => match afnd σ q.1 with
  | some p => tqe p.1 q.2.1 && uqe p.2 q.2.2
  | none => tqe (.arg q.1) q.2.1 && q.2.2.isEmpty)
section SEM
variable {X : pX} {K : sK} {ρ ρ0 : sR}
theorem wsok_ok {σ : sM} {ws : List (Nat × sT)} (h : wsok σ ws = true) : ∀ q ∈ ws, sd X (rsub X ρ σ) (.arg q.1) = sd X ρ q.2 := by
  intro q hq
  have h1 := List.all_eq_true.mp h q hq
  split at h1
  · next t ht =>
    rw [← tqe_ok _ _ h1]
    simp only [sd, rsub, ht]
  · next ht =>
    rw [← tqe_ok _ _ h1]
    simp only [sd, rsub, ht]
theorem wsokA_ok {σ : sM} {wa : List (Nat × sT × List (sT × sT))} (hM : sMok K σ = true) (h : wsokA σ wa = true) : ∀ q ∈ wa, q.1 < 65536 → ∀ j, bden X (rsub X ρ σ) (.arg q.1) j = aden X ρ q.2.1 q.2.2 j := by
  intro q hq hq6 j
  have h1 := List.all_eq_true.mp h q hq
  have h2 := (REP_rsub (X := X) (ρ := ρ) (n := 65536) hM).2 q.1 hq6 j
  rw [← h2]
  unfold aval
  obtain ⟨a, b, u⟩ := q
  dsimp only at h1 ⊢
  cases hp : afnd σ a with
  | some p =>
    rw [hp] at h1
    simp only [Bool.and_eq_true] at h1
    dsimp only
    rw [tqe_ok _ _ h1.1, uqe_ok _ _ h1.2]
  | none =>
    rw [hp] at h1
    simp only [Bool.and_eq_true, List.isEmpty_iff] at h1
    dsimp only
    rw [← tqe_ok _ _ h1.1, h1.2]
    rfl
theorem rcase_sem (hx : K.2.2.2 = false) {iv : sI} {mods moda : List Nat} {n : Nat} (hK : kok X ρ K) {F F0 : sFs} {I : sI} (hF : fok X ρ F) (hI : iok X ρ I) (hag : agrM n mods moda ρ ρ0) {Z : sH} {l1 l2 : List Nat} {p1 p2 s1 s2 : sS} (hp1 : p1.2.2.2.1 = foot Z l1) (hp2 : p2.2.2.2.1 = foot Z l2) (hd1 : kdom (foot Z l1) s1.2.2.2.1) (hd2 : kdom (foot Z l2) s2.2.2.2.1) (h : rcase K Z l1 l2 iv mods moda none F0 p1 p2 F I s1 s2 = true) {dc dm : Nat} {Zc Zm : sH} {J : sR → List Value → List Value → Prop}
    (hg : sMok K (rguess Z l1 l2 p1 p2 s1 s2) = true → kok X (rsub X ρ (rguess Z l1 l2 p1 p2 s1 s2)) K → fok X (rsub X ρ (rguess Z l1 l2 p1 p2 s1 s2)) F0 → iok X (rsub X ρ (rguess Z l1 l2 p1 p2 s1 s2)) iv → agrM n mods moda (rsub X ρ (rguess Z l1 l2 p1 p2 s1 s2)) ρ0 → RelP X pF pdfl mt_all dc dm Zc Zm J (rsub X ρ (rguess Z l1 l2 p1 p2 s1 s2)) p1 p2) : RelP X pF pdfl mt_all dc dm Zc Zm J ρ s1 s2 := by
  unfold rguess at hg
  unfold rcase at h
  simp only [Bool.and_eq_true, decide_eq_true_eq] at h
  obtain ⟨-, -, d1, d2, e1, e2, h⟩ := h
  generalize hσ : smG Z s2.2.2.2.1 (smG Z s1.2.2.2.1 (smFs (smF (smFs (smF ([], []) p1.1 s1.1) p1.2.1 s1.2.1) p2.1 s2.1) p2.2.1 s2.2.1) l1) l2 = σ at h hg
  obtain ⟨c1, c2, c3, c4, c5, ⟨c6, c7⟩, ⟨c8, c9⟩, c10, c11, c12⟩ := h
  have hag' : agrM n mods moda (rsub X ρ σ) ρ0 := by
    constructor
    · intro i hi hm
      have hf : sfnd σ i = none := by
        rw [sfnd_def]
        split
        · next q hq =>
          exfalso
          have h1 := List.all_eq_true.mp c10 q (List.mem_of_find?_eq_some hq)
          have h4 : q.1 = i := by simpa using List.find?_some hq
          obtain ⟨k, hk, h2⟩ := List.any_eq_true.mp h1
          have h3 := Nat.eq_of_beq_eq_true h2
          exact hm (by rw [← h4, h3]; exact hk)
        · rfl
      have e := hag.1 i hi hm
      simp only [rsub, hf]
      exact e
    · intro a ha hm
      have hf : afnd σ a = none := by
        rw [afnd_def]
        split
        · next q hq =>
          exfalso
          have h1 := List.all_eq_true.mp c11 q (List.mem_of_find?_eq_some hq)
          obtain ⟨k, hk, h2⟩ := List.any_eq_true.mp h1
          have h3 := Nat.eq_of_beq_eq_true h2
          have h4 : q.1 = a := by simpa using List.find?_some hq
          exact hm (by rw [← h4, h3]; exact hk)
        · rfl
      have e := hag.2 a ha hm
      constructor
      · funext j
        simp only [rsub, hf]
        rw [e.1]
      · funext j
        simp only [rsub, hf]
        rw [e.2]
  obtain ⟨ρ', v1, v2, j1, j2, j3⟩ := hg c1 (kok_sub hK c1) (fholdE_ok hF c1 c2) (ihold_ok hF hI c1 c3) hag'
  exact ⟨ρ', v1, v2, j1, GPh_inst hx hK hF c1 hp1 hd1 d1 e1 c4 c6 c7 j2, GPh_inst hx hK hF c1 hp2 hd2 d2 e2 c5 c8 c9 j3⟩
/-- a cut that is met, and what its variables are then -/
noncomputable def cutatS (K : sK) (Z : sH) (C : sC) (p : sCut × List (Nat × sT)) (F : sFs) (I : sI) (s1 s2 : sS) : Bool := cutat K Z C none p.1 F I s1 s2 && (p.2.all (fun w => vlt 65536 w.2) && wsok (rguess Z C.2.2.1.1 C.2.2.1.2 (cst Z C.2.2.1.1 p.1.1) (cst Z C.2.2.1.2 p.1.2.1) s1 s2) p.2)
noncomputable def cleafS (K : sK) (Z : sH) (C : sC) (Q : List (sCut × List (Nat × sT))) (F : sFs) (I : sI) (s1 s2 : sS) : Bool := Q.any (fun p => cutatS K Z C p F I s1 s2) || rleaf K Z C F I s1 s2
/-- both stand at the cut's places, with these numbers -/
noncomputable def AT (X : pX) (Z : sH) (C : sC) (d : Nat) (ρ0 ρ1 : sR) (q : sCut) : Prop := RelP X pF pdfl mt_all (d + 1) (d + 1) (foot Z C.2.2.1.1) (foot Z C.2.2.1.2) (cJ X C ρ0) ρ1 (cst Z C.2.2.1.1 q.1) (cst Z C.2.2.1.2 q.2.1)
/-- from a cut on, at given numbers -/
theorem SEM_run (hx : K.2.2.2 = false) (hk0 : ∀ a l, K.2.2.1 a = some l → a < 1000) {Z : sH} {Cs : List (sH × sC)} (hCs : ∀ C ∈ Cs, SREL X pF pdfl mt_all K C.1 C.2) {C : sC} {d : Nat} (hfine : cfine Z 65536 C = true) {Q : List (sCut × List (Nat × sT))} (hv0 : vok X ρ0) (n : Nat) {b1 b2 : Bool} {q : sCut} (h : cbody K Cs (cpl1 Z C (Q.map (fun p => p.1))) (cpl2 Z C (Q.map (fun p => p.1))) (cleafS K Z C Q) n b1 b2 q.2.2.1 q.2.2.2 (cst Z C.2.2.1.1 q.1) (cst Z C.2.2.1.2 q.2.1) = true) {ρ1 : sR} (k1 : kok X ρ1 K) (k2 : fok X ρ1 q.2.2.1) (k3 : iok X ρ1 q.2.2.2) (k4 : agrM 65536 C.2.2.2.2.1.1 C.2.2.2.2.1.2 ρ1 ρ0)
    (hQ : ∀ p ∈ Q, ∀ ρ3 : sR, kok X ρ3 K → fok X ρ3 p.1.2.2.1 → iok X ρ3 p.1.2.2.2 → agrM 65536 C.2.2.2.2.1.1 C.2.2.2.2.1.2 ρ3 ρ0 → (∀ w ∈ p.2, sd X ρ3 (.arg w.1) = sd X ρ1 w.2) → AT X Z C d ρ0 ρ3 p.1) : AT X Z C d ρ0 ρ1 q := by
  refine cbody_ok hx hk0 hCs (A := fun ρ2 => agrM 65536 C.2.2.2.2.1.1 C.2.2.2.2.1.2 ρ2 ρ0 ∧ agr 65536 ρ2 ρ1) (fun off ρ2 ρ3 h1 h2 h3 => ⟨agrM_new h1 h2 h3.1, ⟨fun i hi => ⟨(h2.1 i (by omega)).1.trans (h3.2.1 i hi).1, (h2.1 i (by omega)).2.trans (h3.2.1 i hi).2⟩, fun a ha => ⟨(h2.2 a (by omega)).1.trans (h3.2.2 a ha).1, (h2.2 a (by omega)).2.trans (h3.2.2 a ha).2⟩⟩⟩) (fun ρ2 F I s1 s2 q1 q2 q3 q4 g1 g2 q5 => ?_) n h k1 k2 k3 ⟨k4, ⟨fun _ _ => ⟨rfl, rfl⟩, fun _ _ => ⟨rfl, rfl⟩⟩⟩
  simp only [cleafS, Bool.or_eq_true] at q5
  rcases q5 with q5 | q5
  · obtain ⟨p, hp, q5⟩ := List.any_eq_true.mp q5
    simp only [cutatS, Bool.and_eq_true, cutat] at q5
    obtain ⟨⟨-, -, -, -, q6⟩, q7, q8⟩ := q5
    refine rcase_sem hx q1 q2 q3 q4.1 rfl rfl g1 g2 q6 (fun _ r1 r2 r3 r4 => hQ p hp _ r1 r2 r3 r4 (fun w hw => ?_))
    rw [wsok_ok (X := X) (ρ := ρ2) q8 w hw]
    exact vlt_d q4.2 _ (List.all_eq_true.mp q7 w hw)
  · exact rleaf_ok hx hfine q1 q2 q3 hv0 q4.1 g1 g2 q5
/-- ... with arrays -/
noncomputable def cutatA (K : sK) (Z : sH) (C : sC) (p : sCut × List (Nat × sT) × List (Nat × sT × List (sT × sT))) (F : sFs) (I : sI) (s1 s2 : sS) : Bool := cutat K Z C none p.1 F I s1 s2 && ((p.2.1.all (fun w => vlt 65536 w.2) && p.2.2.all (fun w => Nat.blt w.1 65536 && (vltB 65536 w.2.1 && w.2.2.all (fun x => vlt 65536 x.1 && vlt 65536 x.2)))) && (wsok (rguess Z C.2.2.1.1 C.2.2.1.2 (cst Z C.2.2.1.1 p.1.1) (cst Z C.2.2.1.2 p.1.2.1) s1 s2) p.2.1 && wsokA (rguess Z C.2.2.1.1 C.2.2.1.2 (cst Z C.2.2.1.1 p.1.1) (cst Z C.2.2.1.2 p.1.2.1) s1 s2) p.2.2))
noncomputable def cleafA (K : sK) (Z : sH) (C : sC) (Q : List (sCut × List (Nat × sT) × List (Nat × sT × List (sT × sT)))) (F : sFs) (I : sI) (s1 s2 : sS) : Bool := Q.any (fun p => cutatA K Z C p F I s1 s2) || rleaf K Z C F I s1 s2
theorem SEM_runA (hx : K.2.2.2 = false) (hk0 : ∀ a l, K.2.2.1 a = some l → a < 1000) {Z : sH} {Cs : List (sH × sC)} (hCs : ∀ C ∈ Cs, SREL X pF pdfl mt_all K C.1 C.2) {C : sC} {d : Nat} (hfine : cfine Z 65536 C = true) {Q : List (sCut × List (Nat × sT) × List (Nat × sT × List (sT × sT)))} (hv0 : vok X ρ0) (n : Nat) {b1 b2 : Bool} {q : sCut} (h : cbody K Cs (cpl1 Z C (Q.map (fun p => p.1))) (cpl2 Z C (Q.map (fun p => p.1))) (cleafA K Z C Q) n b1 b2 q.2.2.1 q.2.2.2 (cst Z C.2.2.1.1 q.1) (cst Z C.2.2.1.2 q.2.1) = true) {ρ1 : sR} (k1 : kok X ρ1 K) (k2 : fok X ρ1 q.2.2.1) (k3 : iok X ρ1 q.2.2.2) (k4 : agrM 65536 C.2.2.2.2.1.1 C.2.2.2.2.1.2 ρ1 ρ0)
    (hQ : ∀ p ∈ Q, ∀ ρ3 : sR, kok X ρ3 K → fok X ρ3 p.1.2.2.1 → iok X ρ3 p.1.2.2.2 → agrM 65536 C.2.2.2.2.1.1 C.2.2.2.2.1.2 ρ3 ρ0 → (∀ w ∈ p.2.1, sd X ρ3 (.arg w.1) = sd X ρ1 w.2) → (∀ w ∈ p.2.2, ∀ j, bden X ρ3 (.arg w.1) j = aden X ρ1 w.2.1 w.2.2 j) → AT X Z C d ρ0 ρ3 p.1) : AT X Z C d ρ0 ρ1 q := by
  refine cbody_ok hx hk0 hCs (A := fun ρ2 => agrM 65536 C.2.2.2.2.1.1 C.2.2.2.2.1.2 ρ2 ρ0 ∧ agr 65536 ρ2 ρ1) (fun off ρ2 ρ3 h1 h2 h3 => ⟨agrM_new h1 h2 h3.1, ⟨fun i hi => ⟨(h2.1 i (by omega)).1.trans (h3.2.1 i hi).1, (h2.1 i (by omega)).2.trans (h3.2.1 i hi).2⟩, fun a ha => ⟨(h2.2 a (by omega)).1.trans (h3.2.2 a ha).1, (h2.2 a (by omega)).2.trans (h3.2.2 a ha).2⟩⟩⟩) (fun ρ2 F I s1 s2 q1 q2 q3 q4 g1 g2 q5 => ?_) n h k1 k2 k3 ⟨k4, ⟨fun _ _ => ⟨rfl, rfl⟩, fun _ _ => ⟨rfl, rfl⟩⟩⟩
  simp only [cleafA, Bool.or_eq_true] at q5
  rcases q5 with q5 | q5
  · obtain ⟨p, hp, q5⟩ := List.any_eq_true.mp q5
    simp only [cutatA, Bool.and_eq_true, cutat] at q5
    obtain ⟨⟨-, -, -, -, q6⟩, ⟨q7, q7a⟩, q8, q8a⟩ := q5
    refine rcase_sem hx q1 q2 q3 q4.1 rfl rfl g1 g2 q6 (fun r0 r1 r2 r3 r4 => hQ p hp _ r1 r2 r3 r4 (fun w hw => ?_) (fun w hw j => ?_))
    · rw [wsok_ok (X := X) (ρ := ρ2) q8 w hw]
      exact vlt_d q4.2 _ (List.all_eq_true.mp q7 w hw)
    · have h9 := List.all_eq_true.mp q7a w hw
      simp only [Bool.and_eq_true, List.all_eq_true] at h9
      rw [wsokA_ok (X := X) (ρ := ρ2) r0 q8a w hw (Nat.blt_eq.mp h9.1) j]
      exact vlt_aden q4.2 h9.2.1 j _ (fun x hx => h9.2.2 x hx)
  · exact rleaf_ok hx hfine q1 q2 q3 hv0 q4.1 g1 g2 q5
/-- the same places, whatever the facts -/
theorem AT_of {Z : sH} {C : sC} {d : Nat} {ρ1 : sR} {q q' : sCut} (h1 : q.1 = q'.1) (h2 : q.2.1 = q'.2.1) (h : AT X Z C d ρ0 ρ1 q) : AT X Z C d ρ0 ρ1 q' := by
  unfold AT at h ⊢
  rw [← h1, ← h2]
  exact h
theorem CUTOK_AT {Z : sH} {C : sC} {d : Nat} {q : sCut} (h : ∀ ρ1 : sR, kok X ρ1 K → fok X ρ1 q.2.2.1 → iok X ρ1 q.2.2.2 → agrM 65536 C.2.2.2.2.1.1 C.2.2.2.2.1.2 ρ1 ρ0 → AT X Z C d ρ0 ρ1 q) : CUTOK X K Z C d ρ0 q := h
/-- other facts before -/
theorem CUT_mono {Z : sH} {C : sC} {d : Nat} {c1 c2 : sF × List sF × Nat} {F F' : sFs} {I I' : sI} (h : CUTOK X K Z C d ρ0 (c1, c2, F, I)) (hm : ∀ ρ : sR, fok X ρ F' → iok X ρ I' → fok X ρ F ∧ iok X ρ I) : CUTOK X K Z C d ρ0 (c1, c2, F', I') :=
  fun ρ1 k1 k2 k3 k4 => h ρ1 k1 (hm ρ1 k2 k3).1 (hm ρ1 k2 k3).2 k4
/-- case by case -/
theorem CUT_split {Z : sH} {C : sC} {d : Nat} {c1 c2 : sF × List sF × Nat} {F : sFs} {I : sI} (q : sQ) (h1 : CUTOK X K Z C d ρ0 (c1, c2, (q, true) :: F, I)) (h2 : CUTOK X K Z C d ρ0 (c1, c2, (q, false) :: F, I)) : CUTOK X K Z C d ρ0 (c1, c2, F, I) := by
  intro ρ1 k1 k2 k3 k4
  cases hc : sc X ρ1 q with
  | true => exact h1 ρ1 k1 ⟨k2.1, fun f hf => by rcases List.mem_cons.mp hf with e | hf; (· rw [e]; exact hc); exact k2.2 f hf⟩ k3 k4
  | false => exact h2 ρ1 k1 ⟨k2.1, fun f hf => by rcases List.mem_cons.mp hf with e | hf; (· rw [e]; exact hc); exact k2.2 f hf⟩ k3 k4
end SEM
