/-! ===== an array of the pattern with one place apart ===== -/
/-- the pattern's array a, but for place k, which is v0 -/
def cone (K : sK) (F : sFs) (σ : sM) (e0 e : sE) : Bool := match e0, e with
  | .inl (t0, n0, .arg a, [(.int k, v0)]), .inl (t, n, b, u) => Nat.beq t0 t && (Nat.beq n0 n && (decide (¬ k < 0) && (scl v0 && ((match ssel K F b (.int k) u with
    | .inl w => teqX F (ssub σ v0) w
    | _ => false) && decide ((match afnd σ a with
      | some p => p
      | none => (.arg a, [])) = (b, u.filter (fun x => sneq x.1 (.int k))))))))
  | _, _ => false
theorem cone_ok {X : pX} {ρ : sR} {K : sK} {F : sFs} (hF : fok X ρ F) (hK : kok X ρ K) {σ : sM} (h : sMok K σ = true) {e0 e : sE} (hc : cone K F σ e0 e = true) {y : pE} (hy : CR X ρ e y) : CR X (rsub X ρ σ) e0 y := by
  unfold cone at hc
  split at hc
  · next t0 n0 a k v0 t n b u =>
    simp only [Bool.and_eq_true, decide_eq_true_eq] at hc
    obtain ⟨c1, c2, c3, c4, c5, c6⟩ := hc
    have c1 := Nat.eq_of_beq_eq_true c1
    have c2 := Nat.eq_of_beq_eq_true c2
    subst c1 c2
    cases y with
    | inr z => exact hy.elim
    | inl z =>
      obtain ⟨q1, q2, q3, q4⟩ := hy
      have hk : ¬ (sd X ρ (.int k)).1 < 0 := c3
      refine ⟨q1, q2, fun j hj => ?_, fun x hx => ?_⟩
      · refine (q3 j hj).trans ?_
        have e0 : aden X (rsub X ρ σ) (.arg a) [(.int k, v0)] j = if k.toNatClampNeg = j then sv X (rsub X ρ σ) v0 else bden X (rsub X ρ σ) (.arg a) j := rfl
        refine Eq.trans ?_ e0.symm
        by_cases hj2 : k.toNatClampNeg = j
        · rw [if_pos hj2]
          split at c5
          · next w hw =>
            have h1 := ssel_ok hF hK hk u w q4 hw
            have h2 := teqX_ok hF c5
            rw [ssub_v h v0 c4] at h2
            rw [h2, h1, ← hj2]
            rfl
          · cases c5
        · rw [if_neg hj2]
          have h1 := sups_flt (X := X) (ρ := ρ) (base := b) (i := .int k) (j := j) hj2 u
          refine h1.symm.trans ?_
          cases hp : afnd σ a with
          | some p =>
            rw [hp] at c6
            dsimp only at c6
            obtain ⟨m1, m2, m3⟩ := sMok_arr h hp
            have h2 := aden_kind (X := X) (ρ := ρ) (a := a) (b := p.1) (j := j) m2 p.2 m3
            have h3 : aden X ρ b (u.filter (fun x => sneq x.1 (.int k))) j = aden X ρ p.1 p.2 j := by rw [c6]
            rw [h3, h2]
            simp only [bden, rsub, hp]
          | none =>
            rw [hp] at c6
            have e1 := congrArg Prod.fst c6
            have e2 := congrArg Prod.snd c6
            dsimp only at e1 e2
            rw [← e1, ← e2]
            simp only [aden, bden, rsub, hp]
      · rw [List.mem_singleton.mp hx]
        exact c3
  · cases hc
