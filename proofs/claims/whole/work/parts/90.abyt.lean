/-! ===== a small number's cases: each one's facts are worked out ===== -/
noncomputable def evb (i : Nat) (x : Int32) : sT → Option Int32
  | .int v => some v
  | .arg j => bif Nat.beq j i then some x else none
  | .add a b => (evb i x a).bind (fun p => (evb i x b).map (fun q => p + q))
  | .sub a b => (evb i x a).bind (fun p => (evb i x b).map (fun q => p - q))
  | .mul a b => (evb i x a).bind (fun p => (evb i x b).map (fun q => p * q))
  | .div a b => (evb i x a).bind (fun p => (evb i x b).map (fun q => p / q))
  | .op2 o a b => (evb i x a).bind (fun p => (evb i x b).bind (fun q => match o with
    | .iand => some (p &&& q)
    | .ior => some (p ||| q)
    | .ixor => some (p ^^^ q)
    | .ishl => some (p <<< (q &&& 31))
    | .ishr => some (p >>> (q &&& 31))
    | .iushr => some (p.toUInt32 >>> (q.toUInt32 &&& Int32.toUInt32 31)).toInt32
    | _ => none))
  | _ => none
theorem ob2 {α β γ : Type} {a : Option α} {b : Option β} {f : α → β → Option γ} {c : γ} (h : (a.bind fun p => b.bind fun q => f p q) = some c) : ∃ p q, a = some p ∧ b = some q ∧ f p q = some c := by
  cases a with
  | none => cases h
  | some p => cases b with
    | none => cases h
    | some q => exact ⟨p, q, rfl, rfl, h⟩
theorem om2 {α β γ : Type} {a : Option α} {b : Option β} {f : α → β → γ} {c : γ} (h : (a.bind fun p => b.map fun q => f p q) = some c) : ∃ p q, a = some p ∧ b = some q ∧ f p q = c := by
  cases a with
  | none => cases h
  | some p => cases b with
    | none => cases h
    | some q => exact ⟨p, q, rfl, rfl, Option.some.inj h⟩
theorem evb_ok {X : pX} {ρ : sR} {i : Nat} : ∀ {t : sT} {v : Int32}, evb i (ρ.1 i) t = some v → (sd X ρ t).1 = v := by
  intro t
  induction t with
  | int v => intro w h; cases h; rfl
  | arg j =>
    intro w h
    unfold evb at h
    cases hj : Nat.beq j i with
    | false => rw [hj] at h; cases h
    | true =>
      rw [hj] at h
      have e := Nat.eq_of_beq_eq_true hj
      subst e
      cases h
      rfl
  | add a b ha hb =>
    intro w h
    obtain ⟨p, q, h1, h2, h3⟩ := om2 h
    show (sd X ρ a).1 + (sd X ρ b).1 = w
    rw [ha h1, hb h2, h3]
  | sub a b ha hb =>
    intro w h
    obtain ⟨p, q, h1, h2, h3⟩ := om2 h
    show (sd X ρ a).1 - (sd X ρ b).1 = w
    rw [ha h1, hb h2, h3]
  | mul a b ha hb =>
    intro w h
    obtain ⟨p, q, h1, h2, h3⟩ := om2 h
    show (sd X ρ a).1 * (sd X ρ b).1 = w
    rw [ha h1, hb h2, h3]
  | div a b ha hb =>
    intro w h
    obtain ⟨p, q, h1, h2, h3⟩ := om2 h
    show (sd X ρ a).1 / (sd X ρ b).1 = w
    rw [ha h1, hb h2, h3]
  | op2 o a b ha hb =>
    intro w h
    obtain ⟨p, q, h1, h2, h3⟩ := ob2 h
    have e1 := ha h1
    have e2 := hb h2
    show (s2 o (sd X ρ a) (sd X ρ b)).1 = w
    cases o <;> first | (cases h3; done) | (have h3 := Option.some.inj h3; rw [← h3, ← e1, ← e2]; rfl)
  | _ => intro w h; cases h
noncomputable def evc (i : Nat) (x : Int32) (c : sQ) : Option Bool := bif Nat.beq c.1 0 then (evb i x c.2.1).bind (fun p => (evb i x c.2.2).map (fun q => decide (p = q))) else bif Nat.beq c.1 2 then (evb i x c.2.1).bind (fun p => (evb i x c.2.2).map (fun q => decide (p < q))) else none
theorem evc_ok {X : pX} {ρ : sR} {i : Nat} {c : sQ} {v : Bool} (h : evc i (ρ.1 i) c = some v) : sc X ρ c = v := by
  obtain ⟨k, a, b⟩ := c
  unfold evc at h
  dsimp only at h
  cases h0 : Nat.beq k 0 with
  | true =>
    rw [h0] at h
    have e := Nat.eq_of_beq_eq_true h0
    subst e
    obtain ⟨p, q, h1, h2, h3⟩ := om2 h
    show decide ((sd X ρ a).1 = (sd X ρ b).1) = v
    rw [evb_ok h1, evb_ok h2, h3]
  | false =>
    rw [h0] at h
    cases h2 : Nat.beq k 2 with
    | true =>
      rw [h2] at h
      have e := Nat.eq_of_beq_eq_true h2
      subst e
      obtain ⟨p, q, h1, h2, h3⟩ := om2 h
      show decide ((sd X ρ a).1 < (sd X ρ b).1) = v
      rw [evb_ok h1, evb_ok h2, h3]
    | false => rw [h2] at h; cases h
noncomputable def altk (i : Nat) (x : Int32) (F : sFs) : Bool := F.all (fun f => match evc i x f.1 with
  | some b => b == f.2
  | none => false)
theorem altk_ok {X : pX} {ρ : sR} {i : Nat} {F : sFs} (h : altk i (ρ.1 i) F = true) : fall X ρ F := fun f hf => by
  have h1 := List.all_eq_true.mp h f hf
  split at h1
  · next b hb => rw [evc_ok hb]; simpa using h1
  · cases h1
/-- of every number up to n one of the rows of facts holds -/
noncomputable def alchk (i n : Nat) (alts : List sFs) : Bool := Nat.beq (i % 2) 0 && (List.range (n + 1)).all (fun k => alts.any (altk i (Int32.ofNat k)))
theorem alts_ok {X : pX} {ρ : sR} {i n : Nat} {alts : List sFs} (h : alchk i n alts = true) (hr : vrng i = some (0, (n : Int))) (hv : vok X ρ) : ∃ F ∈ alts, fall X ρ F := by
  simp only [alchk, Bool.and_eq_true] at h
  obtain ⟨h0, h⟩ := h
  have h0 := Nat.eq_of_beq_eq_true h0
  have h1 := hv.1 i (0, (n : Int)) hr
  have e : sn X ρ (.arg i) = (ρ.1 i).toInt := by
    unfold sn
    rw [if_neg]
    · rfl
    · show ¬ i % 2 = 1
      omega
  rw [e] at h1
  have hx : ρ.1 i = Int32.ofNat (ρ.1 i).toInt.toNat := by
    apply Int32.toInt_inj.mp
    have hb := (ρ.1 i).toInt_lt
    rw [Int32.toInt_ofNat_of_lt (by omega)]
    omega
  obtain ⟨F, hF, h2⟩ := List.any_eq_true.mp (List.all_eq_true.mp h (ρ.1 i).toInt.toNat (List.mem_range.mpr (by omega)))
  rw [← hx] at h2
  exact ⟨F, hF, altk_ok h2⟩
theorem fall_app {X : pX} {ρ : sR} {F G : sFs} (h1 : fall X ρ F) (h2 : fall X ρ G) : fall X ρ (F ++ G) := fun f hf => by
  rcases List.mem_append.mp hf with hf | hf
  · exact h1 f hf
  · exact h2 f hf
theorem CUT_alts {X : pX} {K : sK} {ρ0 : sR} {Z : sH} {C : sC} {d : Nat} {c1 c2 : sF × List sF × Nat} {F0 : sFs} {I : sI} (i n : Nat) (alts : List sFs) (hk : alchk i n alts = true) (hr : vrng i = some (0, (n : Int))) (h : ∀ F ∈ alts, CUTOK X K Z C d ρ0 (c1, c2, F ++ F0, I)) : CUTOK X K Z C d ρ0 (c1, c2, F0, I) := fun ρ k1 hF hI k4 => by
  obtain ⟨F, hm, hf⟩ := alts_ok hk hr hF.1
  exact h F hm ρ k1 ⟨hF.1, fall_app hf hF.2⟩ hI k4
