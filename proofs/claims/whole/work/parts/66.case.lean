/-! ===== a contract's run, case by case ===== -/
section CASES
variable {X : pX} {K : sK}
/-- under these facts some run of the contract holds -/
noncomputable def RC (X : pX) (K : sK) (Z : sH) (Cs : List (sH × sC)) (C : sC) (d : Nat) (F : sFs) : Prop := ∀ ρ : sR, fok X ρ F → iok X ρ C.2.2.2.2.2.2.2.1 → ∃ (F' : sFs) (n : Nat), fok X ρ F' ∧ frun K Cs [] [] (rleaf K Z C) n 65536 F' C.2.2.2.2.2.2.2.1 (sin0 mt_all C.1.1 d C.2.1.1 (foot Z C.2.2.1.1)) (sin0 mt_all C.1.2.1 d C.2.1.2 (foot Z C.2.2.1.2)) = true
theorem RC_run {Z : sH} {Cs : List (sH × sC)} {C : sC} {d : Nat} {F : sFs} (n : Nat) (h : frun K Cs [] [] (rleaf K Z C) n 65536 (isatP F C.2.2.2.2.2.2.2.1) C.2.2.2.2.2.2.2.1 (sin0 mt_all C.1.1 d C.2.1.1 (foot Z C.2.2.1.1)) (sin0 mt_all C.1.2.1 d C.2.1.2 (foot Z C.2.2.1.2)) = true) : RC X K Z Cs C d F :=
  fun _ hF hI => ⟨_, n, isatP_ok hF hI, h⟩
theorem RC_split {Z : sH} {Cs : List (sH × sC)} {C : sC} {d : Nat} {F : sFs} (q : sQ) (h1 : RC X K Z Cs C d ((q, true) :: F)) (h2 : RC X K Z Cs C d ((q, false) :: F)) : RC X K Z Cs C d F := by
  intro ρ hF hI
  cases hc : sc X ρ q with
  | true => exact h1 ρ ⟨hF.1, fun f hf => by rcases List.mem_cons.mp hf with e | hf; (· rw [e]; exact hc); exact hF.2 f hf⟩ hI
  | false => exact h2 ρ ⟨hF.1, fun f hf => by rcases List.mem_cons.mp hf with e | hf; (· rw [e]; exact hc); exact hF.2 f hf⟩ hI
theorem RC_sub {Z : sH} {Cs : List (sH × sC)} {C : sC} {d : Nat} {F F' : sFs} (hs : ∀ f ∈ F', f ∈ F) (h : RC X K Z Cs C d F') : RC X K Z Cs C d F :=
  fun ρ hF hI => h ρ ⟨hF.1, fun f hf => hF.2 f (hs f hf)⟩ hI
theorem RC_con {Z : sH} {Cs : List (sH × sC)} {C : sC} {d : Nat} {F : sFs} (h : scon F = true) : RC X K Z Cs C d F :=
  fun _ hF _ => (scon_ok hF h).elim
/-- one after the other: each of the conditions, or none -/
theorem RC_each {Z : sH} {Cs : List (sH × sC)} {C : sC} {d : Nat} {F : sFs} : ∀ (qs : List sQ), (∀ q ∈ qs, RC X K Z Cs C d ((q, true) :: F)) → RC X K Z Cs C d (qs.map (fun q => (q, false)) ++ F) → RC X K Z Cs C d F
  | [], _, h => h
  | q :: qs, h, h0 => by
    refine RC_each qs (fun q' hq => h q' (List.mem_cons_of_mem _ hq)) (RC_split q (RC_sub (fun f hf => ?_) (h q (List.mem_cons_self ..))) ?_)
    · rcases List.mem_cons.mp hf with e | hf
      · rw [e]; exact List.mem_cons_self ..
      · exact List.mem_cons_of_mem _ (List.mem_append_right _ hf)
    · simpa using h0
theorem SREL_RC (hx : K.2.2.2 = false) (hk0 : ∀ a l, K.2.2.1 a = some l → a < 1000) {Z : sH} {Cs : List (sH × sC)} (hCs : ∀ C ∈ Cs, SREL X pF pdfl mt_all K C.1 C.2) {C : sC} {d : Nat} (hd : C.1.2.2 = d + 1) (hfine : cfine Z 65536 C = true) (h : RC X K Z Cs C d C.2.2.2.1) : SREL X pF pdfl mt_all K Z C :=
  have hfine' := hfine
  have o1 : sinok mt_all C.1.1 C.2.1.1 = true := by simp only [cfine, Bool.and_eq_true] at hfine'; exact hfine'.2.2.2.2.2.2.1
  have o2 : sinok mt_all C.1.2.1 C.2.1.2 = true := by simp only [cfine, Bool.and_eq_true] at hfine'; exact hfine'.2.2.2.2.2.2.2
  SREL_in hd hfine (fun ρ hK hF hI => by
    obtain ⟨F', n, hF', hr⟩ := h ρ hF hI
    exact frun_ok (n0 := 65536) (l1 := foot Z C.2.2.1.1) (l2 := foot Z C.2.2.1.2) (A := fun ρ1 => agrM 65536 C.2.2.2.2.1.1 C.2.2.2.2.1.2 ρ1 ρ) hx hk0 hCs (fun off ρ1 ρ2 h1 h2 h3 => agrM_new h1 h2 h3) (fun ρ1 F I s1 s2 hK1 hF1 hI1 hag k1 k2 hl => rleaf_ok hx hfine hK1 hF1 hI1 hF.1 hag k1 k2 hl) n 65536 _ C.2.2.2.2.2.2.2.1 _ _ ρ (Nat.le_refl _) hr hK hF' hI ⟨fun _ _ _ => ⟨rfl, rfl⟩, fun _ _ _ => ⟨rfl, rfl⟩⟩ (kdom_in o1) (kdom_in o2))
end CASES
