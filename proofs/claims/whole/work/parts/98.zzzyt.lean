set_option maxRecDepth 20000
/-! ===== one call of the class, then one of the model: what becomes of the cells ===== -/
noncomputable def z348 : sE := .inl (1, 1, .long 0, [(.int 0, .arg 59841)])
theorem zLw_get {k : Nat} : hget zLw k = if 348 = k then some z348 else hget zT k := by
  unfold zLw
  rw [hset_get]
  by_cases h : 348 = k
  · rw [if_pos ⟨h, by decide⟩, if_pos h]
    rfl
  · rw [if_neg (fun q => h q.1), if_neg h]
theorem zT_v : hall (vltE 59000) 9 zT.1 = true := by decide +kernel
theorem zLw_2 : zLw.2 = 349 := rfl
theorem fT_348 : 348 ∉ fT1 ∧ 348 ∉ fT2 := by decide
theorem fT_no {k : Nat} (h : k ∈ fT1) : k ∉ fT2 := by
  have := List.all_eq_true.mp (show fT1.all (fun k => !(fT2.contains k)) = true by decide +kernel) k h
  intro q
  rw [List.contains_iff_mem.mpr q] at this
  cases this
theorem fT_all {k : Nat} {e : sE} (h : hget zT k = some e) : k ∈ fT1 ∨ k ∈ fT2 ∨ k = 348 := by
  have h5 := hget_lt h
  have := List.all_eq_true.mp (show (List.range 512).all (fun k => (hget zT k).isNone || (fT1.contains k || (fT2.contains k || Nat.beq k 348))) = true by decide +kernel) k (List.mem_range.mpr h5)
  rw [h] at this
  simp only [Option.isNone_some, Bool.false_or, Bool.or_eq_true] at this
  rcases this with q | q | q
  · exact .inl (List.contains_iff_mem.mp q)
  · exact .inr (.inl (List.contains_iff_mem.mp q))
  · exact .inr (.inr (Nat.eq_of_beq_eq_true q))
section LAW2
variable {X : pX} {C : sC} {P : sR → Prop} {Q : sR → sR → Option Value → Option Value → Prop}
theorem zT_cr {ρ1 ρ2 : sR} (h : agr 59000 ρ1 ρ2) {k : Nat} {e : sE} (hk : hget zT k = some e) {y : pE} (hc : CR X ρ1 e y) : CR X ρ2 e y := CR_agr h (hall_get zT_v hk) hc
/-- the part that a call looks at -/
theorem HR_part {l : List Nat} {ρ ρA : sR} (hl : ∀ k e, k ∈ l → hget zT k = some e → k ≠ 348) (ag : agr 59000 ρA ρ) {G G2 : pH} {sl : Nat} (hR : HR X ρ zLw G) (hlen : G2.length = G.length) (he : ∀ k, k ∈ l → k < G.length → G2[k]? = G[k]?) : HR X (rwB ρA (G2, G2.length, sl)) (foot zT l) G2 := by
  refine ⟨by show 0 + G2.length = G2.length; omega, fun k e hk => ?_, Nat.le_refl _, fun k _ _ => rfl⟩
  rw [foot_get] at hk
  split at hk
  · next hm =>
    have h3 := hl k e hm hk
    have hz : hget zLw k = some e := by rw [zLw_get, if_neg (fun q => h3 q.symm)]; exact hk
    obtain ⟨y, hy, hc⟩ := hR.2.1 k e hz
    have hlt : k < G.length := (List.getElem?_eq_some_iff.mp hy).1
    refine ⟨y, (he k hm hlt).trans hy, CR_B (B := ρA.2.2.2.2) (zT_cr (ρ1 := ρ) (ρ2 := ρA) ⟨fun i hi => ⟨(ag.1 i hi).1.symm, (ag.1 i hi).2.symm⟩, fun a ha => ⟨(ag.2 a ha).1.symm, (ag.2 a ha).2.symm⟩⟩ hk hc)⟩
  · cases hk
theorem LAW_H (hC : SRELP X kR zT C 19 20 P Q) (h1 : C.2.2.1 = (fT1, fT2)) {ρ ρA : sR} (ag : agr 59000 ρA ρ) (kA : kok X ρA kR) (fA : fok X ρA C.2.2.2.1) (iA : iok X ρA C.2.2.2.2.2.2.2.1) (pA : P ρA) : ∃ (ρ' : sR) (v1 v2 : Option Value), Q ρA ρ' v1 v2 ∧ ∀ (G : pH) (sl : Nat), HR X ρ zLw G → ∃ G1 : pH, CALL X pF pdfl mt_all 19 C.1.1 (dS X ρA C.2.1.1) G sl (.inl v1, G1, sl) ∧ G1.length = G.length ∧ G1[348]? = G[348]? ∧ (∀ k, k ∈ fT2 → k < G.length → G1[k]? = G[k]?) ∧ ∀ (G2 : pH) (sl2 : Nat), G2.length = G.length → (∀ k, k ≠ 348 → k < G.length → G2[k]? = G1[k]?) → ∃ G3 : pH, CALL X pF pdfl mt_all 20 C.1.2.1 (dS X ρA C.2.1.2) G2 sl2 (.inl v2, G3, sl2) ∧ ∀ ρ3 : sR, agr 59000 ρ3 ρ' → rB ρ3 = rB ρ → rC ρ3 = rC ρ → (∃ y, G2[348]? = some (some y) ∧ CR X ρ3 z348 y) → HR X ρ3 zLw G3 := by
  obtain ⟨ρ', v1, v2, q, c1, c2⟩ := hC ρA kA fA iA pA
  rw [h1] at c1 c2
  refine ⟨ρ', v1, v2, q, fun G sl hR => ?_⟩
  obtain ⟨G1, d1, r1⟩ := c1 (G, G.length, sl) G (HR_part (fun k e hk _ h => fT_348.1 (h ▸ hk)) ag hR rfl (fun _ _ _ => rfl))
  have l1 : G1.length = G.length := by have this : 0 + G.length = G1.length := r1.1; omega
  have b1 : ∀ k, k ∉ fT1 → k < G.length → G1[k]? = G[k]? := fun k hk hl => r1.2.2.2 k (by show hget (foot zT fT1) k = none; rw [foot_get, if_neg hk]) hl
  have hL : 349 ≤ G.length := by have := hR.1; rw [zLw_2] at this; omega
  refine ⟨G1, d1, l1, b1 348 fT_348.1 (by omega), fun k hk hl => b1 k (fun h => fT_no h hk) hl, fun G2 sl2 l2 b2 => ?_⟩
  obtain ⟨G3, d3, r3⟩ := c2 (G2, G2.length, sl2) G2 (HR_part (fun k e hk _ h => fT_348.2 (h ▸ hk)) ag hR l2 (fun k hk hl => (b2 k (fun h => fT_348.2 (h ▸ hk)) hl).trans (b1 k (fun h => fT_no h hk) hl)))
  have l3 : G3.length = G2.length := by have this : 0 + G2.length = G3.length := r3.1; omega
  have b3 : ∀ k, k ∉ fT2 → k < G2.length → G3[k]? = G2[k]? := fun k hk hl => r3.2.2.2 k (by show hget (foot zT fT2) k = none; rw [foot_get, if_neg hk]) hl
  refine ⟨G3, d3, fun ρ3 a3 eB eC h348 => ⟨?_, fun k e hk => ?_, ?_, fun k hk hl => ?_⟩⟩
  · rw [eC, l3, l2]; exact hR.1
  · rw [zLw_get] at hk
    split at hk
    · next h =>
      cases hk
      obtain ⟨y, hy, hc⟩ := h348
      subst h
      exact ⟨y, (b3 348 fT_348.2 (by omega)).trans hy, hc⟩
    · next h =>
      have a3' : agr 59000 ρ' ρ3 := ⟨fun i hi => ⟨(a3.1 i hi).1.symm, (a3.1 i hi).2.symm⟩, fun a ha => ⟨(a3.2 a ha).1.symm, (a3.2 a ha).2.symm⟩⟩
      rcases fT_all hk with m | m | m
      · obtain ⟨y, hy, hc⟩ := r1.2.1 k e (by rw [foot_get, if_pos m]; exact hk)
        have hlt : k < G.length := by rw [← l1]; exact (List.getElem?_eq_some_iff.mp hy).1
        exact ⟨y, ((b3 k (fT_no m) (by omega)).trans (b2 k (fun q => h q.symm) hlt)).trans hy, zT_cr a3' hk (CR_B (B' := ρ'.2.2.2.2) hc)⟩
      · obtain ⟨y, hy, hc⟩ := r3.2.1 k e (by rw [foot_get, if_pos m]; exact hk)
        exact ⟨y, hy, zT_cr a3' hk (CR_B (B' := ρ'.2.2.2.2) hc)⟩
      · exact absurd m.symm h
  · rw [eB, l3, l2]; exact hR.2.2.1
  · rw [eB] at hl ⊢
    have hlt : k < G.length := Nat.lt_of_lt_of_le hl hR.2.2.1
    have hz := hk
    rw [zLw_get] at hz
    split at hz
    · cases hz
    · next h =>
      by_cases m1 : k ∈ fT1
      · have := r1.1
        exact (Classical.em (∃ e, hget zT k = some e)).elim (fun ⟨e, he⟩ => by rw [he] at hz; cases hz) (fun _ => by
          by_cases m2 : k ∈ fT2
          · exact absurd m2 (fT_no m1)
          · have e1 : G1[k]? = G[k]? := r1.2.2.2 k (by show hget (foot zT fT1) k = none; rw [foot_get, if_pos m1]; exact hz) hlt
            exact (b3 k m2 (by omega)).trans ((b2 k (fun q => h q.symm) hlt).trans (e1.trans (hR.2.2.2 k hk hl))))
      · by_cases m2 : k ∈ fT2
        · have e3 : G3[k]? = G2[k]? := r3.2.2.2 k (by show hget (foot zT fT2) k = none; rw [foot_get, if_pos m2]; exact hz) (by show k < G2.length; omega)
          exact e3.trans ((b2 k (fun q => h q.symm) hlt).trans ((b1 k m1 hlt).trans (hR.2.2.2 k hk hl)))
        · exact (b3 k m2 (by omega)).trans ((b2 k (fun q => h q.symm) hlt).trans ((b1 k m1 hlt).trans (hR.2.2.2 k hk hl)))
end LAW2
