/-! ===== arrays alike, where both sides write the same ===== -/
theorem by_1 : tbv [] (.op2 .iand (.op1 .l2i (.op2 .lushr (.arg 5121) (.int 8))) (.int 255)) (.op1 .l2i (.op2 .land (.op2 .lshr (.arg 5121) (.int 8)) (.long 255))) = true := by decide +kernel
theorem by_2 : tbv [] (.op2 .iand (.op1 .l2i (.op2 .lushr (.arg 5121) (.int 16))) (.int 255)) (.op1 .l2i (.op2 .land (.op2 .lshr (.arg 5121) (.int 16)) (.long 255))) = true := by decide +kernel
theorem by_3 : tbv [] (.op2 .iand (.op1 .l2i (.op2 .lushr (.arg 5121) (.int 24))) (.int 255)) (.op1 .l2i (.op2 .land (.op2 .lshr (.arg 5121) (.int 24)) (.long 255))) = true := by decide +kernel
theorem by_4 : tbv [] (.op2 .iand (.op1 .l2i (.op2 .lushr (.arg 5121) (.int 32))) (.int 255)) (.op1 .l2i (.op2 .land (.op2 .lshr (.arg 5121) (.int 32)) (.long 255))) = true := by decide +kernel
theorem by_5 : tbv [] (.op2 .iand (.op1 .l2i (.op2 .lushr (.arg 5121) (.int 40))) (.int 255)) (.op1 .l2i (.op2 .land (.op2 .lshr (.arg 5121) (.int 40)) (.long 255))) = true := by decide +kernel
theorem by_6 : tbv [] (.op2 .iand (.op1 .l2i (.op2 .lushr (.arg 5121) (.int 48))) (.int 255)) (.op1 .l2i (.op2 .land (.op2 .lshr (.arg 5121) (.int 48)) (.long 255))) = true := by decide +kernel
theorem by_7 : tbv [] (.op2 .iand (.op1 .l2i (.op2 .lushr (.arg 5121) (.int 56))) (.int 255)) (.op1 .l2i (.op2 .land (.op2 .lshr (.arg 5121) (.int 56)) (.long 255))) = true := by decide +kernel
theorem by_v {X : pX} {ρ : sR} (hv : vok X ρ) {s t : sT} (h : tbv [] s t = true) : sv X ρ s = sv X ρ t := tbv_ok (X := X) (ρ := ρ) (F := []) ⟨hv, fun f hf => by cases hf⟩ h
/-- the same places, the same numbers -/
theorem aden_2 {X : pX} {ρ : sR} {a c : Nat} {j : Nat} : ∀ L : List ((sT × sT) × sT × sT), (∀ x ∈ L, (sd X ρ x.1.1).1 = (sd X ρ x.2.1).1 ∧ sv X ρ x.1.2 = sv X ρ x.2.2) → (bden X ρ (.arg a) j = bden X ρ (.arg c) j ∨ ∃ x ∈ L, (sd X ρ x.1.1).1.toNatClampNeg = j) → aden X ρ (.arg a) (L.map (fun x => x.1)) j = aden X ρ (.arg c) (L.map (fun x => x.2)) j
  | [], _, h => by
    rcases h with h | ⟨x, hx, -⟩
    · exact h
    · cases hx
  | x :: r, h1, h => by
    obtain ⟨e1, e2⟩ := h1 x List.mem_cons_self
    simp only [List.map_cons, aden]
    rw [← e1, e2]
    by_cases hj : (sd X ρ x.1.1).1.toNatClampNeg = j
    · rw [if_pos hj, if_pos hj]
    · rw [if_neg hj, if_neg hj]
      refine aden_2 r (fun y hy => h1 y (List.mem_cons_of_mem _ hy)) ?_
      rcases h with h | ⟨y, hy, hyj⟩
      · exact .inl h
      · rcases List.mem_cons.mp hy with q | q
        · subst q; exact absurd hyj hj
        · exact .inr ⟨y, q, hyj⟩
theorem bd_ii {X : pX} {ρ : sR} {a j : Nat} (h : a % 2 = 0) : bden X ρ (.arg a) j = .int (ρ.2.2.1 a j) := by
  unfold bden
  dsimp only
  rw [if_neg (by omega)]
theorem al_new {X : pX} {ρ ρ3 : sR} {a c : Nat} (ha : a % 2 = 0) (hc : c % 2 = 0) {j : Nat} {L : List ((sT × sT) × sT × sT)} (h1 : bden X ρ3 (.arg a) j = aden X ρ (.arg a) (L.map (fun x => x.1)) j) (h2 : bden X ρ3 (.arg c) j = aden X ρ (.arg c) (L.map (fun x => x.2)) j) (hL : ∀ x ∈ L, (sd X ρ x.1.1).1 = (sd X ρ x.2.1).1 ∧ sv X ρ x.1.2 = sv X ρ x.2.2) (h : ρ.2.2.1 a j = ρ.2.2.1 c j ∨ ∃ x ∈ L, (sd X ρ x.1.1).1.toNatClampNeg = j) : ρ3.2.2.1 a j = ρ3.2.2.1 c j := by
  have e := aden_2 (X := X) (ρ := ρ) (a := a) (c := c) (j := j) L hL (by
    rcases h with h | h
    · rw [bd_ii ha, bd_ii hc, h]; exact .inl rfl
    · exact .inr h)
  rw [← h1, ← h2, bd_ii ha, bd_ii hc] at e
  exact Value.int.inj e
