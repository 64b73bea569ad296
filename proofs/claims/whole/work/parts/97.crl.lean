/-! ===== arrays alike, where both sides write the same ===== -/
theorem by_1 : tbv [] (.op2 .iand (.op1 .l2i (.op2 .lushr (.arg 5121) (.int 8))) (.int 255)) (.op1 .l2i (.op2 .land (.op2 .lshr (.arg 5121) (.int 8)) (.long 255))) = true := by decide +kernel
theorem by_2 : tbv [] (.op2 .iand (.op1 .l2i (.op2 .lushr (.arg 5121) (.int 16))) (.int 255)) (.op1 .l2i (.op2 .land (.op2 .lshr (.arg 5121) (.int 16)) (.long 255))) = true := by decide +kernel
theorem by_3 : tbv [] (.op2 .iand (.op1 .l2i (.op2 .lushr (.arg 5121) (.int 24))) (.int 255)) (.op1 .l2i (.op2 .land (.op2 .lshr (.arg 5121) (.int 24)) (.long 255))) = true := by decide +kernel
theorem by_4 : tbv [] (.op2 .iand (.op1 .l2i (.op2 .lushr (.arg 5121) (.int 32))) (.int 255)) (.op1 .l2i (.op2 .land (.op2 .lshr (.arg 5121) (.int 32)) (.long 255))) = true := by decide +kernel
theorem by_5 : tbv [] (.op2 .iand (.op1 .l2i (.op2 .lushr (.arg 5121) (.int 40))) (.int 255)) (.op1 .l2i (.op2 .land (.op2 .lshr (.arg 5121) (.int 40)) (.long 255))) = true := by decide +kernel
theorem by_6 : tbv [] (.op2 .iand (.op1 .l2i (.op2 .lushr (.arg 5121) (.int 48))) (.int 255)) (.op1 .l2i (.op2 .land (.op2 .lshr (.arg 5121) (.int 48)) (.long 255))) = true := by decide +kernel
theorem by_7 : tbv [] (.op2 .iand (.op1 .l2i (.op2 .lushr (.arg 5121) (.int 56))) (.int 255)) (.op1 .l2i (.op2 .land (.op2 .lshr (.arg 5121) (.int 56)) (.long 255))) = true := by decide +kernel
theorem by_rng {x : Int32} : 0 ≤ (x &&& 255).toInt ∧ (x &&& 255).toInt ≤ 255 := by
  have e : (x &&& 255).toBitVec.toNat ≤ 255 := by
    rw [Int32.toBitVec_and, BitVec.toNat_and]
    exact Nat.and_le_right
  have h : (x &&& 255).toInt = ((x &&& 255).toBitVec.toNat : Int) := by
    show (x &&& 255).toBitVec.toInt = _
    rw [BitVec.toInt_eq_toNat_of_lt (by omega)]
  omega
theorem by_v {X : pX} {ρ : sR} (hv : vok X ρ) {s t : sT} (h : tbv [] s t = true) : sv X ρ s = sv X ρ t := tbv_ok (X := X) (ρ := ρ) (F := []) ⟨hv, fun f hf => by cases hf⟩ h
/-- the same places, the same numbers -/
theorem aden_2 {X : pX} {ρ : sR} {a c : Nat} {j : Nat} : ∀ L : List ((sT × sT) × sT × sT), (∀ x ∈ L, (sd X ρ x.1.1).1 = (sd X ρ x.2.1).1 ∧ sv X ρ x.1.2 = sv X ρ x.2.2) → (bden X ρ (.arg a) j = bden X ρ (.arg c) j ∨ ∃ x ∈ L, (sd X ρ x.1.1).1.toNatClampNeg = j) → aden X ρ (.arg a) (L.map (fun x => x.1)) j = aden X ρ (.arg c) (L.map (fun x => x.2)) j
  | [], _, h => by
    rcases h with h | ⟨x, hx, -⟩
    · exact h
    · cases hx
  | x :: r, h1, h => by
    obtain ⟨e1, e2⟩ := h1 x List.mem_cons_self
    simp only [List.map_cons, aden]
    rw [← e1, e2]
    by_cases hj : (sd X ρ x.1.1).1.toNatClampNeg = j
    · rw [if_pos hj, if_pos hj]
    · rw [if_neg hj, if_neg hj]
      refine aden_2 r (fun y hy => h1 y (List.mem_cons_of_mem _ hy)) ?_
      rcases h with h | ⟨y, hy, hyj⟩
      · exact .inl h
      · rcases List.mem_cons.mp hy with q | q
        · subst q; exact absurd hyj hj
        · exact .inr ⟨y, q, hyj⟩
theorem bd_ii {X : pX} {ρ : sR} {a j : Nat} (h : a % 2 = 0) : bden X ρ (.arg a) j = .int (ρ.2.2.1 a j) := by
  unfold bden
  dsimp only
  rw [if_neg (by omega)]
theorem by_m {X : pX} {ρ : sR} (hv : vok X ρ) {x t : sT} (hx : sk x = 0) (ht : sk t = 0) (h : tbv [] (.op2 .iand x (.int 255)) t = true) : sc X ρ (2, t, .int 0) = false ∧ sc X ρ (2, .int 255, t) = false := by
  have e : (sd X ρ x).1 &&& 255 = (sd X ρ t).1 := Value.int.inj ((sv_int (X := X) (ρ := ρ) (t := .op2 .iand x (.int 255)) rfl).symm.trans ((by_v hv h).trans (sv_int ht)))
  have r := by_rng (x := (sd X ρ x).1)
  rw [e] at r
  have z0 : (0 : Int32).toInt = 0 := rfl
  have z1 : (255 : Int32).toInt = 255 := rfl
  exact ⟨decide_eq_false (fun q => by have q := Int32.lt_iff_toInt_lt.mp q; have q : (sd X ρ t).1.toInt < (0 : Int32).toInt := q; omega), decide_eq_false (fun q => by have q := Int32.lt_iff_toInt_lt.mp q; have q : (255 : Int32).toInt < (sd X ρ t).1.toInt := q; omega)⟩
theorem al_new {X : pX} {ρ ρ3 : sR} {a c : Nat} (ha : a % 2 = 0) (hc : c % 2 = 0) {j : Nat} {L : List ((sT × sT) × sT × sT)} (h1 : bden X ρ3 (.arg a) j = aden X ρ (.arg a) (L.map (fun x => x.1)) j) (h2 : bden X ρ3 (.arg c) j = aden X ρ (.arg c) (L.map (fun x => x.2)) j) (hL : ∀ x ∈ L, (sd X ρ x.1.1).1 = (sd X ρ x.2.1).1 ∧ sv X ρ x.1.2 = sv X ρ x.2.2) (h : ρ.2.2.1 a j = ρ.2.2.1 c j ∨ ∃ x ∈ L, (sd X ρ x.1.1).1.toNatClampNeg = j) : ρ3.2.2.1 a j = ρ3.2.2.1 c j := by
  have e := aden_2 (X := X) (ρ := ρ) (a := a) (c := c) (j := j) L hL (by
    rcases h with h | h
    · rw [bd_ii ha, bd_ii hc, h]; exact .inl rfl
    · exact .inr h)
  rw [← h1, ← h2, bd_ii ha, bd_ii hc] at e
  exact Value.int.inj e
