/-! ===== the highest bit of a long that is small: less or not ===== -/
section HBIT
variable {X : pX} {ρ : sR} {F : sFs}
noncomputable def hdec (F : sFs) (c : sQ) : Option Bool := match c with
  | (8, t, .long m) => (match (List.range 62).find? (fun k => decide (m.toBitVec = BitVec.twoPow 64 k)) with
    | some k => if sk t = 1 ∧ 0 ≤ (sivL F t).1 ∧ (sivL F t).2 < 2 * 2 ^ k then qfind (6, .op2 .land t (.long m), .long 0) F else none
    | none => none)
  | _ => none
theorem l_high {x m : Int64} {k : Nat} (hk : k < 62) (hm : m.toBitVec = BitVec.twoPow 64 k) (h0 : 0 ≤ x.toInt) (h1 : x.toInt < 2 * 2 ^ k) : (x &&& m = 0 ↔ x < m) := by
  obtain ⟨-, ex⟩ := l_nn h0
  have hp : (2 : Nat) ^ k < 2 ^ 62 := Nat.pow_lt_pow_right (by decide) hk
  have em : m.toBitVec.toNat = 2 ^ k := by
    rw [hm, BitVec.toNat_twoPow]
    exact Nat.mod_eq_of_lt (by omega)
  have e2 : m.toInt = ((2 ^ k : Nat) : Int) := by
    have hb : m.toBitVec.msb = false := by
      rw [BitVec.msb_eq_false_iff_two_mul_lt]
      omega
    rw [← em]
    exact BitVec.toInt_eq_toNat_of_msb hb
  have ep : ((2 ^ k : Nat) : Int) = (2 : Int) ^ k := by rw [Int.natCast_pow]; rfl
  have ha : x.toBitVec.toNat < 2 * 2 ^ k := by
    have h9 : (x.toBitVec.toNat : Int) < 2 * ((2 ^ k : Nat) : Int) := by rw [← ex, ep]; exact h1
    omega
  have e3 : (x &&& m = 0) ↔ x.toBitVec.getLsbD k = false := by
    rw [← (and_tp (show k < 64 by omega) x.toBitVec).1, ← hm, ← Int64.toBitVec_and]
    exact ⟨fun e => by rw [e]; rfl, fun e => Int64.toBitVec_inj.mp e⟩
  rw [e3, Int64.lt_iff_toInt_lt, e2, ex]
  have e4 : x.toBitVec.getLsbD k = decide (x.toBitVec.toNat / 2 ^ k % 2 = 1) := Nat.testBit_eq_decide_div_mod_eq
  rw [e4, decide_eq_false_iff_not]
  by_cases hlt : x.toBitVec.toNat < 2 ^ k
  · have : x.toBitVec.toNat / 2 ^ k = 0 := Nat.div_eq_of_lt hlt
    rw [this]
    constructor
    · intro _; omega
    · intro _; omega
  · have : x.toBitVec.toNat / 2 ^ k = 1 := Nat.div_eq_of_lt_le (by omega) (by omega)
    rw [this]
    constructor
    · intro h; omega
    · intro h; omega
theorem hdec_ok (hF : fok X ρ F) {c : sQ} {b : Bool} (h : hdec F c = some b) : sc X ρ c = b := by
  unfold hdec at h
  split at h
  · next t m =>
    split at h
    · next k hk =>
      split at h
      · next hc =>
        have h1 := qfind_ok hF.2 h
        have h2 := sivL_ok hF t
        rw [sn_l hc.1] at h2
        have hk2 := List.mem_range.mp (List.mem_of_find?_eq_some hk)
        have hm : m.toBitVec = BitVec.twoPow 64 k := of_decide_eq_true (List.find?_some (p := fun k => decide (m.toBitVec = BitVec.twoPow 64 k)) hk)
        rw [← h1]
        show decide ((sd X ρ t).2 < m) = decide ((sd X ρ t).2 &&& m = 0)
        exact decide_eq_decide.mpr (l_high hk2 hm (by omega) (by omega)).symm
      · cases h
    · cases h
  · cases h
end HBIT
/-! ===== a long that is an int: there and back ===== -/
section NDEC
variable {X : pX} {ρ : sR} {F : sFs}
noncomputable def nlz (F : sFs) (t : sT) : sT := match t with
  | .op1 .i2l (.op1 .l2i x) => if sk x = 1 ∧ -2147483648 ≤ (sivL F x).1 ∧ (sivL F x).2 ≤ 2147483647 then x else .op1 .i2l (.op1 .l2i x)
  | t => t
theorem l_back {x : Int64} (h1 : -2147483648 ≤ x.toInt) (h2 : x.toInt ≤ 2147483647) : x.toInt32.toInt64 = x := by
  apply Int64.toInt_inj.mp
  rw [Int32.toInt_toInt64, Int64.toInt_toInt32]
  exact Int.bmod_eq_of_le (by omega) (by omega)
theorem nlz_ok (hF : fok X ρ F) (t : sT) : (sd X ρ (nlz F t)).2 = (sd X ρ t).2 := by
  unfold nlz
  split
  · next x =>
    split
    · next hc =>
      have h := sivL_ok hF x
      rw [sn_l hc.1] at h
      exact (l_back (by omega) (by omega)).symm
    · rfl
  · rfl
noncomputable def ndec (F : sFs) (c : sQ) : Option Bool := bif (Nat.beq c.1 6 || Nat.beq c.1 8) && !(tqe (nlz F c.2.1) c.2.1 && tqe (nlz F c.2.2) c.2.2) then (match qfind (c.1, nlz F c.2.1, nlz F c.2.2) F with
  | some b => some b
  | none => match sdec F (c.1, nlz F c.2.1, nlz F c.2.2) with
    | some b => some b
    | none => bif Nat.beq c.1 6 then qfind (c.1, nlz F c.2.2, nlz F c.2.1) F else none) else none
theorem ndec_ok (hF : fok X ρ F) {c : sQ} {b : Bool} (h : ndec F c = some b) : sc X ρ c = b := by
  obtain ⟨k, a, d⟩ := c
  unfold ndec at h
  cases hc : (Nat.beq k 6 || Nat.beq k 8) && !(tqe (nlz F a) a && tqe (nlz F d) d) with
  | false => dsimp only at h; rw [hc] at h; cases h
  | true =>
    dsimp only at h
    rw [hc] at h
    simp only [Bool.and_eq_true, Bool.or_eq_true] at hc
    have e1 := nlz_ok (X := X) (ρ := ρ) hF a
    have e2 := nlz_ok (X := X) (ρ := ρ) hF d
    have key : sc X ρ (k, nlz F a, nlz F d) = sc X ρ (k, a, d) := by
      rcases hc.1 with h6 | h6
      · rw [Nat.eq_of_beq_eq_true h6]
        show decide ((sd X ρ (nlz F a)).2 = (sd X ρ (nlz F d)).2) = decide ((sd X ρ a).2 = (sd X ρ d).2)
        rw [e1, e2]
      · rw [Nat.eq_of_beq_eq_true h6]
        show decide ((sd X ρ (nlz F a)).2 < (sd X ρ (nlz F d)).2) = decide ((sd X ρ a).2 < (sd X ρ d).2)
        rw [e1, e2]
    dsimp only [cond_true] at h
    split at h
    · next b' hb => cases h; rw [← key]; exact qfind_ok hF.2 hb
    · split at h
      · next b' hb => cases h; rw [← key]; exact sdec_ok hF hb
      · cases h6 : Nat.beq k 6 with
        | false => rw [h6] at h; cases h
        | true =>
          rw [h6] at h
          have h1 := qfind_ok hF.2 h
          rw [← h1, Nat.eq_of_beq_eq_true h6]
          show decide ((sd X ρ a).2 = (sd X ρ d).2) = decide ((sd X ρ (nlz F d)).2 = (sd X ρ (nlz F a)).2)
          rw [e1, e2]
          exact decide_eq_decide.mpr ⟨Eq.symm, Eq.symm⟩
end NDEC
/-! ===== ints cut to so many bits ===== -/
section TIAND
variable {X : pX} {ρ : sR} {F : sFs}
noncomputable def tiand (F : sFs) (a b : sT) : Bool := match a with
  | .op2 .iand x (.int m) => sk x == 0 && (sk b == 0 && ((decide (m = 0) && decide (b = .int 0)) || (decide (0 ≤ (sivl F x).1) && (decide ((sivl F x).2 ≤ m.toInt) && ((List.range 31).any (fun k => decide (m.toInt = 2 ^ k - 1)) && (tqe x b || leq x b))))))
  | _ => false
theorem tiand_ok (hF : fok X ρ F) {a b : sT} (h : tiand F a b = true) : sv X ρ a = sv X ρ b := by
  unfold tiand at h
  split at h
  · next x m =>
    simp only [Bool.and_eq_true, beq_iff_eq, decide_eq_true_eq, List.any_eq_true, Bool.or_eq_true] at h
    obtain ⟨h1, h2, h | h⟩ := h
    · rw [h.1, h.2]
      show Value.int ((sd X ρ x).1 &&& 0) = Value.int 0
      rw [Int32.and_zero]
    · obtain ⟨h3, h4, ⟨k, -, hk⟩, h5⟩ := h
      have hx := sivl_ok hF x
      rw [sn_i h1] at hx
      have exb : sv X ρ x = sv X ρ b := by
        rcases h5 with h5 | h5
        · rw [tqe_ok _ _ h5]
        · exact leq_ok h5
      rw [← exb, sv_int h1]
      show Value.int ((sd X ρ x).1 &&& m) = _
      rw [i_and hk (by omega) (by omega)]
  · cases h
end TIAND
