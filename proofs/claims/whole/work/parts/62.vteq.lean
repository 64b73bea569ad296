/-! ===== terms that are the same by sums, and by bits ===== -/
section TEQ
variable {X : pX} {ρ : sR} {F : sFs} {σ : sM}
/-- one bit of a term, where the facts tell it -/
noncomputable def tbit (F : sFs) (a b : sT) : Bool := match a with
  | .op2 .iand (.op2 .iushr w (.int k)) (.int m) => decide (m = 1) && (sk w == 0 && (Nat.blt k.toNatClampNeg 32 && (decide (k = Int32.ofNat k.toNatClampNeg) && (match bdec F (0, .op2 .iand w (.int (Int32.ofBitVec (BitVec.twoPow 32 k.toNatClampNeg))), .int 0) with
    | some true => decide (b = .int 0)
    | some false => decide (b = .int 1)
    | none => false))))
  | _ => false
theorem tbit_ok (hF : fok X ρ F) {a b : sT} (h : tbit F a b = true) : sv X ρ a = sv X ρ b := by
  unfold tbit at h
  split at h
  · next w k m =>
    simp only [Bool.and_eq_true, decide_eq_true_eq, beq_iff_eq] at h
    obtain ⟨rfl, hw, hk, hke, h⟩ := h
    have hk : k.toNatClampNeg < 32 := Nat.blt_eq.mp hk
    generalize hn : k.toNatClampNeg = n at hk hke h
    have hsh : ∀ n : Nat, n < 32 → (((Int32.ofNat n).toBitVec &&& (31 : Int32).toBitVec) % 32#32).toNat = n := by decide
    have hbits : ∀ x : Int32, ((x.toUInt32 >>> (k.toUInt32 &&& Int32.toUInt32 31)).toInt32 &&& 1) = if x.toBitVec.getLsbD n = true then (1 : Int32) else 0 := by
      intro x
      apply Int32.toBitVec_inj.mp
      rw [Int32.toBitVec_and]
      have hs : (x.toUInt32 >>> (k.toUInt32 &&& Int32.toUInt32 31)).toInt32.toBitVec = x.toBitVec >>> n := by
        show (x.toUInt32 >>> (k.toUInt32 &&& Int32.toUInt32 31)).toBitVec = x.toBitVec >>> n
        rw [UInt32.toBitVec_shiftRight, UInt32.toBitVec_and, hke, BitVec.ushiftRight_eq']
        congr 1
        exact hsh n hk
      rw [hs]
      apply BitVec.eq_of_getLsbD_eq
      intro i hi
      rw [BitVec.getLsbD_and, BitVec.getLsbD_ushiftRight]
      cases i with
      | zero =>
        rw [Nat.add_zero]
        cases x.toBitVec.getLsbD n <;> rfl
      | succ i =>
        have e1 : (1 : Int32).toBitVec.getLsbD (i + 1) = false := by
          show (1#32).getLsbD (i + 1) = false
          rw [BitVec.getLsbD_one]
          simp
        rw [e1, Bool.and_false]
        cases x.toBitVec.getLsbD n with
        | false =>
          show false = (0#32).getLsbD (i + 1)
          simp
        | true => exact e1.symm
    have hz : ∀ x : Int32, decide (x &&& Int32.ofBitVec (BitVec.twoPow 32 n) = 0) = !(x.toBitVec.getLsbD n) := by
      intro x
      have e : (x &&& Int32.ofBitVec (BitVec.twoPow 32 n) = 0) ↔ (x.toBitVec &&& BitVec.twoPow 32 n = 0#32) := by
        rw [← Int32.toBitVec_inj, Int32.toBitVec_and]
        exact Iff.rfl
      have hne : ¬ BitVec.twoPow 32 n = 0#32 := fun h9 => by
        have h8 := congrArg (fun z => z.getLsbD n) h9
        simp [hk] at h8
      have e2 := BitVec.and_twoPow x.toBitVec n
      cases hb : x.toBitVec.getLsbD n with
      | false =>
        rw [hb] at e2
        exact decide_eq_true (e.mpr (by rw [e2]; rfl))
      | true =>
        rw [hb] at e2
        exact decide_eq_false (fun h7 => hne (by rw [e.mp h7] at e2; exact e2.symm))
    have hv : sv X ρ (.op2 .iand (.op2 .iushr w (.int k)) (.int 1)) = .int (if (sd X ρ w).1.toBitVec.getLsbD n = true then 1 else 0) := by
      rw [sv_int (t := .op2 .iand (.op2 .iushr w (.int k)) (.int 1)) rfl]
      exact congrArg Value.int (hbits (sd X ρ w).1)
    rw [hv]
    split at h
    · next hb =>
      have h1 := bdec_ok hF hb
      have h1 : decide ((sd X ρ w).1 &&& Int32.ofBitVec (BitVec.twoPow 32 n) = 0) = true := h1
      rw [hz] at h1
      have h1 : (sd X ρ w).1.toBitVec.getLsbD n = false := by simpa using h1
      rw [of_decide_eq_true h, h1]
      rfl
    · next hb =>
      have h1 := bdec_ok hF hb
      have h1 : decide ((sd X ρ w).1 &&& Int32.ofBitVec (BitVec.twoPow 32 n) = 0) = false := h1
      rw [hz] at h1
      have h1 : (sd X ρ w).1.toBitVec.getLsbD n = true := by simpa using h1
      rw [of_decide_eq_true h, h1]
      rfl
    · cases h
  · cases h
/-- neither is below the other -/
noncomputable def tanti (F : sFs) (a b : sT) : Bool := (sk a == 1 && (sk b == 1 && (ole F 8 3 a b && ole F 8 3 b a))) || (sk a == 0 && (sk b == 0 && (ole F 2 3 a b && ole F 2 3 b a)))
theorem tanti_ok (hF : fok X ρ F) {a b : sT} (h : tanti F a b = true) : sv X ρ a = sv X ρ b := by
  simp only [tanti, Bool.or_eq_true, Bool.and_eq_true, beq_iff_eq] at h
  rcases h with ⟨h1, h2, h3, h4⟩ | ⟨h1, h2, h3, h4⟩
  · have e1 : (sd X ρ a).2.toInt ≤ (sd X ρ b).2.toInt := ole_ok (Or.inr rfl) hF.2 3 a b h3
    have e2 : (sd X ρ b).2.toInt ≤ (sd X ρ a).2.toInt := ole_ok (Or.inr rfl) hF.2 3 b a h4
    rw [sv_long h1, sv_long h2, Int64.toInt_inj.mp (Int.le_antisymm e1 e2)]
  · have e1 : (sd X ρ a).1.toInt ≤ (sd X ρ b).1.toInt := ole_ok (Or.inl rfl) hF.2 3 a b h3
    have e2 : (sd X ρ b).1.toInt ≤ (sd X ρ a).1.toInt := ole_ok (Or.inl rfl) hF.2 3 b a h4
    rw [sv_int h1, sv_int h2, Int32.toInt_inj.mp (Int.le_antisymm e1 e2)]
/-- operations of longs that are the same -/
noncomputable def lop (o : Binary) : Bool := match o with
  | .lmul | .ladd | .lsub | .land | .lor | .lxor => true
  | _ => false
theorem lop_ok {o : Binary} (h : lop o = true) {p q p' q' : Int32 × Int64} (h1 : p.2 = p'.2) (h2 : q.2 = q'.2) : s2 o p q = s2 o p' q' := by
  cases o <;> first | (cases h; done) | (simp only [s2, h1, h2])
noncomputable def tneg0 (F : sFs) (a b : sT) : Bool := match a, b with
  | .op1 .lneg x, .long v => Nat.beq v.toBitVec.toNat 0 && (sk x == 1 && (ole F 8 3 x (.long 0) && ole F 8 3 (.long 0) x))
  | _, _ => false
theorem tneg0_ok (hF : fok X ρ F) {a b : sT} (h : tneg0 F a b = true) : (sd X ρ a).2 = (sd X ρ b).2 := by
  unfold tneg0 at h
  split at h
  · next x v =>
    simp only [Bool.and_eq_true, beq_iff_eq] at h
    obtain ⟨h1, h2, h3, h4⟩ := h
    have e1 : (sd X ρ x).2.toInt ≤ (0 : Int64).toInt := ole_ok (Or.inr rfl) hF.2 3 x (.long 0) h3
    have e2 : (0 : Int64).toInt ≤ (sd X ρ x).2.toInt := ole_ok (Or.inr rfl) hF.2 3 (.long 0) x h4
    have e3 : (sd X ρ x).2 = 0 := Int64.toInt_inj.mp (Int.le_antisymm e1 e2)
    show -(sd X ρ x).2 = v
    rw [e3, wlzero h1]
    rfl
  · cases h
/-- the same shift of two longs that a fact says to be the same -/
noncomputable def tsh (F : sFs) (a b : sT) : Bool := match a, b with
  | .op2 .lshl x k, .op2 .lshl y l => tqe k l && feq F x y
  | _, _ => false
theorem tsh_ok (hF : fok X ρ F) {a b : sT} (h : tsh F a b = true) : (sd X ρ a).2 = (sd X ρ b).2 := by
  unfold tsh at h
  split at h
  · next x k y l =>
    simp only [Bool.and_eq_true] at h
    show (sd X ρ x).2 <<< ((sd X ρ k).1.toInt64 &&& 63) = (sd X ρ y).2 <<< ((sd X ρ l).1.toInt64 &&& 63)
    rw [tqe_ok _ _ h.1, feq_ok hF h.2]
  · cases h
noncomputable def teq1 (F : sFs) (a b : sT) : Bool := tqe a b || (tanti F a b || (tneg0 F a b || (tneg0 F b a || tsh F a b)))
noncomputable def tcong (F : sFs) (a b : sT) : Bool := match a, b with
  | .op2 o x y, .op2 p z w => decide (o = p) && (lop o && ((sk x == 1 && sk z == 1) && ((sk y == 1 && sk w == 1) && (teq1 F x z && teq1 F y w))))
  | _, _ => false
theorem teq1_ok (hF : fok X ρ F) {a b : sT} (ha : sk a = 1) (hb : sk b = 1) (h : teq1 F a b = true) : (sd X ρ a).2 = (sd X ρ b).2 := by
  simp only [teq1, Bool.or_eq_true] at h
  rcases h with h | h | h | h | h
  · rw [tqe_ok _ _ h]
  · have e := tanti_ok hF h
    rw [sv_long ha, sv_long hb] at e
    exact Value.long.inj e
  · exact tneg0_ok hF h
  · exact (tneg0_ok hF h).symm
  · exact tsh_ok hF h
theorem tcong_ok (hF : fok X ρ F) {a b : sT} (h : tcong F a b = true) : sv X ρ a = sv X ρ b := by
  unfold tcong at h
  split at h
  · next o x y p z w =>
    simp only [Bool.and_eq_true, decide_eq_true_eq, beq_iff_eq] at h
    obtain ⟨rfl, h1, ⟨h2, h3⟩, ⟨h4, h5⟩, h6, h7⟩ := h
    have e := lop_ok h1 (teq1_ok hF h2 h3 h6) (teq1_ok hF h4 h5 h7)
    have hk : sk2 o = 1 := by cases o <;> first | (cases h1; done) | rfl
    rw [sv_long (t := .op2 o x y) hk, sv_long (t := .op2 o z w) hk]
    show Value.long (s2 o (sd X ρ x) (sd X ρ y)).2 = Value.long (s2 o (sd X ρ z) (sd X ρ w)).2
    rw [e]
  · cases h
/-- sums of longs, but for one or two of their terms that the facts tell of -/
noncomputable def wnz (l : List (sT × Int64)) : List (sT × Int64) := l.filter (fun q => !(Nat.beq q.2.toBitVec.toNat 0))
theorem wnz_ok : ∀ l : List (sT × Int64), wlsum X ρ (wnz l) = wlsum X ρ l
  | [] => rfl
  | q :: r => by
    have ih := wnz_ok r
    unfold wnz at ih ⊢
    cases hq : Nat.beq q.2.toBitVec.toNat 0 with
    | true =>
      rw [List.filter_cons_of_neg (by simp [hq]), ih]
      simp only [wlsum]
      rw [wlzero hq]
      grind
    | false =>
      rw [List.filter_cons_of_pos (by simp [hq])]
      simp only [wlsum]
      rw [ih]
noncomputable def tlin2 (F : sFs) (a b : sT) : Bool := (sk a == 1 && sk b == 1) && (let d := wladds (wllin a) (wlneg (wllin b)); Nat.beq d.2.toBitVec.toNat 0 && (match wnz d.1 with
  | [p] => sk p.1 == 1 && teq1 F p.1 (.long 0)
  | [p, q] => (sk p.1 == 1 && sk q.1 == 1) && (Nat.beq (p.2 + q.2).toBitVec.toNat 0 && teq1 F p.1 q.1)
  | _ => false))
theorem tlin2_ok (hF : fok X ρ F) {a b : sT} (h : tlin2 F a b = true) : sv X ρ a = sv X ρ b := by
  simp only [tlin2, Bool.and_eq_true, beq_iff_eq] at h
  obtain ⟨⟨h1, h2⟩, h3, h4⟩ := h
  have e : wlval X ρ (wladds (wllin a) (wlneg (wllin b))) = 0 := by
    show wlsum X ρ _ + _ = 0
    rw [wlzero h3, ← wnz_ok]
    split at h4
    · next p hp =>
      simp only [Bool.and_eq_true, beq_iff_eq] at h4
      have e1 := teq1_ok hF h4.1 (b := .long 0) rfl h4.2
      rw [hp]
      simp only [wlsum]
      rw [e1]
      show p.2 * (0 : Int64) + 0 + 0 = 0
      grind
    · next p q hp =>
      simp only [Bool.and_eq_true, beq_iff_eq] at h4
      obtain ⟨⟨h5, h6⟩, h7, h8⟩ := h4
      have e1 := teq1_ok hF h5 h6 h8
      have e2 := wlzero h7
      rw [hp]
      simp only [wlsum]
      rw [e1]
      grind
    · cases h4
  rw [wladds_ok, wlneg_ok, ← wllin_ok, ← wllin_ok] at e
  have e2 : (sd X ρ a).2 = (sd X ρ b).2 := by grind
  rw [sv_long h1, sv_long h2, e2]
/-- a head taken apart: t is 32 times u and c more -/
noncomputable def h32 (t : sT) : List (sT × Int32) × Int32 := lin t 1 ([], 0)
noncomputable def h32u (t : sT) : sT := lterm ((h32 t).1.map (fun q => (q.1, Int32.ofInt (q.2.toInt / 32)))) (Int32.ofInt ((h32 t).2.toInt / 32))
noncomputable def h32ok (F : sFs) (t : sT) : Bool := sk t == 0 && (sk (h32u t) == 0 && ((h32 t).1.all (fun q => decide (q.2 = 32 * Int32.ofInt (q.2.toInt / 32))) && (decide ((h32 t).2 = 32 * Int32.ofInt ((h32 t).2.toInt / 32) + Int32.ofInt ((h32 t).2.toInt % 32)) && (decide (0 ≤ (sivl F (h32u t)).1) && decide ((sivl F (h32u t)).2 ≤ 67108862)))))
theorem h32_sum : ∀ m : List (sT × Int32), (m.all (fun q => decide (q.2 = 32 * Int32.ofInt (q.2.toInt / 32)))) = true → lsum X ρ m = 32 * lsum X ρ (m.map (fun q => (q.1, Int32.ofInt (q.2.toInt / 32))))
  | [], _ => by simp only [List.map_nil, lsum]; grind
  | q :: r, h => by
    simp only [List.all_cons, Bool.and_eq_true, decide_eq_true_eq] at h
    simp only [List.map_cons, lsum]
    rw [h32_sum r h.2]
    have := h.1
    generalize Int32.ofInt (q.2.toInt / 32) = w at this ⊢
    rw [this]
    grind
theorem h32_ok (hF : fok X ρ F) {t : sT} (h : h32ok F t = true) : (sd X ρ t).1.toInt = 32 * (sd X ρ (h32u t)).1.toInt + (h32 t).2.toInt % 32 ∧ 0 ≤ (sd X ρ (h32u t)).1.toInt ∧ (sd X ρ (h32u t)).1.toInt ≤ 67108862 := by
  simp only [h32ok, Bool.and_eq_true, decide_eq_true_eq, beq_iff_eq] at h
  obtain ⟨h1, h2, h3, h4, h5, h6⟩ := h
  have e1 := lin_ok (X := X) (ρ := ρ) t 1 ([], 0)
  have e2 : (sd X ρ (h32u t)).1 = lsum X ρ ((h32 t).1.map (fun q => (q.1, Int32.ofInt (q.2.toInt / 32)))) + Int32.ofInt ((h32 t).2.toInt / 32) := lterm_d _ _
  have e3 := h32_sum (X := X) (ρ := ρ) (h32 t).1 h3
  have hb := sivl_ok hF (h32u t)
  rw [sn_i h2] at hb
  have e4 : (sd X ρ t).1 = 32 * (sd X ρ (h32u t)).1 + Int32.ofInt ((h32 t).2.toInt % 32) := by
    have e1 : lsum X ρ (h32 t).1 + (h32 t).2 = lsum X ρ [] + 0 + 1 * (sd X ρ t).1 := e1
    rw [e3, h4] at e1
    rw [e2]
    simp only [lsum] at e1
    generalize Int32.ofInt ((h32 t).2.toInt / 32) = w at e1 ⊢
    generalize Int32.ofInt ((h32 t).2.toInt % 32) = z at e1 ⊢
    generalize lsum X ρ ((h32 t).1.map (fun q => (q.1, Int32.ofInt (q.2.toInt / 32)))) = y at e1 ⊢
    grind
  generalize (sd X ρ (h32u t)).1 = U at e4 hb ⊢
  generalize hk : (h32 t).2.toInt % 32 = k at e4 ⊢
  have hk0 : 0 ≤ k ∧ k < 32 := by omega
  have e5 : (Int32.ofInt k).toInt = k := Int32.toInt_ofInt_of_le (by omega) (by omega)
  have e6 : (32 * U).toInt = 32 * U.toInt := s_mul (x := 32) (y := U) (by show _ ≤ 32 * U.toInt; omega) (by show 32 * U.toInt ≤ _; omega)
  refine ⟨?_, by omega, by omega⟩
  rw [e4, s_add (by rw [e5, e6]; omega) (by rw [e5, e6]; omega), e5, e6]
theorem ushr_nn {x : Int32} (hx : 0 ≤ x.toInt) {n : Nat} (hn : n < 32) : ((x.toUInt32 >>> ((Int32.ofNat n).toUInt32 &&& Int32.toUInt32 31)).toInt32).toInt = x.toInt / (2 ^ n : Nat) := by
  have hsh : ∀ n : Nat, n < 32 → (((Int32.ofNat n).toBitVec &&& (31 : Int32).toBitVec) % 32#32).toNat = n := by decide
  have hs : (x.toUInt32 >>> ((Int32.ofNat n).toUInt32 &&& Int32.toUInt32 31)).toInt32.toBitVec = x.toBitVec >>> n := by
    show (x.toUInt32 >>> ((Int32.ofNat n).toUInt32 &&& Int32.toUInt32 31)).toBitVec = x.toBitVec >>> n
    rw [UInt32.toBitVec_shiftRight, UInt32.toBitVec_and, BitVec.ushiftRight_eq']
    congr 1
    exact hsh n hn
  have hm : x.toBitVec.msb = false := by
    rw [BitVec.msb_eq_toInt]
    exact decide_eq_false (Int.not_lt.mpr hx)
  have e1 : x.toInt = (x.toBitVec.toNat : Int) := BitVec.toInt_eq_toNat_of_msb hm
  have hlt : x.toBitVec.toNat < 2147483648 := by
    have := Int32.toInt_lt x
    omega
  have h2 : (x.toBitVec >>> n).toNat = x.toBitVec.toNat / 2 ^ n := by rw [BitVec.toNat_ushiftRight, Nat.shiftRight_eq_div_pow]
  have hle : x.toBitVec.toNat / 2 ^ n ≤ x.toBitVec.toNat := Nat.div_le_self _ _
  show ((x.toUInt32 >>> ((Int32.ofNat n).toUInt32 &&& Int32.toUInt32 31)).toInt32).toBitVec.toInt = _
  rw [hs, BitVec.toInt_eq_toNat_of_lt (by rw [h2]; omega), h2, e1]
  exact Int.natCast_ediv _ _
theorem and_nn {x m : Int32} (hx : 0 ≤ x.toInt) (hm : 0 ≤ m.toInt) : (x &&& m).toInt = ((x.toInt.toNat &&& m.toInt.toNat : Nat) : Int) := by
  have h1 : x.toBitVec.msb = false := by
    rw [BitVec.msb_eq_toInt]
    exact decide_eq_false (Int.not_lt.mpr hx)
  have h2 : m.toBitVec.msb = false := by
    rw [BitVec.msb_eq_toInt]
    exact decide_eq_false (Int.not_lt.mpr hm)
  have h3 : (x &&& m).toBitVec.msb = false := by rw [Int32.toBitVec_and, BitVec.msb_and, h2, Bool.and_false]
  have e1 : x.toInt = (x.toBitVec.toNat : Int) := BitVec.toInt_eq_toNat_of_msb h1
  have e2 : m.toInt = (m.toBitVec.toNat : Int) := BitVec.toInt_eq_toNat_of_msb h2
  show (x &&& m).toBitVec.toInt = _
  rw [BitVec.toInt_eq_toNat_of_msb h3, Int32.toBitVec_and, BitVec.toNat_and, e1, e2, Int.toNat_natCast, Int.toNat_natCast]
/-- what is looked at of a head, where the head is a sum -/
noncomputable def thead (F : sFs) (a b : sT) : Bool := match a with
  | .op2 .iushr t (.int k) => decide (k = 5) && (h32ok F t && leq (h32u t) b)
  | .op2 .iand x (.int m) => (match x with
    | .op2 .iushr t (.int k) => decide (k = 4) && (decide (m = 1) && (h32ok F t && decide (b = .int (Int32.ofInt ((h32 t).2.toInt % 32 / 16)))))
    | t => decide (m = 15) && (h32ok F t && decide (b = .int (Int32.ofInt ((h32 t).2.toInt % 32 % 16)))))
  | _ => false
theorem thead_ok (hF : fok X ρ F) {a b : sT} (h : thead F a b = true) : sv X ρ a = sv X ρ b := by
  unfold thead at h
  split at h
  · next t k =>
    simp only [Bool.and_eq_true, decide_eq_true_eq] at h
    obtain ⟨rfl, h1, h2⟩ := h
    obtain ⟨e1, e2, e3⟩ := h32_ok hF h1
    rw [← leq_ok h2]
    simp only [h32ok, Bool.and_eq_true, beq_iff_eq] at h1
    rw [sv_int h1.2.1]
    show Value.int ((sd X ρ t).1.toUInt32 >>> ((Int32.ofNat 5).toUInt32 &&& Int32.toUInt32 31)).toInt32 = _
    congr 1
    apply Int32.toInt_inj.mp
    rw [ushr_nn (by omega) (by omega), e1]
    show _ / 32 = _
    omega
  · next x m =>
    split at h
    · next t k =>
      simp only [Bool.and_eq_true, decide_eq_true_eq] at h
      obtain ⟨rfl, rfl, h1, rfl⟩ := h
      obtain ⟨e1, e2, e3⟩ := h32_ok hF h1
      show Value.int (((sd X ρ t).1.toUInt32 >>> ((Int32.ofNat 4).toUInt32 &&& Int32.toUInt32 31)).toInt32 &&& 1) = Value.int (Int32.ofInt ((h32 t).2.toInt % 32 / 16))
      congr 1
      apply Int32.toInt_inj.mp
      have e4 := ushr_nn (x := (sd X ρ t).1) (by omega) (show 4 < 32 by omega)
      have e4 : ((sd X ρ t).1.toUInt32 >>> ((Int32.ofNat 4).toUInt32 &&& Int32.toUInt32 31)).toInt32.toInt = (sd X ρ t).1.toInt / 16 := e4
      rw [and_nn (by rw [e4]; omega) (by decide), e4, Int32.toInt_ofInt_of_le (by omega) (by omega), e1]
      have e5 : (1 : Int32).toInt.toNat = 1 := by decide
      rw [e5, Nat.and_one_is_mod]
      omega
    · next t _ =>
      simp only [Bool.and_eq_true, decide_eq_true_eq] at h
      obtain ⟨rfl, h1, rfl⟩ := h
      obtain ⟨e1, e2, e3⟩ := h32_ok hF h1
      show Value.int ((sd X ρ x).1 &&& 15) = Value.int (Int32.ofInt ((h32 x).2.toInt % 32 % 16))
      congr 1
      apply Int32.toInt_inj.mp
      rw [and_nn (by omega) (by decide), Int32.toInt_ofInt_of_le (by omega) (by omega), e1]
      have e5 : (15 : Int32).toInt.toNat = 2 ^ 4 - 1 := by decide
      rw [e5, Nat.and_two_pow_sub_one_eq_mod]
      omega
  · cases h
/-- floorDiv of two longs that a fact says to be the same -/
noncomputable def tfd (F : sFs) (a b : sT) : Bool := match a, b with
  | .op2 .lsub (.op2 .ldiv x _) _, .op2 .lsub (.op2 .ldiv y _) _ => feq F x y && (tqe a (fdT x) && tqe b (fdT y))
  | _, _ => false
theorem tfd_ok (hF : fok X ρ F) {a b : sT} (h : tfd F a b = true) : sv X ρ a = sv X ρ b := by
  unfold tfd at h
  split at h
  · next x _ _ y _ _ =>
    simp only [Bool.and_eq_true] at h
    obtain ⟨h1, h2, h3⟩ := h
    have e1 := congrArg (sv X ρ) (tqe_ok _ _ h2)
    have e2 := congrArg (sv X ρ) (tqe_ok _ _ h3)
    rw [fdT_v] at e1 e2
    exact e1.trans ((congrArg Value.long (congrArg fdv (feq_ok hF h1))).trans e2.symm)
  · cases h
/-- the same by one fact, or by two -/
noncomputable def tfq (F : sFs) (a b : sT) : Bool := (eqto F a).any (fun u => tqe u b || (eqto F b).any (fun w => tqe u w))
theorem tfq_ok (hF : fok X ρ F) {a b : sT} (h : tfq F a b = true) : sv X ρ a = sv X ρ b := by
  have one : ∀ {t u : sT}, u ∈ eqto F t → sv X ρ u = sv X ρ t := fun {t u} hu => by
    obtain ⟨e0, e1, e2⟩ := eqto_ok hF hu
    rcases e2 with e2 | e2
    · rw [sv_int e2, sv_int (e0 e2).1, (e0 e2).2]
    · rw [sv_long e2, sv_long (e1 e2).1, (e1 e2).2]
  obtain ⟨u, hu, h⟩ := List.any_eq_true.mp h
  simp only [Bool.or_eq_true] at h
  rcases h with h | h
  · rw [← one hu, tqe_ok _ _ h]
  · obtain ⟨w, hw, h⟩ := List.any_eq_true.mp h
    rw [← one hu, tqe_ok _ _ h, one hw]
noncomputable def teqX (F : sFs) (a b : sT) : Bool := tqe a b || (teqF a b || (teq F a b || (leq a b || (tbit F a b || (tanti F a b || (tcong F a b || (tlin a b || (tlin2 F a b || (thead F a b || ((sk a == 1 && (sk b == 1 && teq1 F a b)) || (tland F a b || (tland F b a || (tz F a b || (tlin3 F a b || (tiand F a b || (tiand F b a || (tfd F a b || (tfq F a b || tbv F a b))))))))))))))))))
theorem teqX_ok (hF : fok X ρ F) {a b : sT} (h : teqX F a b = true) : sv X ρ a = sv X ρ b := by
  simp only [teqX, Bool.or_eq_true] at h
  rcases h with h | h | h | h | h | h | h | h | h | h | h | h | h | h | h | h | h | h | h | h
  · rw [tqe_ok _ _ h]
  · exact teqF_ok h
  · exact teq_ok hF h
  · exact leq_ok h
  · exact tbit_ok hF h
  · exact tanti_ok hF h
  · exact tcong_ok hF h
  · exact tlin_ok h
  · exact tlin2_ok hF h
  · exact thead_ok hF h
  · simp only [Bool.and_eq_true, beq_iff_eq] at h
    rw [sv_long h.1, sv_long h.2.1, teq1_ok hF h.1 h.2.1 h.2.2]
  · exact tland_ok hF h
  · exact (tland_ok hF h).symm
  · exact tz_ok hF h
  · exact tlin3_ok hF h
  · exact tiand_ok hF h
  · exact (tiand_ok hF h).symm
  · exact tfd_ok hF h
  · exact tfq_ok hF h
  · exact tbv_ok hF h
noncomputable def sbit (F : sFs) (c : sQ) : Option Bool := match c with
  | (0, t, .int v) => if tbit F t (.int 0) = true then some (decide ((0 : Int32) = v)) else if tbit F t (.int 1) = true then some (decide ((1 : Int32) = v)) else none
  | _ => none
theorem sbit_ok (hF : fok X ρ F) {c : sQ} {b : Bool} (h : sbit F c = some b) : sc X ρ c = b := by
  unfold sbit at h
  split at h
  · next t v =>
    show decide ((sd X ρ t).1 = v) = b
    split at h
    · next ht =>
      cases h
      have h1 : sv X ρ t = .int 0 := tbit_ok hF ht
      rw [sv_d h1]
    · split at h
      · next ht =>
        cases h
        have h1 : sv X ρ t = .int 1 := tbit_ok hF ht
        rw [sv_d h1]
      · cases h
  · cases h
noncomputable def edec2 (F : sFs) (c : sQ) : Option Bool := (eqto F c.2.1).findSome? (fun u => if skok (c.1, u, c.2.2) = true then (match bdec F (c.1, u, c.2.2) with
  | some b => some b
  | none => sbit F (c.1, u, c.2.2)) else none)
theorem edec2_ok (hF : fok X ρ F) {c : sQ} {b : Bool} (h : edec2 F c = some b) : sc X ρ c = b := by
  obtain ⟨k, x, y⟩ := c
  unfold edec2 at h
  dsimp only at h
  obtain ⟨u, hu, he⟩ := List.exists_of_findSome?_eq_some h
  split at he
  · next hk =>
    obtain ⟨e0, e1, -⟩ := eqto_ok hF hu
    rw [← sc_kind (a := u) (fun q => (e0 q).2) (fun q => (e1 q).2) hk]
    split at he
    · next b' hb => cases he; exact bdec_ok hF hb
    · exact sbit_ok hF he
  · cases he
/-- a fact of the same longs -/
noncomputable def fdecl (F : sFs) (a b : sT) : Bool := tqe a b || (tlin a b || tlin2 F a b)
noncomputable def fdec (F : sFs) (c : sQ) : Option Bool := bif Nat.beq c.1 6 || Nat.beq c.1 8 then F.findSome? (fun f => bif Nat.beq f.1.1 c.1 then (bif skok f.1 && (skok c && (fdecl F f.1.2.1 c.2.1 && fdecl F f.1.2.2 c.2.2)) then some f.2 else none) else none) else none
theorem fdecl_ok (hF : fok X ρ F) {a b : sT} (ha : sk a = 1) (hb : sk b = 1) (h : fdecl F a b = true) : (sd X ρ a).2 = (sd X ρ b).2 := by
  have e : sv X ρ a = sv X ρ b := by
    simp only [fdecl, Bool.or_eq_true] at h
    rcases h with h | h | h
    · rw [tqe_ok _ _ h]
    · exact tlin_ok h
    · exact tlin2_ok hF h
  rw [sv_long ha, sv_long hb] at e
  exact Value.long.inj e
theorem fdec_ok (hF : fok X ρ F) {c : sQ} {v : Bool} (h : fdec F c = some v) : sc X ρ c = v := by
  obtain ⟨k, a, b⟩ := c
  unfold fdec at h
  dsimp only at h
  cases hk : Nat.beq k 6 || Nat.beq k 8 with
  | false => rw [hk] at h; cases h
  | true =>
    rw [hk] at h
    simp only [cond_true] at h
    obtain ⟨f, hf, h1⟩ := List.exists_of_findSome?_eq_some h
    have h2 := hF.2 f hf
    obtain ⟨⟨j, p, q⟩, w⟩ := f
    dsimp only at h1 h2
    cases hj : Nat.beq j k with
    | false => rw [hj] at h1; cases h1
    | true =>
      rw [hj] at h1
      simp only [cond_true] at h1
      have hj := Nat.eq_of_beq_eq_true hj
      subst hj
      cases hq : skok (j, p, q) && (skok (j, a, b) && (fdecl F p a && fdecl F q b)) with
      | false => rw [hq] at h1; cases h1
      | true =>
        rw [hq] at h1
        cases h1
        simp only [Bool.and_eq_true] at hq
        obtain ⟨q1, q2, q3, q4⟩ := hq
        have hk' : j = 6 ∨ j = 8 := by
          simp only [Bool.or_eq_true] at hk
          rcases hk with e | e
          · exact Or.inl (Nat.eq_of_beq_eq_true e)
          · exact Or.inr (Nat.eq_of_beq_eq_true e)
        have kk : (sk p = 1 ∧ sk q = 1) ∧ (sk a = 1 ∧ sk b = 1) := by
          rcases hk' with rfl | rfl
          · exact ⟨by simpa [skok] using q1, by simpa [skok] using q2⟩
          · exact ⟨by simpa [skok] using q1, by simpa [skok] using q2⟩
        have e1 := fdecl_ok hF kk.1.1 kk.2.1 q3
        have e2 := fdecl_ok hF kk.1.2 kk.2.2 q4
        rw [← h2]
        rcases hk' with rfl | rfl
        · show decide ((sd X ρ a).2 = (sd X ρ b).2) = decide ((sd X ρ p).2 = (sd X ρ q).2)
          rw [e1, e2]
        · show decide ((sd X ρ a).2 < (sd X ρ b).2) = decide ((sd X ρ p).2 < (sd X ρ q).2)
          rw [e1, e2]
/-- ... or of what a fact speaks of, if it is the same -/
noncomputable def ycdec1 (F : sFs) (c : sQ) (u : sT) : Option Bool := bif (skok (c.1, u, c.2.2) && skok c) && (!(tqe u c.2.1) && fdecl F u c.2.1) then (match sdec F (c.1, u, c.2.2) with
  | some b => some b
  | none => odec F (c.1, u, c.2.2)) else none
noncomputable def ycdec (F : sFs) (c : sQ) : Option Bool := bif Nat.beq c.1 6 || Nat.beq c.1 8 then F.findSome? (fun f => bif Nat.beq f.1.1 6 || Nat.beq f.1.1 8 then (match ycdec1 F c f.1.2.1 with
  | some b => some b
  | none => ycdec1 F c f.1.2.2) else none) else none
theorem ycdec1_ok (hF : fok X ρ F) {c : sQ} {u : sT} {v : Bool} (hk : c.1 = 6 ∨ c.1 = 8) (h : ycdec1 F c u = some v) : sc X ρ c = v := by
  obtain ⟨k, a, b⟩ := c
  unfold ycdec1 at h
  dsimp only at h hk
  cases hc : (skok (k, u, b) && skok (k, a, b)) && (!(tqe u a) && fdecl F u a) with
  | false => rw [hc] at h; cases h
  | true =>
    rw [hc] at h
    simp only [cond_true] at h
    simp only [Bool.and_eq_true] at hc
    obtain ⟨⟨q1, q2⟩, -, q3⟩ := hc
    have kk : (sk u = 1 ∧ sk b = 1) ∧ (sk a = 1 ∧ sk b = 1) := by
      rcases hk with rfl | rfl
      · exact ⟨by simpa [skok] using q1, by simpa [skok] using q2⟩
      · exact ⟨by simpa [skok] using q1, by simpa [skok] using q2⟩
    have e1 := fdecl_ok hF kk.1.1 kk.2.1 q3
    have e2 : sc X ρ (k, u, b) = v := by
      split at h
      · next b' hb => cases h; exact sdec_ok hF hb
      · exact odec_ok hF.2 h
    rw [← e2]
    rcases hk with rfl | rfl
    · show decide ((sd X ρ a).2 = (sd X ρ b).2) = decide ((sd X ρ u).2 = (sd X ρ b).2)
      rw [e1]
    · show decide ((sd X ρ a).2 < (sd X ρ b).2) = decide ((sd X ρ u).2 < (sd X ρ b).2)
      rw [e1]
theorem ycdec_ok (hF : fok X ρ F) {c : sQ} {v : Bool} (h : ycdec F c = some v) : sc X ρ c = v := by
  unfold ycdec at h
  cases hk : Nat.beq c.1 6 || Nat.beq c.1 8 with
  | false => rw [hk] at h; cases h
  | true =>
    rw [hk] at h
    simp only [cond_true] at h
    have hk' : c.1 = 6 ∨ c.1 = 8 := by
      simp only [Bool.or_eq_true] at hk
      rcases hk with e | e
      · exact Or.inl (Nat.eq_of_beq_eq_true e)
      · exact Or.inr (Nat.eq_of_beq_eq_true e)
    obtain ⟨f, hf, h1⟩ := List.exists_of_findSome?_eq_some h
    cases hj : Nat.beq f.1.1 6 || Nat.beq f.1.1 8 with
    | false => rw [hj] at h1; cases h1
    | true =>
      rw [hj] at h1
      simp only [cond_true] at h1
      split at h1
      · next b' hb => cases h1; exact ycdec1_ok hF hk' hb
      · exact ycdec1_ok hF hk' h1
noncomputable def xdecX (F : sFs) (c : sQ) : Option Bool := match xdec F c with
  | some b => some b
  | none => match sbit F c with
    | some b => some b
    | none => match edec2 F c with
      | some b => some b
      | none => match zdec F c with
        | some b => some b
        | none => match fdec F c with
          | some b => some b
          | none => match ycdec F c with
            | some b => some b
            | none => match ydec F c with
              | some b => some b
              | none => match wdec F c with
                | some b => some b
                | none => match hdec F c with
                  | some b => some b
                  | none => match ndec F c with
                    | some b => some b
                    | none => vdec F c
theorem xdecX_ok (hF : fok X ρ F) {c : sQ} {b : Bool} (h : xdecX F c = some b) : sc X ρ c = b := by
  unfold xdecX at h
  split at h
  · next b' hb => cases h; exact xdec_ok hF hb
  · split at h
    · next b' hb => cases h; exact sbit_ok hF hb
    · split at h
      · next b' hb => cases h; exact edec2_ok hF hb
      · split at h
        · next b' hb => cases h; exact zdec_ok hF hb
        · split at h
          · next b' hb => cases h; exact fdec_ok hF hb
          · split at h
            · next b' hb => cases h; exact ycdec_ok hF hb
            · split at h
              · next b' hb => cases h; exact ydec_ok hF hb
              · split at h
                · next b' hb => cases h; exact wdec_ok hF hb
                · split at h
                  · next b' hb => cases h; exact hdec_ok hF hb
                  · split at h
                    · next b' hb => cases h; exact ndec_ok hF hb
                    · exact vdec_ok hF h
noncomputable def teqsX (F : sFs) : List sT → List sT → Bool
  | [], [] => true
  | a :: x, b :: y => teqX F a b && teqsX F x y
  | _, _ => false
theorem teqsX_ok (hF : fok X ρ F) : ∀ {x y : List sT}, teqsX F x y = true → x.map (sv X ρ) = y.map (sv X ρ)
  | [], [], _ => rfl
  | [], _ :: _, h => by cases h
  | _ :: _, [], h => by cases h
  | a :: x, b :: y, h => by
    simp only [teqsX, Bool.and_eq_true] at h
    rw [List.map_cons, List.map_cons, teqX_ok hF h.1, teqsX_ok hF h.2]
/-- terms with places of arrays that stay as they are -/
noncomputable def sclN (σ : sM) (t : sT) : Bool := match t with
  | .elem (.arg a) (.int _) => (afnd σ a).isNone
  | .op1 _ (.elem (.arg a) (.int _)) => (afnd σ a).isNone
  | _ => false
theorem ssub_dN {σ : sM} {t : sT} (h : sclN σ t = true) : sd X ρ (ssub σ t) = sd X (rsub X ρ σ) t := by
  have key : ∀ (a : Nat) (k : Int32), (afnd σ a).isNone = true → sd X ρ (.elem (.arg a) (.int k)) = sd X (rsub X ρ σ) (.elem (.arg a) (.int k)) := fun a k ha => by
    have ha := Option.isNone_iff_eq_none.mp ha
    simp only [sd, rsub, ha]
  unfold sclN at h
  split at h
  · next a k => exact key a k h
  · next o a k =>
    show s1 o (sd X ρ (.elem (.arg a) (.int k))) = s1 o (sd X (rsub X ρ σ) (.elem (.arg a) (.int k)))
    rw [key a k h]
  · cases h
theorem ssub_vN {K : sK} {σ : sM} (hM : sMok K σ = true) {t : sT} (h : scl t = true ∨ sclN σ t = true) : sv X ρ (ssub σ t) = sv X (rsub X ρ σ) t := by
  rcases h with h | h
  · exact ssub_v hM t h
  · have h1 := ssub_dN (X := X) (ρ := ρ) h
    have h2 := ssub_k hM t
    unfold sclN at h
    split at h
    · next a k =>
      show (if a % 2 = 1 then Value.long (sd X ρ (.elem (.arg a) (.int k))).2 else .int (sd X ρ (.elem (.arg a) (.int k))).1) = if a % 2 = 1 then Value.long (sd X (rsub X ρ σ) (.elem (.arg a) (.int k))).2 else .int (sd X (rsub X ρ σ) (.elem (.arg a) (.int k))).1
      have h1 : sd X ρ (.elem (.arg a) (.int k)) = sd X (rsub X ρ σ) (.elem (.arg a) (.int k)) := h1
      rw [h1]
    · next o a k =>
      have h1 : sd X ρ (.op1 o (.elem (.arg a) (.int k))) = sd X (rsub X ρ σ) (.op1 o (.elem (.arg a) (.int k))) := h1
      show (if sk1 o = 1 then Value.long (sd X ρ (.op1 o (.elem (.arg a) (.int k)))).2 else .int (sd X ρ (.op1 o (.elem (.arg a) (.int k)))).1) = if sk1 o = 1 then Value.long (sd X (rsub X ρ σ) (.op1 o (.elem (.arg a) (.int k)))).2 else .int (sd X (rsub X ρ σ) (.op1 o (.elem (.arg a) (.int k)))).1
      rw [h1]
    · cases h
/-- a frame is a case of the pattern's -/
noncomputable def finstX (F : sFs) (σ : sM) (f0 f : sF) : Bool := match f0, f with
  | (k0, nL0, ret0, hs0, full0, cur0, lv0, st0), (k, nL, ret, hs, full, cur, lv, st) => decide (k0 = k) && (decide (nL0 = nL) && (teqsX F (st0.map (ssub σ)) st && (st0.all scl && (lv0.all (fun q => (scl q.2 || sclN σ q.2) && lv.any (fun z => decide (z.1 = q.1) && teqX F (ssub σ q.2) z.2)) && (decide ((lv.map (fun q => q.1)).Nodup) && (decide (ret0 = ret) && (decide (hs0 = hs) && (opseq cur0 cur && opseq full0 full))))))))
theorem finstX_ok {K : sK} (hF : fok X ρ F) (h : sMok K σ = true) {f0 f : sF} (hf : finstX F σ f0 f = true) : fle X (rsub X ρ σ) ρ f0 f := by
  obtain ⟨k0, nL0, ret0, hs0, full0, cur0, lv0, st0⟩ := f0
  obtain ⟨k, nL, ret, hs, full, cur, lv, st⟩ := f
  simp only [finstX, Bool.and_eq_true, decide_eq_true_eq] at hf
  obtain ⟨e1, e2, e3, e4, e5, e6, e7, e8, e9, e10⟩ := hf
  refine ⟨⟨e1, e2, e7, e8, opseq_ok e10, opseq_ok e9⟩, ?_, ?_, ?_⟩
  · intro q hq
    obtain ⟨z, hz, rfl⟩ := List.mem_map.mp hq
    have h1 := List.all_eq_true.mp e5 z hz
    simp only [Bool.and_eq_true, List.any_eq_true, decide_eq_true_eq] at h1
    obtain ⟨h2, w, hw, h3, h4⟩ := h1
    refine List.mem_map.mpr ⟨_, hw, ?_⟩
    rw [← teqX_ok hF h4, ssub_vN h (by simpa using h2), h3]
  · unfold lvnd dL
    rw [List.map_map]
    exact e6
  · dsimp only
    rw [← slsub_v h e4]
    exact teqsX_ok hF e3
noncomputable def finstsX (F : sFs) (σ : sM) : List sF → List sF → Bool
  | [], [] => true
  | f0 :: fs0, f :: fs => finstX F σ f0 f && finstsX F σ fs0 fs
  | _, _ => false
theorem finstsX_ok {K : sK} (hF : fok X ρ F) (h : sMok K σ = true) : ∀ {fs0 fs : List sF}, finstsX F σ fs0 fs = true → fles X (rsub X ρ σ) ρ fs0 fs
  | [], [], _ => trivial
  | [], _ :: _, hf => by cases hf
  | _ :: _, [], hf => by cases hf
  | f0 :: fs0, f :: fs, hf => by
    simp only [finstsX, Bool.and_eq_true] at hf
    exact ⟨finstX_ok hF h hf.1, finstsX_ok hF h hf.2⟩
noncomputable def csmallX (F : sFs) (σ : sM) (e0 e : sE) : Bool := match e0, e with
  | .inl (t0, n0, b0, u0), .inl (t, n, b, u) => decide (t0 = t) && (decide (n0 = n) && (Nat.ble n0 16 && (u0.all (fun x => match sC1 x.1 with
    | some p => decide (¬ p.1 < 0)
    | none => false) && (List.range n0).all (fun j => match selc b0 j u0, selc b j u with
      | some x, some y => scl x && teqX F (ssub σ x) y
      | _, _ => false))))
  | .inr (c0, v0), .inr (c, v) => decide (c0 = c) && (teqsX F (v0.map (ssub σ)) v && v0.all scl)
  | _, _ => false
theorem csmallX_ok {K : sK} (hF : fok X ρ F) (h : sMok K σ = true) {e0 e : sE} (hc : csmallX F σ e0 e = true) {y : pE} (hy : CR X ρ e y) : CR X (rsub X ρ σ) e0 y := by
  unfold csmallX at hc
  split at hc
  · next t0 n0 b0 u0 t n b u =>
    simp only [Bool.and_eq_true, decide_eq_true_eq, List.all_eq_true] at hc
    obtain ⟨rfl, rfl, -, c4, c5⟩ := hc
    cases y with
    | inr z => exact hy.elim
    | inl z =>
      obtain ⟨q1, q2, q3, q4⟩ := hy
      refine ⟨q1, q2, fun j hj => ?_, fun x hx => ?_⟩
      · have h5 := c5 j (List.mem_range.mpr hj)
        rw [q3 j hj]
        dsimp only
        split at h5
        · next x w hx hw =>
          simp only [Bool.and_eq_true] at h5
          rw [selc_ok u w hw, selc_ok u0 x hx, ← ssub_v h x h5.1, teqX_ok hF h5.2]
        · cases h5
      · have h6 := c4 x hx
        split at h6
        · next p hp =>
          rw [sC1_ok hp]
          exact of_decide_eq_true h6
        · cases h6
  · next c0 v0 c v =>
    simp only [Bool.and_eq_true, decide_eq_true_eq] at hc
    obtain ⟨rfl, d2, d3⟩ := hc
    cases y with
    | inl z => exact hy.elim
    | inr z =>
      have hy : z = (c0, v.map (sv X ρ)) := hy
      show z = (c0, v0.map (sv X (rsub X ρ σ)))
      rw [hy, ← teqsX_ok hF d2]
      have := slsub_v (X := X) (ρ := ρ) h d3
      unfold dS slsub at this
      rw [this]
  · cases hc
end TEQ
