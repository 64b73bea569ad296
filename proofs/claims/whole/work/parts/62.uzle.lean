/-! ===== longs: between which numbers, and what is at least what, by sums ===== -/
section ZLE
variable {X : pX} {ρ : sR} {F : sFs}
theorem l_add {x y : Int64} (h1 : -9223372036854775808 ≤ x.toInt + y.toInt) (h2 : x.toInt + y.toInt ≤ 9223372036854775807) : (x + y).toInt = x.toInt + y.toInt := by
  rw [Int64.toInt_add]
  exact Int.bmod_eq_of_le (by omega) (by omega)
theorem l_sub {x y : Int64} (h1 : -9223372036854775808 ≤ x.toInt - y.toInt) (h2 : x.toInt - y.toInt ≤ 9223372036854775807) : (x - y).toInt = x.toInt - y.toInt := by
  rw [Int64.toInt_sub]
  exact Int.bmod_eq_of_le (by omega) (by omega)
theorem l_mul {x y : Int64} (h1 : -9223372036854775808 ≤ x.toInt * y.toInt) (h2 : x.toInt * y.toInt ≤ 9223372036854775807) : (x * y).toInt = x.toInt * y.toInt := by
  rw [Int64.toInt_mul]
  exact Int.bmod_eq_of_le (by omega) (by omega)
theorem l_neg {x : Int64} (h : -9223372036854775807 ≤ x.toInt) : (-x).toInt = -x.toInt := by
  have e : -x = 0 - x := by grind
  have h9 := Int64.toInt_lt x
  rw [e, l_sub (x := 0) (by show _ ≤ 0 - x.toInt; omega) (by show 0 - x.toInt ≤ _; omega)]
  show 0 - x.toInt = _
  omega
theorem lx_and {x m : Int64} (hx : 0 ≤ x.toInt) (hm : 0 ≤ m.toInt) : (x &&& m).toInt = ((x.toInt.toNat &&& m.toInt.toNat : Nat) : Int) := by
  have h1 : x.toBitVec.msb = false := by
    rw [BitVec.msb_eq_toInt]
    exact decide_eq_false (Int.not_lt.mpr hx)
  have h2 : m.toBitVec.msb = false := by
    rw [BitVec.msb_eq_toInt]
    exact decide_eq_false (Int.not_lt.mpr hm)
  have h3 : (x &&& m).toBitVec.msb = false := by rw [Int64.toBitVec_and, BitVec.msb_and, h2, Bool.and_false]
  have e1 : x.toInt = (x.toBitVec.toNat : Int) := BitVec.toInt_eq_toNat_of_msb h1
  have e2 : m.toInt = (m.toBitVec.toNat : Int) := BitVec.toInt_eq_toNat_of_msb h2
  show (x &&& m).toBitVec.toInt = _
  rw [BitVec.toInt_eq_toNat_of_msb h3, Int64.toBitVec_and, BitVec.toNat_and, e1, e2, Int.toNat_natCast, Int.toNat_natCast]
theorem l_and {x m : Int64} (h : 0 ≤ m.toInt) : 0 ≤ (x &&& m).toInt ∧ (x &&& m).toInt ≤ m.toInt := by
  have hm : m.toBitVec.msb = false := by
    rw [BitVec.msb_eq_toInt]
    exact decide_eq_false (Int.not_lt.mpr h)
  have hx : (x &&& m).toBitVec.msb = false := by rw [Int64.toBitVec_and, BitVec.msb_and, hm, Bool.and_false]
  show 0 ≤ (x &&& m).toBitVec.toInt ∧ (x &&& m).toBitVec.toInt ≤ m.toBitVec.toInt
  rw [BitVec.toInt_eq_toNat_of_msb hx, BitVec.toInt_eq_toNat_of_msb hm, Int64.toBitVec_and, BitVec.toNat_and]
  have h9 := @Nat.and_le_right x.toBitVec.toNat m.toBitVec.toNat
  omega
theorem l_div {x y : Int64} (hx : 0 ≤ x.toInt) (hy : 0 < y.toInt) : (x / y).toInt = x.toInt / y.toInt := by
  have h1 := Int64.toInt_lt x
  have h2 : x.toInt / y.toInt ≤ x.toInt := Int.ediv_le_self _ hx
  have h3 : 0 ≤ x.toInt / y.toInt := Int.ediv_nonneg hx (by omega)
  rw [Int64.toInt_div, Int.tdiv_eq_ediv_of_nonneg hx]
  exact Int.bmod_eq_of_le (by omega) (by omega)
theorem l_nn {x : Int64} (h : 0 ≤ x.toInt) : x.toBitVec.msb = false ∧ x.toInt = x.toBitVec.toNat := by
  have hm : x.toBitVec.msb = false := by
    rw [BitVec.msb_eq_toInt]
    exact decide_eq_false (Int.not_lt.mpr h)
  exact ⟨hm, BitVec.toInt_eq_toNat_of_msb hm⟩
theorem l_or {x y : Int64} {k : Nat} (hx : 0 ≤ x.toInt) (hy : 0 ≤ y.toInt) (hx2 : x.toInt < 2 ^ k) (hy2 : y.toInt < 2 ^ k) : 0 ≤ (x ||| y).toInt ∧ (x ||| y).toInt ≤ 2 ^ k - 1 := by
  obtain ⟨mx, ex⟩ := l_nn hx
  obtain ⟨my, ey⟩ := l_nn hy
  have hm : (x ||| y).toBitVec.msb = false := by rw [Int64.toBitVec_or, BitVec.msb_or, mx, my]; rfl
  have e : (x ||| y).toInt = ((x.toBitVec.toNat ||| y.toBitVec.toNat : Nat) : Int) := by
    show (x ||| y).toBitVec.toInt = _
    rw [BitVec.toInt_eq_toNat_of_msb hm, Int64.toBitVec_or, BitVec.toNat_or]
  have ep : ((2 ^ k : Nat) : Int) = (2 : Int) ^ k := by rw [Int.natCast_pow]; rfl
  have h1 : x.toBitVec.toNat < 2 ^ k := by
    have : (x.toBitVec.toNat : Int) < ((2 ^ k : Nat) : Int) := by rw [← ex, ep]; exact hx2
    omega
  have h2 : y.toBitVec.toNat < 2 ^ k := by
    have : (y.toBitVec.toNat : Int) < ((2 ^ k : Nat) : Int) := by rw [← ey, ep]; exact hy2
    omega
  have h3 := Nat.or_lt_two_pow h1 h2
  rw [e, ← ep]
  omega
theorem l_shlb {x : Int64} {c : Nat} (hc : c ≤ 62) {z : BitVec 64} (hz : z = x.toBitVec <<< c) (h : 0 ≤ x.toInt) (h2 : x.toInt * 2 ^ c ≤ 9223372036854775807) : z.toInt = x.toInt * 2 ^ c := by
  obtain ⟨-, ex⟩ := l_nn h
  have ep : ((2 ^ c : Nat) : Int) = (2 : Int) ^ c := by rw [Int.natCast_pow]; rfl
  have h3 : x.toBitVec.toNat * 2 ^ c ≤ 9223372036854775807 := by
    have : ((x.toBitVec.toNat * 2 ^ c : Nat) : Int) ≤ 9223372036854775807 := by rw [Int.natCast_mul, ep, ← ex]; exact h2
    omega
  have en : z.toNat = x.toBitVec.toNat * 2 ^ c := by
    rw [hz, BitVec.toNat_shiftLeft, Nat.shiftLeft_eq]
    exact Nat.mod_eq_of_lt (by omega)
  have hm : z.msb = false := by
    rw [BitVec.msb_eq_false_iff_two_mul_lt]
    omega
  rw [BitVec.toInt_eq_toNat_of_msb hm, en, Int.natCast_mul, ep, ← ex]
/-- shifts that are spoken of -/
noncomputable def shc (b : sT) : Option Nat := match sC1 b with
  | some p => ([0, 8, 16, 24, 32, 40, 48, 56] : List Nat).find? (fun c => decide (Int32.ofNat c = p.1))
  | none => none
theorem l_shl {x : Int64} {b : sT} {c : Nat} (hc : shc b = some c) (h : 0 ≤ x.toInt) (h2 : x.toInt * 2 ^ c ≤ 9223372036854775807) : (x <<< ((sd X ρ b).1.toInt64 &&& 63)).toInt = x.toInt * 2 ^ c := by
  unfold shc at hc
  split at hc
  · next p hp =>
    have hm := List.mem_of_find?_eq_some hc
    have he := List.find?_some hc
    simp only [decide_eq_true_eq] at he
    rw [sC1_ok hp, ← he]
    simp only [List.mem_cons, List.not_mem_nil, or_false] at hm
    show (x <<< ((Int32.ofNat c).toInt64 &&& 63)).toBitVec.toInt = _
    rcases hm with rfl | rfl | rfl | rfl | rfl | rfl | rfl | rfl <;> exact l_shlb (by decide) rfl h h2
  · cases hc
/-- how many bits a number has at most -/
noncomputable def zbits (n : Int) : Option Nat := ([8, 16, 24, 32, 40, 48, 56, 62] : List Nat).find? (fun k => decide (n < 2 ^ k))
theorem sn_l {t : sT} (h : sk t = 1) : sn X ρ t = (sd X ρ t).2.toInt := by
  unfold sn
  rw [if_pos h]
/-- a span, if no long runs over, and what the facts say besides -/
noncomputable def zcut (F : sFs) (t : sT) (w : Int × Int) : Int × Int := if -9223372036854775808 ≤ w.1 ∧ w.2 ≤ 9223372036854775807 then (max w.1 (sivl F t).1, min w.2 (sivl F t).2) else sivl F t
/-- between which numbers a long lies -/
noncomputable def sivL (F : sFs) : sT → Int × Int
  | .op2 o a b => if sk a = 1 ∧ sk b = 1 then (match o with
    | .ladd => zcut F (.op2 .ladd a b) ((sivL F a).1 + (sivL F b).1, (sivL F a).2 + (sivL F b).2)
    | .lsub => zcut F (.op2 .lsub a b) ((sivL F a).1 - (sivL F b).2, (sivL F a).2 - (sivL F b).1)
    | .lmul => (match sC2 b with
      | some c => if 0 ≤ c then zcut F (.op2 .lmul a b) (c * (sivL F a).1, c * (sivL F a).2) else zcut F (.op2 .lmul a b) (c * (sivL F a).2, c * (sivL F a).1)
      | none => (match sC2 a with
        | some c => if 0 ≤ c then zcut F (.op2 .lmul a b) (c * (sivL F b).1, c * (sivL F b).2) else zcut F (.op2 .lmul a b) (c * (sivL F b).2, c * (sivL F b).1)
        | none => sivl F (.op2 .lmul a b)))
    | .land => (match sC2 b with
      | some c => if 0 ≤ c then (0, c) else sivl F (.op2 .land a b)
      | none => sivl F (.op2 .land a b))
    | .ldiv => (match sC2 b with
      | some c => if 0 < c ∧ 0 ≤ (sivL F a).1 then ((sivL F a).1 / c, (sivL F a).2 / c) else sivl F (.op2 .ldiv a b)
      | none => sivl F (.op2 .ldiv a b))
    | .lor => if 0 ≤ (sivL F a).1 ∧ 0 ≤ (sivL F b).1 then (match zbits (max (sivL F a).2 (sivL F b).2) with
      | some k => (0, 2 ^ k - 1)
      | none => sivl F (.op2 .lor a b)) else sivl F (.op2 .lor a b)
    | o => sivl F (.op2 o a b)) else (match o with
    | .lshl => if sk a = 1 then (match shc b with
      | some c => if 0 ≤ (sivL F a).1 ∧ (sivL F a).2 * 2 ^ c ≤ 9223372036854775807 then ((sivL F a).1 * 2 ^ c, (sivL F a).2 * 2 ^ c) else sivl F (.op2 .lshl a b)
      | none => sivl F (.op2 .lshl a b)) else sivl F (.op2 .lshl a b)
    | o => sivl F (.op2 o a b))
  | .op1 o a => if sk a = 1 then (match o with
    | .lneg => zcut F (.op1 .lneg a) (-(sivL F a).2, -(sivL F a).1)
    | o => sivl F (.op1 o a)) else sivl F (.op1 o a)
  | t => sivl F t
theorem zcut_ok (hF : fok X ρ F) {t : sT} {w : Int × Int} (h : -9223372036854775808 ≤ w.1 → w.2 ≤ 9223372036854775807 → w.1 ≤ sn X ρ t ∧ sn X ρ t ≤ w.2) : (zcut F t w).1 ≤ sn X ρ t ∧ sn X ρ t ≤ (zcut F t w).2 := by
  have h1 := sivl_ok hF t
  unfold zcut
  split
  · next hw =>
    have h2 := h hw.1 hw.2
    dsimp only
    omega
  · exact h1
theorem sivL_ok (hF : fok X ρ F) : ∀ t : sT, (sivL F t).1 ≤ sn X ρ t ∧ sn X ρ t ≤ (sivL F t).2 := by
  intro t
  induction t with
  | op2 o a b iha ihb =>
    unfold sivL
    split
    · next hk =>
      rw [sn_l hk.1] at iha
      rw [sn_l hk.2] at ihb
      have eb : ∀ c, sC2 b = some c → (sd X ρ b).2.toInt = c := fun c hc => by rw [← sn_l hk.2]; exact sC2_ok hc
      have ea : ∀ c, sC2 a = some c → (sd X ρ a).2.toInt = c := fun c hc => by rw [← sn_l hk.1]; exact sC2_ok hc
      split
      · refine zcut_ok hF (fun w1 w2 => ?_)
        dsimp only at w1 w2 ⊢
        have e9 : sn X ρ (.op2 .ladd a b) = (sd X ρ a).2.toInt + (sd X ρ b).2.toInt := l_add (by omega) (by omega)
        rw [e9]; omega
      · refine zcut_ok hF (fun w1 w2 => ?_)
        dsimp only at w1 w2 ⊢
        have e9 : sn X ρ (.op2 .lsub a b) = (sd X ρ a).2.toInt - (sd X ρ b).2.toInt := l_sub (by omega) (by omega)
        rw [e9]; omega
      · split
        · next c hc =>
          split
          · next h0 =>
            refine zcut_ok hF (fun w1 w2 => ?_)
            dsimp only at w1 w2 ⊢
            have m := s_mulc h0 iha.1 iha.2
            have e0 : (sd X ρ a).2.toInt * (sd X ρ b).2.toInt = c * (sd X ρ a).2.toInt := by rw [eb c hc, Int.mul_comm]
            have e9 : sn X ρ (.op2 .lmul a b) = (sd X ρ a).2.toInt * (sd X ρ b).2.toInt := l_mul (by rw [e0]; omega) (by rw [e0]; omega)
            rw [e9, e0]; exact m
          · next h0 =>
            refine zcut_ok hF (fun w1 w2 => ?_)
            dsimp only at w1 w2 ⊢
            have m := s_mulc (show 0 ≤ -c by omega) iha.1 iha.2
            simp only [Int.neg_mul] at m
            have e0 : (sd X ρ a).2.toInt * (sd X ρ b).2.toInt = c * (sd X ρ a).2.toInt := by rw [eb c hc, Int.mul_comm]
            have e9 : sn X ρ (.op2 .lmul a b) = (sd X ρ a).2.toInt * (sd X ρ b).2.toInt := l_mul (by rw [e0]; omega) (by rw [e0]; omega)
            rw [e9, e0]; omega
        · split
          · next c hc =>
            split
            · next h0 =>
              refine zcut_ok hF (fun w1 w2 => ?_)
              dsimp only at w1 w2 ⊢
              have m := s_mulc h0 ihb.1 ihb.2
              have e0 : (sd X ρ a).2.toInt * (sd X ρ b).2.toInt = c * (sd X ρ b).2.toInt := by rw [ea c hc]
              have e9 : sn X ρ (.op2 .lmul a b) = (sd X ρ a).2.toInt * (sd X ρ b).2.toInt := l_mul (by rw [e0]; omega) (by rw [e0]; omega)
              rw [e9, e0]; exact m
            · next h0 =>
              refine zcut_ok hF (fun w1 w2 => ?_)
              dsimp only at w1 w2 ⊢
              have m := s_mulc (show 0 ≤ -c by omega) ihb.1 ihb.2
              simp only [Int.neg_mul] at m
              have e0 : (sd X ρ a).2.toInt * (sd X ρ b).2.toInt = c * (sd X ρ b).2.toInt := by rw [ea c hc]
              have e9 : sn X ρ (.op2 .lmul a b) = (sd X ρ a).2.toInt * (sd X ρ b).2.toInt := l_mul (by rw [e0]; omega) (by rw [e0]; omega)
              rw [e9, e0]; omega
          · exact sivl_ok hF _
      · split
        · next c hc =>
          split
          · next h0 =>
            have := l_and (x := (sd X ρ a).2) (m := (sd X ρ b).2) (by rw [eb c hc]; exact h0)
            rw [eb c hc] at this
            exact this
          · exact sivl_ok hF _
        · exact sivl_ok hF _
      · split
        · next c hc =>
          split
          · next h0 =>
            have e9 : sn X ρ (.op2 .ldiv a b) = (sd X ρ a).2.toInt / c := by
              show ((sd X ρ a).2 / (sd X ρ b).2).toInt = _
              rw [l_div (by omega) (by rw [eb c hc]; omega), eb c hc]
            rw [e9]
            exact ⟨Int.ediv_le_ediv h0.1 iha.1, Int.ediv_le_ediv h0.1 iha.2⟩
          · exact sivl_ok hF _
        · exact sivl_ok hF _
      · split
        · next h0 =>
          split
          · next k hk2 =>
            have h9 := List.find?_some hk2
            simp only [decide_eq_true_eq] at h9
            exact l_or (x := (sd X ρ a).2) (y := (sd X ρ b).2) (by omega) (by omega) (by omega) (by omega)
          · exact sivl_ok hF _
        · exact sivl_ok hF _
      · exact sivl_ok hF _
    · split
      · split
        · next hk =>
          rw [sn_l hk] at iha
          split
          · next c hc =>
            split
            · next h0 =>
              have p0 : (0 : Int) ≤ 2 ^ c := Int.le_of_lt (Int.pow_pos (by decide))
              have m1 : (sivL F a).1 * 2 ^ c ≤ (sd X ρ a).2.toInt * 2 ^ c := Int.mul_le_mul_of_nonneg_right iha.1 p0
              have m2 : (sd X ρ a).2.toInt * 2 ^ c ≤ (sivL F a).2 * 2 ^ c := Int.mul_le_mul_of_nonneg_right iha.2 p0
              have e9 : sn X ρ (.op2 .lshl a b) = (sd X ρ a).2.toInt * 2 ^ c := l_shl (X := X) (ρ := ρ) hc (by omega) (by omega)
              rw [e9]
              exact ⟨m1, m2⟩
            · exact sivl_ok hF _
          · exact sivl_ok hF _
        · exact sivl_ok hF _
      · exact sivl_ok hF _
  | op1 o a iha =>
    unfold sivL
    split
    · next hk =>
      rw [sn_l hk] at iha
      split
      · refine zcut_ok hF (fun w1 w2 => ?_)
        dsimp only at w1 w2 ⊢
        have e9 : sn X ρ (.op1 .lneg a) = -(sd X ρ a).2.toInt := l_neg (by omega)
        rw [e9]; omega
      · exact sivl_ok hF _
    · exact sivl_ok hF _
  | _ => exact sivl_ok hF _
/-- a long that is small enough for differences -/
noncomputable def zbd (F : sFs) (t : sT) : Bool := sk t == 1 && (decide (-2305843009213693952 ≤ (sivL F t).1) && decide ((sivL F t).2 ≤ 2305843009213693952))
theorem zbd_ok (hF : fok X ρ F) {t : sT} (h : zbd F t = true) : sk t = 1 ∧ -2305843009213693952 ≤ (sd X ρ t).2.toInt ∧ (sd X ρ t).2.toInt ≤ 2305843009213693952 ∧ (sivL F t).1 ≤ (sd X ρ t).2.toInt ∧ (sd X ρ t).2.toInt ≤ (sivL F t).2 := by
  simp only [zbd, Bool.and_eq_true, beq_iff_eq, decide_eq_true_eq] at h
  have h1 := sivL_ok hF t
  rw [sn_l h.1] at h1
  exact ⟨h.1, by omega, by omega, h1.1, h1.2⟩
noncomputable def zdiff (a b : sT) : List (sT × Int64) × Int64 := wladds (wllin b) (wlneg (wllin a))
theorem zdiff_ok (a b : sT) : wlval X ρ (zdiff a b) = (sd X ρ b).2 - (sd X ρ a).2 := by
  unfold zdiff
  rw [wladds_ok, wlneg_ok, ← wllin_ok, ← wllin_ok]
  grind
/-- the least that a sum of at most one long can be -/
noncomputable def zwnz (l : List (sT × Int64)) : List (sT × Int64) := l.filter (fun q => !(Nat.beq q.2.toBitVec.toNat 0))
theorem zwnz_ok : ∀ l : List (sT × Int64), wlsum X ρ (zwnz l) = wlsum X ρ l
  | [] => rfl
  | q :: r => by
    have ih := zwnz_ok r
    unfold zwnz at ih ⊢
    cases hq : Nat.beq q.2.toBitVec.toNat 0 with
    | true =>
      rw [List.filter_cons_of_neg (by simp [hq]), ih]
      simp only [wlsum]
      rw [wlzero hq]
      grind
    | false =>
      rw [List.filter_cons_of_pos (by simp [hq])]
      simp only [wlsum]
      rw [ih]
/-- two longs that a fact says to be the same -/
noncomputable def feq (F : sFs) (a b : sT) : Bool := F.any (fun f => f.2 && (Nat.beq f.1.1 6 && ((tqe f.1.2.1 a && tqe f.1.2.2 b) || (tqe f.1.2.1 b && tqe f.1.2.2 a))))
theorem feq_ok (hF : fok X ρ F) {a b : sT} (h : feq F a b = true) : (sd X ρ a).2 = (sd X ρ b).2 := by
  obtain ⟨f, hf, h⟩ := List.any_eq_true.mp h
  have h1 := hF.2 f hf
  obtain ⟨⟨k, p, q⟩, v⟩ := f
  simp only [Bool.and_eq_true, Bool.or_eq_true] at h
  obtain ⟨rfl, hk, h⟩ := h
  have hk := Nat.eq_of_beq_eq_true hk
  subst hk
  have h1 : (sd X ρ p).2 = (sd X ρ q).2 := of_decide_eq_true h1
  rcases h with h | h
  · rw [← tqe_ok _ _ h.1, ← tqe_ok _ _ h.2, h1]
  · rw [← tqe_ok _ _ h.1, ← tqe_ok _ _ h.2, h1]
/-- sums without the pairs that a fact says to be the same -/
noncomputable def wpick (F : sFs) (q : sT × Int64) : List (sT × Int64) → Option (List (sT × Int64))
  | [] => none
  | p :: r => if p.2 + q.2 = 0 ∧ feq F q.1 p.1 = true then some r else (match wpick F q r with
    | some r' => some (p :: r')
    | none => none)
noncomputable def wred (F : sFs) : List (sT × Int64) → List (sT × Int64)
  | [] => []
  | q :: r => match wpick F q (wred F r) with
    | some r' => r'
    | none => q :: wred F r
theorem wpick_ok (hF : fok X ρ F) {q : sT × Int64} : ∀ {l r : List (sT × Int64)}, wpick F q l = some r → wlsum X ρ r = q.2 * (sd X ρ q.1).2 + wlsum X ρ l
  | [], r, h => by cases h
  | p :: l, r, h => by
    unfold wpick at h
    split at h
    · next hc =>
      cases h
      have e := feq_ok hF hc.2
      simp only [wlsum]
      rw [e]
      have := hc.1
      grind
    · split at h
      · next r' hr =>
        cases h
        have ih := wpick_ok hF hr
        simp only [wlsum]
        rw [ih]
        grind
      · cases h
theorem wred_ok (hF : fok X ρ F) : ∀ l : List (sT × Int64), wlsum X ρ (wred F l) = wlsum X ρ l
  | [] => rfl
  | q :: r => by
    have ih := wred_ok hF r
    unfold wred
    split
    · next r' hr =>
      rw [wpick_ok hF hr, ih]
      rfl
    · simp only [wlsum]
      rw [ih]
/-- the least that a sum of small longs can be -/
noncomputable def zlow (F : sFs) : List (sT × Int64) → Option Int
  | [] => some 0
  | q :: r => match zlow F r with
    | some k => if sk q.1 = 1 ∧ ((-1125899906842624 ≤ (sivL F q.1).1 ∧ (sivL F q.1).2 ≤ 1125899906842624) ∧ (-1024 ≤ q.2.toInt ∧ q.2.toInt ≤ 1024)) then some (k + (if 0 ≤ q.2.toInt then q.2.toInt * (sivL F q.1).1 else q.2.toInt * (sivL F q.1).2)) else none
    | none => none
theorem zlow_ok (hF : fok X ρ F) : ∀ {l : List (sT × Int64)} {k : Int}, zlow F l = some k → l.length ≤ 2 → k ≤ (wlsum X ρ l).toInt ∧ -1152921504606846976 * l.length ≤ (wlsum X ρ l).toInt ∧ (wlsum X ρ l).toInt ≤ 1152921504606846976 * l.length
  | [], k, h, _ => by
    cases h
    have e : (wlsum X ρ []).toInt = 0 := rfl
    rw [e]
    simp
  | q :: r, k, h, hl => by
    unfold zlow at h
    split at h
    · next k' hk =>
      split at h
      · next hc =>
        cases h
        have hl2 : r.length ≤ 1 := by simp only [List.length_cons] at hl; omega
        obtain ⟨i1, i2, i3⟩ := zlow_ok hF hk (by omega)
        have hb := sivL_ok hF q.1
        rw [sn_l hc.1] at hb
        have hp : (if 0 ≤ q.2.toInt then q.2.toInt * (sivL F q.1).1 else q.2.toInt * (sivL F q.1).2) ≤ q.2.toInt * (sd X ρ q.1).2.toInt ∧ -1152921504606846976 ≤ q.2.toInt * (sd X ρ q.1).2.toInt ∧ q.2.toInt * (sd X ρ q.1).2.toInt ≤ 1152921504606846976 := by
          have a1 : -1125899906842624 ≤ (sd X ρ q.1).2.toInt := by omega
          have a2 : (sd X ρ q.1).2.toInt ≤ 1125899906842624 := by omega
          by_cases h0 : 0 ≤ q.2.toInt
          · rw [if_pos h0]
            have m := s_mulc h0 hb.1 hb.2
            have m2 := s_mulc h0 a1 a2
            omega
          · rw [if_neg h0]
            have h1 : 0 ≤ -q.2.toInt := by omega
            have m := s_mulc h1 hb.1 hb.2
            have m2 := s_mulc h1 a1 a2
            simp only [Int.neg_mul] at m m2
            omega
        have e5 : (q.2 * (sd X ρ q.1).2).toInt = q.2.toInt * (sd X ρ q.1).2.toInt := l_mul (by omega) (by omega)
        have hlen : ((q :: r).length : Int) = r.length + 1 := by simp
        have hr : (r.length : Int) ≤ 1 := by omega
        have hr0 : (0 : Int) ≤ r.length := by omega
        show _ ≤ (q.2 * (sd X ρ q.1).2 + wlsum X ρ r).toInt ∧ _ ≤ (q.2 * (sd X ρ q.1).2 + wlsum X ρ r).toInt ∧ (q.2 * (sd X ρ q.1).2 + wlsum X ρ r).toInt ≤ _
        rw [l_add (by rw [e5]; omega) (by rw [e5]; omega), e5, hlen]
        omega
      · cases h
    · cases h
noncomputable def zres (F : sFs) (e : List (sT × Int64) × Int64) : Option Int := if -1152921504606846976 ≤ e.2.toInt ∧ e.2.toInt ≤ 1152921504606846976 then (match wred F (zwnz e.1) with
  | [] => some e.2.toInt
  | [p] => bif zbd F p.1 then (if p.2 = 1 then some ((sivL F p.1).1 + e.2.toInt) else if p.2 = -1 then some (e.2.toInt - (sivL F p.1).2) else if (0 ≤ p.2.toInt ∧ p.2.toInt ≤ 1024) ∧ (-1125899906842624 ≤ (sivL F p.1).1 ∧ (sivL F p.1).2 ≤ 1125899906842624) then some (p.2.toInt * (sivL F p.1).1 + e.2.toInt) else none) else none
  | [p, q] => (match zlow F [p, q] with
    | some k => some (k + e.2.toInt)
    | none => none)
  | _ => none) else none
theorem zres_ok (hF : fok X ρ F) {e : List (sT × Int64) × Int64} {k : Int} (h : zres F e = some k) : k ≤ (wlval X ρ e).toInt ∧ -3458764513820540928 ≤ (wlval X ρ e).toInt ∧ (wlval X ρ e).toInt ≤ 3458764513820540928 := by
  unfold zres at h
  split at h
  · next hr =>
    have e0 : wlval X ρ e = wlsum X ρ (wred F (zwnz e.1)) + e.2 := by rw [wred_ok hF, zwnz_ok]; rfl
    rw [e0]
    split at h
    · next hw =>
      cases h
      rw [hw]
      have : wlsum X ρ [] + e.2 = e.2 := by simp only [wlsum]; grind
      rw [this]
      omega
    · next p hw =>
      rw [hw]
      cases hz : zbd F p.1 with
      | false => rw [hz] at h; cases h
      | true =>
        rw [hz] at h
        simp only [cond_true] at h
        have bz := zbd_ok hF hz
        split at h
        · next h1 =>
          cases h
          have : wlsum X ρ [p] + e.2 = (sd X ρ p.1).2 + e.2 := by simp only [wlsum, h1]; grind
          rw [this, l_add (by omega) (by omega)]
          omega
        · split at h
          · next h1 =>
            cases h
            have : wlsum X ρ [p] + e.2 = e.2 - (sd X ρ p.1).2 := by simp only [wlsum, h1]; grind
            rw [this, l_sub (by omega) (by omega)]
            omega
          · split at h
            · next h1 =>
              cases h
              have m := s_mulc h1.1.1 bz.2.2.2.1 bz.2.2.2.2
              have n1 : -1125899906842624 * 1024 ≤ p.2.toInt * (sivL F p.1).1 := by
                have a1 : p.2.toInt * (-1125899906842624) ≤ p.2.toInt * (sivL F p.1).1 := Int.mul_le_mul_of_nonneg_left h1.2.1 h1.1.1
                omega
              have n2 : p.2.toInt * (sivL F p.1).2 ≤ 1125899906842624 * 1024 := by
                have a1 : p.2.toInt * (sivL F p.1).2 ≤ p.2.toInt * 1125899906842624 := Int.mul_le_mul_of_nonneg_left h1.2.2 h1.1.1
                omega
              have e5 : (p.2 * (sd X ρ p.1).2).toInt = p.2.toInt * (sd X ρ p.1).2.toInt := l_mul (by omega) (by omega)
              have : wlsum X ρ [p] + e.2 = p.2 * (sd X ρ p.1).2 + e.2 := by simp only [wlsum]; grind
              rw [this, l_add (by rw [e5]; omega) (by rw [e5]; omega), e5]
              omega
            · cases h
    · next p q hw =>
      rw [hw]
      split at h
      · next k' hk =>
        cases h
        obtain ⟨z1, z2, z3⟩ := zlow_ok hF hk (by simp)
        simp only [List.length_cons, List.length_nil] at z2 z3
        rw [l_add (by omega) (by omega)]
        omega
      · cases h
    · cases h
  · cases h
/-- b - a is at least m because y - x is at least lb -/
noncomputable def zone (F : sFs) (a b : sT) (m : Int) (x y : sT) (lb : Int) : Bool := zbd F x && (zbd F y && (match zres F (wladds (zdiff a b) (wlneg (zdiff x y))) with
  | some k => decide (m ≤ lb + k)
  | none => false))
theorem zone_ok (hF : fok X ρ F) {a b x y : sT} {m lb : Int} (ha : zbd F a = true) (hb : zbd F b = true) (h : zone F a b m x y lb = true) (hl : lb ≤ (sd X ρ y).2.toInt - (sd X ρ x).2.toInt) : m ≤ (sd X ρ b).2.toInt - (sd X ρ a).2.toInt := by
  simp only [zone, Bool.and_eq_true] at h
  obtain ⟨hx, hy, h1⟩ := h
  have ba := zbd_ok hF ha
  have bb := zbd_ok hF hb
  have bx := zbd_ok hF hx
  have by' := zbd_ok hF hy
  split at h1
  · next k hk =>
    have h1 := of_decide_eq_true h1
    obtain ⟨k1, k2, k3⟩ := zres_ok hF hk
    have e : wlval X ρ (wladds (zdiff a b) (wlneg (zdiff x y))) = ((sd X ρ b).2 - (sd X ρ a).2) - ((sd X ρ y).2 - (sd X ρ x).2) := by
      rw [wladds_ok, wlneg_ok, zdiff_ok, zdiff_ok]
      grind
    generalize wlval X ρ (wladds (zdiff a b) (wlneg (zdiff x y))) = w at k1 k2 k3 e
    have e2 : (sd X ρ b).2 - (sd X ρ a).2 = ((sd X ρ y).2 - (sd X ρ x).2) + w := by grind
    have e3 := congrArg Int64.toInt e2
    have g1 : ((sd X ρ y).2 - (sd X ρ x).2).toInt = (sd X ρ y).2.toInt - (sd X ρ x).2.toInt := l_sub (by omega) (by omega)
    rw [l_sub (by omega) (by omega), l_add (by rw [g1]; omega) (by rw [g1]; omega), g1] at e3
    omega
  · cases h1
/-- b - a is at least m -/
noncomputable def zself (F : sFs) (a b : sT) (m : Int) : Bool := match zres F (zdiff a b) with
  | some k => decide (m ≤ k)
  | none => false
noncomputable def zge (F : sFs) (a b : sT) (m : Int) : Bool := zbd F a && (zbd F b && ((decide (m ≤ (sivL F b).1 - (sivL F a).2) || zself F a b m) || F.any (fun f => match f with
  | ((8, p, q), true) => zone F a b m p q 1
  | ((8, p, q), false) => zone F a b m q p 0
  | ((6, p, q), true) => zone F a b m p q 0 || zone F a b m q p 0
  | _ => false)))
theorem zge_ok (hF : fok X ρ F) {a b : sT} {m : Int} (h : zge F a b m = true) : m ≤ (sd X ρ b).2.toInt - (sd X ρ a).2.toInt := by
  simp only [zge, Bool.and_eq_true, Bool.or_eq_true, decide_eq_true_eq, List.any_eq_true] at h
  obtain ⟨ha, hb, (h | h) | ⟨f, hf, h⟩⟩ := h
  · have ba := zbd_ok hF ha
    have bb := zbd_ok hF hb
    omega
  · have ba := zbd_ok hF ha
    have bb := zbd_ok hF hb
    unfold zself at h
    split at h
    · next k hk =>
      have h := of_decide_eq_true h
      have h1 := (zres_ok hF hk).1
      rw [zdiff_ok, l_sub (by omega) (by omega)] at h1
      omega
    · cases h
  · have h1 := hF.2 f hf
    split at h
    · next p q =>
      have h2 : (sd X ρ p).2 < (sd X ρ q).2 := of_decide_eq_true h1
      have h2 := Int64.lt_iff_toInt_lt.mp h2
      exact zone_ok hF ha hb h (by omega)
    · next p q =>
      have h2 : ¬ (sd X ρ p).2 < (sd X ρ q).2 := of_decide_eq_false h1
      have h2 := Int64.le_iff_toInt_le.mp (Int64.not_lt.mp h2)
      exact zone_ok hF ha hb h (by omega)
    · next p q =>
      have h2 : (sd X ρ p).2 = (sd X ρ q).2 := of_decide_eq_true h1
      rcases Bool.or_eq_true _ _ ▸ h with h | h
      · exact zone_ok hF ha hb h (by rw [h2]; omega)
      · exact zone_ok hF ha hb h (by rw [h2]; omega)
    · cases h
/-- longs that are the same, each at least the other -/
noncomputable def tz (F : sFs) (a b : sT) : Bool := zge F a b 0 && zge F b a 0
theorem tz_ok (hF : fok X ρ F) {a b : sT} (h : tz F a b = true) : sv X ρ a = sv X ρ b := by
  simp only [tz, Bool.and_eq_true] at h
  have h1 := zge_ok hF h.1
  have h2 := zge_ok hF h.2
  have h3 := h.1
  simp only [zge, Bool.and_eq_true] at h3
  have ka := (zbd_ok hF h3.1).1
  have kb := (zbd_ok hF h3.2.1).1
  rw [sv_long ka, sv_long kb, Int64.toInt_inj.mp (show (sd X ρ a).2.toInt = (sd X ρ b).2.toInt by omega)]
noncomputable def wmulT (q : sT × Int64) : sT := if q.2 = 1 then q.1 else if q.2 = -1 then .op1 .lneg q.1 else .op2 .lmul q.1 (.long q.2)
noncomputable def wterm (c : Int64) : List (sT × Int64) → sT
  | [] => .long c
  | q :: r => .op2 .ladd (wmulT q) (wterm c r)
theorem wmulT_d (q : sT × Int64) : (sd X ρ (wmulT q)).2 = q.2 * (sd X ρ q.1).2 := by
  unfold wmulT
  split
  · next h => rw [h]; grind
  · split
    · next h =>
      rw [h]
      show -(sd X ρ q.1).2 = _
      grind
    · show (sd X ρ q.1).2 * q.2 = _
      grind
theorem wterm_d (c : Int64) : ∀ l : List (sT × Int64), (sd X ρ (wterm c l)).2 = wlsum X ρ l + c
  | [] => by
    show c = wlsum X ρ [] + c
    simp only [wlsum]
    grind
  | q :: r => by
    show (sd X ρ (wmulT q)).2 + (sd X ρ (wterm c r)).2 = _
    rw [wmulT_d, wterm_d c r]
    simp only [wlsum]
    grind
noncomputable def tlin3 (F : sFs) (a b : sT) : Bool := (sk a == 1 && sk b == 1) && (let d := zdiff b a; tz F (wterm d.2 (wred F (zwnz d.1))) (.long 0))
theorem tlin3_ok (hF : fok X ρ F) {a b : sT} (h : tlin3 F a b = true) : sv X ρ a = sv X ρ b := by
  simp only [tlin3, Bool.and_eq_true, beq_iff_eq] at h
  obtain ⟨⟨h1, h2⟩, h3⟩ := h
  simp only [tz, Bool.and_eq_true] at h3
  have g1 := zge_ok hF h3.1
  have g2 := zge_ok hF h3.2
  rw [wterm_d, wred_ok hF, zwnz_ok] at g1 g2
  have e := zdiff_ok (X := X) (ρ := ρ) b a
  have e0 : wlsum X ρ (zdiff b a).1 + (zdiff b a).2 = wlval X ρ (zdiff b a) := rfl
  rw [e0, e] at g1 g2
  have z : (sd X ρ (.long 0)).2.toInt = 0 := rfl
  rw [z] at g1 g2
  have e2 : (sd X ρ a).2 - (sd X ρ b).2 = 0 := Int64.toInt_inj.mp (by show _ = (0 : Int); omega)
  have e3 : (sd X ρ a).2 = (sd X ρ b).2 := by grind
  rw [sv_long h1, sv_long h2, e3]
/-- the lowest bits of a long that has no others -/
noncomputable def tland (F : sFs) (a b : sT) : Bool := match a with
  | .op2 .land x (.long m) => (sk x == 1 && sk b == 1) && (decide (0 ≤ (sivL F x).1) && (decide ((sivL F x).2 ≤ m.toInt) && ((List.range 63).any (fun k => decide (m.toInt = 2 ^ k - 1)) && (tqe x b || tlin x b))))
  | _ => false
theorem tland_ok (hF : fok X ρ F) {a b : sT} (h : tland F a b = true) : sv X ρ a = sv X ρ b := by
  unfold tland at h
  split at h
  · next x m =>
    simp only [Bool.and_eq_true, beq_iff_eq, decide_eq_true_eq, List.any_eq_true, Bool.or_eq_true] at h
    obtain ⟨⟨h1, h2⟩, h3, h4, ⟨k, -, hk⟩, h5⟩ := h
    have hx := sivL_ok hF x
    rw [sn_l h1] at hx
    have exb : sv X ρ x = sv X ρ b := by
      rcases h5 with h5 | h5
      · rw [tqe_ok _ _ h5]
      · exact tlin_ok h5
    rw [← exb, sv_long h1]
    show Value.long ((sd X ρ x).2 &&& m) = _
    congr 1
    apply Int64.toInt_inj.mp
    have hp : (0 : Int) < 2 ^ k := Int.pow_pos (by omega)
    rw [lx_and (by omega) (by omega), hk]
    have e1 : ((2 : Int) ^ k - 1).toNat = 2 ^ k - 1 := by
      have : ((2 : Int) ^ k) = ((2 ^ k : Nat) : Int) := by simp
      omega
    rw [e1, Nat.and_two_pow_sub_one_eq_mod, Nat.mod_eq_of_lt]
    · omega
    · have : ((2 : Int) ^ k) = ((2 ^ k : Nat) : Int) := by simp
      omega
  · cases h
/-- one comparison of longs by another -/
noncomputable def zdec (F : sFs) (c : sQ) : Option Bool := match c.1 with
  | 8 => bif zge F c.2.1 c.2.2 1 then some true else bif zge F c.2.2 c.2.1 0 then some false else none
  | 6 => bif zge F c.2.1 c.2.2 1 || zge F c.2.2 c.2.1 1 then some false else bif tz F c.2.1 c.2.2 then some true else none
  | _ => none
theorem zdec_ok (hF : fok X ρ F) {c : sQ} {v : Bool} (h : zdec F c = some v) : sc X ρ c = v := by
  obtain ⟨k, a, b⟩ := c
  unfold zdec at h
  dsimp only at h
  split at h
  · cases h1 : zge F a b 1 with
    | true =>
      rw [h1] at h
      cases h
      have := zge_ok hF h1
      show decide ((sd X ρ a).2 < (sd X ρ b).2) = true
      exact decide_eq_true (Int64.lt_iff_toInt_lt.mpr (by omega))
    | false =>
      rw [h1] at h
      cases h2 : zge F b a 0 with
      | true =>
        rw [h2] at h
        cases h
        have := zge_ok hF h2
        show decide ((sd X ρ a).2 < (sd X ρ b).2) = false
        exact decide_eq_false (fun q => by have := Int64.lt_iff_toInt_lt.mp q; omega)
      | false => rw [h2] at h; cases h
  · cases h1 : zge F a b 1 || zge F b a 1 with
    | true =>
      rw [h1] at h
      cases h
      rcases Bool.or_eq_true _ _ ▸ h1 with h1 | h1
      · have := zge_ok hF h1
        show decide ((sd X ρ a).2 = (sd X ρ b).2) = false
        exact decide_eq_false (fun q => by rw [q] at this; omega)
      · have := zge_ok hF h1
        show decide ((sd X ρ a).2 = (sd X ρ b).2) = false
        exact decide_eq_false (fun q => by rw [q] at this; omega)
    | false =>
      rw [h1] at h
      cases h2 : tz F a b with
      | true =>
        rw [h2] at h
        cases h
        simp only [tz, Bool.and_eq_true] at h2
        have h3 := zge_ok hF h2.1
        have h4 := zge_ok hF h2.2
        show decide ((sd X ρ a).2 = (sd X ρ b).2) = true
        exact decide_eq_true (Int64.toInt_inj.mp (by omega))
      | false => rw [h2] at h; cases h
  · cases h
end ZLE
