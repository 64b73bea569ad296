/-! ===== ... of the machine's numbers ===== -/
noncomputable def xb (x : Int32) : Nat → Bool := fun j => x.toBitVec.getLsbD j
theorem xb_hi {x : Int32} {j : Nat} (h : 32 ≤ j) : xb x j = false := BitVec.getLsbD_of_ge _ _ h
theorem b_65535 : ∀ j, j < 32 → (65535 : Int32).toBitVec.getLsbD j = decide (j < 16) := by decide
theorem b_4129 : ∀ j, j < 32 → (4129 : Int32).toBitVec.getLsbD j = (j == 0 || (j == 5 || j == 12)) := by decide
theorem b_and1 {x y : BitVec 32} : x &&& 1#32 = y &&& 1#32 ↔ x.getLsbD 0 = y.getLsbD 0 := by
  constructor
  · intro h
    have h1 := congrArg (fun z : BitVec 32 => z.getLsbD 0) h
    simpa [BitVec.getLsbD_and] using h1
  · intro h
    rw [BitVec.and_one_eq_setWidth_ofBool_getLsbD, BitVec.and_one_eq_setWidth_ofBool_getLsbD, h]
theorem b_shl {x : Int32} {n j : Nat} (hn : n < 32) : (x <<< (Int32.ofNat n &&& 31)).toBitVec.getLsbD j = (decide (j < 32) && (!decide (j < n) && xb x (j - n))) := by
  rw [sh_il hn, BitVec.getLsbD_shiftLeft, Bool.and_assoc]
  rfl
theorem b_shu {x : Int32} {n j : Nat} (hn : n < 32) : (x.toUInt32 >>> ((Int32.ofNat n).toUInt32 &&& Int32.toUInt32 31)).toInt32.toBitVec.getLsbD j = xb x (n + j) := by
  rw [sh_iu hn, BitVec.getLsbD_ushiftRight]
  rfl
theorem crb_b {b s : Int32} {n : Nat} (hn : n < 32) : xb (crb b (Int32.ofNat n) s) = fb1 (xb b n) (xb s) := by
  funext j
  have e1 : ((s >>> ((15 : Int32) &&& 31)) &&& 1 = (b >>> (Int32.ofNat n &&& 31)) &&& 1) ↔ xb s 15 = xb b n := by
    rw [← Int32.toBitVec_inj, Int32.toBitVec_and, Int32.toBitVec_and, show ((15 : Int32) &&& 31) = Int32.ofNat 15 &&& 31 from rfl, sh_ir (by decide), sh_ir hn]
    show _ &&& 1#32 = _ &&& 1#32 ↔ _
    rw [b_and1]
    have k1 : ∀ (x : Int32) (m : Nat), m < 32 → (x.toBitVec.sshiftRight m).getLsbD 0 = xb x m := by
      intro x m hm
      rw [BitVec.getLsbD_sshiftRight]
      simp [hm, xb]
    rw [k1 s 15 (by decide), k1 b n hn]
  by_cases hj : j < 32
  · have t1 : ((s <<< ((1 : Int32) &&& 31)) &&& 65535).toBitVec.getLsbD j = (decide (j < 16) && (decide (0 < j) && xb s (j - 1))) := by
      rw [Int32.toBitVec_and, BitVec.getLsbD_and, b_65535 j hj, show ((1 : Int32) &&& 31) = Int32.ofNat 1 &&& 31 from rfl, b_shl (by decide)]
      have : (!decide (j < 1)) = decide (0 < j) := by
        by_cases q : 0 < j
        · simp [q]; omega
        · simp [q]; omega
      rw [this, decide_eq_true hj, Bool.true_and, Bool.and_comm]
    show (crb b (Int32.ofNat n) s).toBitVec.getLsbD j = (decide (j < 16) && ((decide (0 < j) && xb s (j - 1)) ^^ ((xb s 15 ^^ xb b n) && (j == 0 || (j == 5 || j == 12)))))
    unfold crb
    by_cases h : xb s 15 = xb b n
    · rw [if_pos (e1.mpr h), t1]
      simp only [h, Bool.xor_self, Bool.false_and, Bool.xor_false]
    · rw [if_neg (fun q => h (e1.mp q)), Int32.toBitVec_xor, BitVec.getLsbD_xor, t1, b_4129 j hj]
      have hx : (xb s 15 ^^ xb b n) = true := by
        revert h
        cases xb s 15 <;> cases xb b n <;> simp
      rw [hx, Bool.true_and]
      by_cases q : j < 16
      · rw [decide_eq_true q, Bool.true_and, Bool.true_and]
      · rw [decide_eq_false q, Bool.false_and, Bool.false_and, Bool.false_xor]
        have : (j == 0 || (j == 5 || j == 12)) = false := by
          simp only [Bool.or_eq_false_iff, beq_eq_false_iff_ne]
          omega
        exact this
  · rw [xb_hi (by omega)]
    unfold fb1
    rw [decide_eq_false (by omega), Bool.false_and]
theorem crm_b {s b : Int32} : xb (crm s b) = fbm (xb s) (xb b) := by
  unfold crm fbm
  rw [show (0 : Int32) = Int32.ofNat 0 from rfl, show (1 : Int32) = Int32.ofNat 1 from rfl, show (2 : Int32) = Int32.ofNat 2 from rfl, show (3 : Int32) = Int32.ofNat 3 from rfl, show (4 : Int32) = Int32.ofNat 4 from rfl, show (5 : Int32) = Int32.ofNat 5 from rfl, show (6 : Int32) = Int32.ofNat 6 from rfl, show (7 : Int32) = Int32.ofNat 7 from rfl]
  rw [crb_b (by decide), crb_b (by decide), crb_b (by decide), crb_b (by decide), crb_b (by decide), crb_b (by decide), crb_b (by decide), crb_b (by decide)]
theorem crx_b {s b : Int32} : xb (crx s b) = fbx (xb s) (xb b) := by
  funext j
  unfold crx fbx
  show ((s.toUInt32 >>> ((8 : Int32).toUInt32 &&& Int32.toUInt32 31)).toInt32 ^^^ b).toBitVec.getLsbD j = _
  rw [Int32.toBitVec_xor, BitVec.getLsbD_xor, show (8 : Int32) = Int32.ofNat 8 from rfl, b_shu (by decide), Nat.add_comm 8 j]
  by_cases q : j < 24
  · rw [decide_eq_true q, Bool.true_and]; rfl
  · rw [decide_eq_false q, Bool.false_and, xb_hi (by omega)]; rfl
theorem cry_b {m : Int32} : xb (cry m) = fby (xb m) := by
  funext j
  unfold cry fby
  show (m ^^^ (m.toUInt32 >>> ((4 : Int32).toUInt32 &&& Int32.toUInt32 31)).toInt32).toBitVec.getLsbD j = _
  rw [Int32.toBitVec_xor, BitVec.getLsbD_xor, show (4 : Int32) = Int32.ofNat 4 from rfl, b_shu (by decide), Nat.add_comm 4 j]
  by_cases q : j < 28
  · rw [decide_eq_true q, Bool.true_and]; rfl
  · rw [decide_eq_false q, Bool.false_and, xb_hi (by omega)]; rfl
theorem crz_b {s m : Int32} : xb (crz s m) = fbz (xb s) (xb m) := by
  funext j
  by_cases hj : j < 32
  · unfold crz fbz
    show ((((s <<< ((8 : Int32) &&& 31)) ^^^ (m <<< ((12 : Int32) &&& 31))) ^^^ (m <<< ((5 : Int32) &&& 31)) ^^^ m) &&& 65535).toBitVec.getLsbD j = _
    rw [Int32.toBitVec_and, BitVec.getLsbD_and, b_65535 j hj, Int32.toBitVec_xor, BitVec.getLsbD_xor, Int32.toBitVec_xor, BitVec.getLsbD_xor, Int32.toBitVec_xor, BitVec.getLsbD_xor, show ((8 : Int32) &&& 31) = Int32.ofNat 8 &&& 31 from rfl, show ((12 : Int32) &&& 31) = Int32.ofNat 12 &&& 31 from rfl, show ((5 : Int32) &&& 31) = Int32.ofNat 5 &&& 31 from rfl, b_shl (by decide), b_shl (by decide), b_shl (by decide), decide_eq_true hj, Bool.true_and, Bool.true_and, Bool.true_and, Bool.and_comm]
    have k : ∀ n : Nat, (!decide (j < n)) = decide (n ≤ j) := by
      intro n
      by_cases q : j < n
      · rw [decide_eq_true q, decide_eq_false (by omega)]; rfl
      · rw [decide_eq_false q, decide_eq_true (by omega)]; rfl
    rw [k 8, k 12, k 5]
    rfl
  · rw [xb_hi (by omega)]
    unfold fbz
    rw [decide_eq_false (by omega), Bool.false_and]
/-- both ways give the same -/
theorem crc_eq {s b : Int32} (hs : ∀ j, 16 ≤ j → xb s j = false) (hb : ∀ j, 8 ≤ j → xb b j = false) : crc s b = crm s b := by
  apply Int32.toBitVec_inj.mp
  apply BitVec.eq_of_getLsbD_eq
  intro j hj
  show xb (crc s b) j = xb (crm s b) j
  rw [show xb (crc s b) = fbz (xb s) (fby (fbx (xb s) (xb b))) by unfold crc; rw [crz_b, cry_b, crx_b], crm_b]
  by_cases q : j < 16
  · exact fb_eq _ _ hs hb j q
  · unfold fbz fbm fb1
    rw [decide_eq_false q, Bool.false_and, Bool.false_and]
theorem xb_small {x : Int32} {k : Nat} (h0 : 0 ≤ x.toInt) (h1 : x.toInt < ((2 ^ k : Nat) : Int)) : ∀ j, k ≤ j → xb x j = false := by
  intro j hj
  have h2 : ((2 ^ k : Nat) : Int) ≤ ((2 ^ j : Nat) : Int) := Int.ofNat_le.mpr (Nat.pow_le_pow_right (by decide) hj)
  exact bz_of (x := x.toBitVec) h0 (Int.lt_of_lt_of_le h1 h2)
theorem xb_lt {x : Int32} {k : Nat} (hk : k < 32) (h : ∀ j, k ≤ j → xb x j = false) : 0 ≤ x.toInt ∧ x.toInt < ((2 ^ k : Nat) : Int) := by
  have h1 : x.toBitVec.toNat < 2 ^ k := by
    apply Nat.lt_pow_two_of_testBit
    intro j hj
    exact h j hj
  have h2 : 2 ^ k ≤ 2 ^ 31 := Nat.pow_le_pow_right (by decide) (by omega)
  have h3 : x.toInt = (x.toBitVec.toNat : Int) := by
    show x.toBitVec.toInt = _
    rw [BitVec.toInt_eq_toNat_of_lt]
    omega
  rw [h3]
  exact ⟨by omega, Int.ofNat_lt.mpr h1⟩
theorem crb_lt {b k s : Int32} : 0 ≤ (crb b k s).toInt ∧ (crb b k s).toInt < 65536 := by
  apply xb_lt (k := 16) (by decide)
  intro j hj
  by_cases q : j < 32
  · show (crb b k s).toBitVec.getLsbD j = false
    unfold crb
    split
    · rw [Int32.toBitVec_and, BitVec.getLsbD_and, b_65535 j q, decide_eq_false (by omega), Bool.and_false]
    · rw [Int32.toBitVec_xor, BitVec.getLsbD_xor, Int32.toBitVec_and, BitVec.getLsbD_and, b_65535 j q, b_4129 j q, decide_eq_false (by omega), Bool.and_false, Bool.false_xor]
      simp only [Bool.or_eq_false_iff, beq_eq_false_iff_ne]
      omega
  · exact xb_hi (by omega)
