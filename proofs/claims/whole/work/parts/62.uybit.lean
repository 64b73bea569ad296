/-! ===== one bit of a term, through shifts and widenings ===== -/
section YBIT
variable {X : pX} {ρ : sR} {F : sFs}
noncomputable def tb (X : pX) (ρ : sR) (t : sT) (k : Nat) : Bool := if sk t = 1 then (sd X ρ t).2.toBitVec.getLsbD k else (sd X ρ t).1.toBitVec.getLsbD k
theorem tb_i {t : sT} {k : Nat} (h : sk t = 0) : tb X ρ t k = (sd X ρ t).1.toBitVec.getLsbD k := by
  unfold tb
  rw [if_neg (by rw [h]; decide)]
theorem tb_l {t : sT} {k : Nat} (h : sk t = 1) : tb X ρ t k = (sd X ρ t).2.toBitVec.getLsbD k := by
  unfold tb
  rw [if_pos h]
/-- a condition that asks for one bit: of which term, which, and what it is if the condition holds -/
noncomputable def cbit (c : sQ) : Option (sT × Nat × Bool) := match c with
  | (0, .op2 .iand x (.int m), .int z) => if sk x = 0 then (match (List.range 32).find? (fun k => decide (m.toBitVec = BitVec.twoPow 32 k)) with
    | some k => if z = 0 then some (x, k, false) else if z = m then some (x, k, true) else none
    | none => none) else none
  | (6, .op2 .land x (.long m), .long z) => if sk x = 1 then (match (List.range 64).find? (fun k => decide (m.toBitVec = BitVec.twoPow 64 k)) with
    | some k => if z = 0 then some (x, k, false) else if z = m then some (x, k, true) else none
    | none => none) else none
  | _ => none
theorem tp_ne {w k : Nat} (h : k < w) : ¬ BitVec.twoPow w k = 0#w := by
  intro e
  have h1 := congrArg (fun z => z.getLsbD k) e
  simp [BitVec.getLsbD_twoPow, h] at h1
theorem and_tp {w k : Nat} (h : k < w) (x : BitVec w) : (x &&& BitVec.twoPow w k = 0#w ↔ x.getLsbD k = false) ∧ (x &&& BitVec.twoPow w k = BitVec.twoPow w k ↔ x.getLsbD k = true) := by
  rw [BitVec.and_twoPow]
  cases hb : x.getLsbD k with
  | true => simp [tp_ne h]
  | false =>
    simp only [Bool.false_eq_true, if_false, true_and, iff_false]
    exact fun e => tp_ne h e.symm
theorem cbit_ok {c : sQ} {q : sT × Nat × Bool} (h : cbit c = some q) : sc X ρ c = decide (tb X ρ q.1 q.2.1 = q.2.2) := by
  unfold cbit at h
  split at h
  · next x m z =>
    split at h
    · next hx =>
      split at h
      · next k hk =>
        have hm : m.toBitVec = BitVec.twoPow 32 k := of_decide_eq_true (List.find?_some (p := fun k => decide (m.toBitVec = BitVec.twoPow 32 k)) hk)
        have hk32 : k < 32 := List.mem_range.mp (List.mem_of_find?_eq_some hk)
        obtain ⟨a1, a2⟩ := and_tp hk32 (sd X ρ x).1.toBitVec
        split at h
        · next hz =>
          cases h
          show decide ((sd X ρ x).1 &&& m = z) = decide (tb X ρ x k = false)
          rw [tb_i hx, hz]
          apply decide_eq_decide.mpr
          rw [← a1, ← hm, ← Int32.toBitVec_and]
          exact ⟨fun e => by rw [e]; rfl, fun e => Int32.toBitVec_inj.mp e⟩
        · split at h
          · next hz =>
            cases h
            show decide ((sd X ρ x).1 &&& m = z) = decide (tb X ρ x k = true)
            rw [tb_i hx, hz]
            apply decide_eq_decide.mpr
            rw [← a2, ← hm, ← Int32.toBitVec_and]
            exact ⟨fun e => by rw [e], fun e => Int32.toBitVec_inj.mp e⟩
          · cases h
      · cases h
    · cases h
  · next x m z =>
    split at h
    · next hx =>
      split at h
      · next k hk =>
        have hm : m.toBitVec = BitVec.twoPow 64 k := of_decide_eq_true (List.find?_some (p := fun k => decide (m.toBitVec = BitVec.twoPow 64 k)) hk)
        have hk64 : k < 64 := List.mem_range.mp (List.mem_of_find?_eq_some hk)
        obtain ⟨a1, a2⟩ := and_tp hk64 (sd X ρ x).2.toBitVec
        split at h
        · next hz =>
          cases h
          show decide ((sd X ρ x).2 &&& m = z) = decide (tb X ρ x k = false)
          rw [tb_l hx, hz]
          apply decide_eq_decide.mpr
          rw [← a1, ← hm, ← Int64.toBitVec_and]
          exact ⟨fun e => by rw [e]; rfl, fun e => Int64.toBitVec_inj.mp e⟩
        · split at h
          · next hz =>
            cases h
            show decide ((sd X ρ x).2 &&& m = z) = decide (tb X ρ x k = true)
            rw [tb_l hx, hz]
            apply decide_eq_decide.mpr
            rw [← a2, ← hm, ← Int64.toBitVec_and]
            exact ⟨fun e => by rw [e], fun e => Int64.toBitVec_inj.mp e⟩
          · cases h
      · cases h
    · cases h
  · cases h
/-- the same bit of what lies below -/
noncomputable def bstrip : sT → Nat → sT × Nat
  | .op1 o x, k => (match o with
    | .i2l => if sk x = 0 ∧ k < 32 then bstrip x k else (.op1 .i2l x, k)
    | .l2i => if sk x = 1 ∧ k < 32 then bstrip x k else (.op1 .l2i x, k)
    | o => (.op1 o x, k))
  | .op2 o x y, k => (match o, y with
    | .ladd, .long c => if sk x = 1 ∧ k < 64 ∧ c.toBitVec.toNat % 2 ^ (k + 1) = 0 then bstrip x k else (.op2 .ladd x (.long c), k)
    | .iand, .int c => if sk x = 0 ∧ k < 32 ∧ c.toBitVec.getLsbD k = true then bstrip x k else (.op2 .iand x (.int c), k)
    | .ior, .int c => if sk x = 0 ∧ k < 32 ∧ c.toBitVec.getLsbD k = false then bstrip x k else (.op2 .ior x (.int c), k)
    | .land, .long c => if sk x = 1 ∧ k < 64 ∧ c.toBitVec.getLsbD k = true then bstrip x k else (.op2 .land x (.long c), k)
    | .lor, .long c => if sk x = 1 ∧ k < 64 ∧ c.toBitVec.getLsbD k = false then bstrip x k else (.op2 .lor x (.long c), k)
    | .iushr, .int j => if sk x = 0 ∧ (j.toNatClampNeg < 32 ∧ j = Int32.ofNat j.toNatClampNeg) ∧ k + j.toNatClampNeg < 32 then bstrip x (k + j.toNatClampNeg) else (.op2 .iushr x (.int j), k)
    | .lushr, .int j => if sk x = 1 ∧ (j.toNatClampNeg < 64 ∧ j = Int32.ofNat j.toNatClampNeg) ∧ k + j.toNatClampNeg < 64 then bstrip x (k + j.toNatClampNeg) else (.op2 .lushr x (.int j), k)
    | .lshr, .int j => if sk x = 1 ∧ (j.toNatClampNeg < 64 ∧ j = Int32.ofNat j.toNatClampNeg) ∧ k + j.toNatClampNeg < 64 then bstrip x (k + j.toNatClampNeg) else (.op2 .lshr x (.int j), k)
    | o, y => (.op2 o x y, k))
  | t, k => (t, k)
theorem add_bit {a b : BitVec 64} {k : Nat} (hk : k < 64) (hb : b.toNat % 2 ^ (k + 1) = 0) : (a + b).getLsbD k = a.getLsbD k := by
  show (a + b).toNat.testBit k = a.toNat.testBit k
  rw [BitVec.toNat_add, Nat.testBit_mod_two_pow]
  have e : ∀ n : Nat, n.testBit k = (n % 2 ^ (k + 1)).testBit k := fun n => by
    rw [Nat.testBit_mod_two_pow]
    simp
  rw [e (a.toNat + b.toNat), e a.toNat, Nat.add_mod, hb, Nat.add_zero, Nat.mod_mod]
  simp [hk]
theorem bstrip_ok : ∀ (t : sT) (k : Nat), tb X ρ (bstrip t k).1 (bstrip t k).2 = tb X ρ t k := by
  intro t
  induction t with
  | op1 o x ih =>
    intro k
    unfold bstrip
    split
    · split
      · next h =>
        rw [ih k, tb_i h.1, tb_l (t := .op1 .i2l x) rfl]
        show _ = ((sd X ρ x).1.toInt64).toBitVec.getLsbD k
        rw [Int32.toBitVec_toInt64, BitVec.getLsbD_signExtend]
        simp [show k < 64 by omega, h.2]
      · rfl
    · split
      · next h =>
        rw [ih k, tb_l h.1, tb_i (t := .op1 .l2i x) rfl]
        show _ = ((sd X ρ x).2.toInt32).toBitVec.getLsbD k
        rw [Int64.toBitVec_toInt32, BitVec.getLsbD_signExtend]
        simp [show k < 64 by omega, h.2]
      · rfl
    · rfl
  | op2 o x y ihx ihy =>
    intro k
    unfold bstrip
    split
    · next c =>
      split
      · next h =>
        rw [ihx k, tb_l h.1, tb_l (t := .op2 .ladd x (.long c)) rfl]
        show _ = ((sd X ρ x).2 + c).toBitVec.getLsbD k
        rw [Int64.toBitVec_add, add_bit h.2.1 h.2.2]
      · rfl
    · next c =>
      split
      · next h =>
        rw [ihx k, tb_i h.1, tb_i (t := .op2 .iand x (.int c)) rfl]
        show _ = ((sd X ρ x).1 &&& c).toBitVec.getLsbD k
        rw [Int32.toBitVec_and, BitVec.getLsbD_and, h.2.2, Bool.and_true]
      · rfl
    · next c =>
      split
      · next h =>
        rw [ihx k, tb_i h.1, tb_i (t := .op2 .ior x (.int c)) rfl]
        show _ = ((sd X ρ x).1 ||| c).toBitVec.getLsbD k
        rw [Int32.toBitVec_or, BitVec.getLsbD_or, h.2.2, Bool.or_false]
      · rfl
    · next c =>
      split
      · next h =>
        rw [ihx k, tb_l h.1, tb_l (t := .op2 .land x (.long c)) rfl]
        show _ = ((sd X ρ x).2 &&& c).toBitVec.getLsbD k
        rw [Int64.toBitVec_and, BitVec.getLsbD_and, h.2.2, Bool.and_true]
      · rfl
    · next c =>
      split
      · next h =>
        rw [ihx k, tb_l h.1, tb_l (t := .op2 .lor x (.long c)) rfl]
        show _ = ((sd X ρ x).2 ||| c).toBitVec.getLsbD k
        rw [Int64.toBitVec_or, BitVec.getLsbD_or, h.2.2, Bool.or_false]
      · rfl
    · next j =>
      split
      · next h =>
        rw [ihx _, tb_i h.1, tb_i (t := .op2 .iushr x (.int j)) rfl]
        show _ = ((sd X ρ x).1.toUInt32 >>> (j.toUInt32 &&& Int32.toUInt32 31)).toInt32.toBitVec.getLsbD k
        have hsh : ∀ n : Nat, n < 32 → (((Int32.ofNat n).toBitVec &&& (31 : Int32).toBitVec) % 32#32).toNat = n := by decide
        have hs : ((sd X ρ x).1.toUInt32 >>> (j.toUInt32 &&& Int32.toUInt32 31)).toInt32.toBitVec = (sd X ρ x).1.toBitVec >>> j.toNatClampNeg := by
          show ((sd X ρ x).1.toUInt32 >>> (j.toUInt32 &&& Int32.toUInt32 31)).toBitVec = _
          have hj := h.2.1.2
          generalize hn : j.toNatClampNeg = n at hj h
          rw [UInt32.toBitVec_shiftRight, UInt32.toBitVec_and, hj, BitVec.ushiftRight_eq']
          congr 1
          exact hsh n h.2.1.1
        rw [hs, BitVec.getLsbD_ushiftRight, Nat.add_comm]
      · rfl
    · next j =>
      split
      · next h =>
        rw [ihx _, tb_l h.1, tb_l (t := .op2 .lushr x (.int j)) rfl]
        show _ = ((sd X ρ x).2.toUInt64 >>> (j.toInt64.toUInt64 &&& Int64.toUInt64 63)).toInt64.toBitVec.getLsbD k
        have hsh : ∀ n : Nat, n < 64 → (((Int32.ofNat n).toInt64.toBitVec &&& (63 : Int64).toBitVec) % 64#64).toNat = n := by decide
        have hs : ((sd X ρ x).2.toUInt64 >>> (j.toInt64.toUInt64 &&& Int64.toUInt64 63)).toInt64.toBitVec = (sd X ρ x).2.toBitVec >>> j.toNatClampNeg := by
          show ((sd X ρ x).2.toUInt64 >>> (j.toInt64.toUInt64 &&& Int64.toUInt64 63)).toBitVec = _
          have hj := h.2.1.2
          generalize hn : j.toNatClampNeg = n at hj h
          rw [UInt64.toBitVec_shiftRight, UInt64.toBitVec_and, hj, BitVec.ushiftRight_eq']
          congr 1
          exact hsh n h.2.1.1
        rw [hs, BitVec.getLsbD_ushiftRight, Nat.add_comm]
      · rfl
    · next j =>
      split
      · next h =>
        rw [ihx _, tb_l h.1, tb_l (t := .op2 .lshr x (.int j)) rfl]
        show _ = ((sd X ρ x).2 >>> (j.toInt64 &&& 63)).toBitVec.getLsbD k
        have hsh : ∀ n : Nat, n < 64 → (((Int32.ofNat n).toInt64 &&& 63).toBitVec.smod 64#64).toNat = n := by decide
        have hs : ((sd X ρ x).2 >>> (j.toInt64 &&& 63)).toBitVec = (sd X ρ x).2.toBitVec.sshiftRight j.toNatClampNeg := by
          have hj := h.2.1.2
          generalize hn : j.toNatClampNeg = n at hj h
          rw [Int64.toBitVec_shiftRight, hj, BitVec.sshiftRight_eq']
          congr 1
          exact hsh n h.2.1.1
        rw [hs, BitVec.getLsbD_sshiftRight]
        have h3 := h.2.2
        rw [Nat.add_comm] at h3 ⊢
        simp [h3, show k < 64 by omega]
      · rfl
    · rfl
  | _ => intro k; rfl
/-- a fact of the same bit -/
noncomputable def ydec (F : sFs) (c : sQ) : Option Bool := match cbit c with
  | some q => F.findSome? (fun f => match cbit f.1 with
    | some r => if (bstrip q.1 q.2.1).2 = (bstrip r.1 r.2.1).2 ∧ tqe (bstrip q.1 q.2.1).1 (bstrip r.1 r.2.1).1 = true then some (if q.2.2 = r.2.2 then f.2 else !f.2) else none
    | none => none)
  | none => none
theorem ydec_ok (hF : fok X ρ F) {c : sQ} {v : Bool} (h : ydec F c = some v) : sc X ρ c = v := by
  unfold ydec at h
  split at h
  · next q hq =>
    obtain ⟨f, hf, h1⟩ := List.exists_of_findSome?_eq_some h
    have h2 := hF.2 f hf
    split at h1
    · next r hr =>
      split at h1
      · next he =>
        cases h1
        rw [cbit_ok hq, ← bstrip_ok q.1 q.2.1, he.1, tqe_ok _ _ he.2, bstrip_ok r.1 r.2.1]
        rw [cbit_ok hr] at h2
        generalize tb X ρ r.1 r.2.1 = b at h2
        generalize q.2.2 = v1
        generalize r.2.2 = v2 at h2
        rw [← h2]
        cases b <;> cases v1 <;> cases v2 <;> rfl
      · cases h1
    · cases h1
  · cases h
/-- a number against a variable that a fact holds against a bit -/
noncomputable def wdec (F : sFs) (c : sQ) : Option Bool := match c with
  | (0, .int z, .arg p) => F.findSome? (fun f => match f.1 with
    | (0, u, .arg q) => if q = p ∧ ydec F (0, u, .int z) = some true then some f.2 else none
    | _ => none)
  | _ => none
theorem wdec_ok (hF : fok X ρ F) {c : sQ} {v : Bool} (h : wdec F c = some v) : sc X ρ c = v := by
  unfold wdec at h
  split at h
  · next z p =>
    obtain ⟨f, hf, h1⟩ := List.exists_of_findSome?_eq_some h
    have h2 := hF.2 f hf
    split at h1
    · next u q hq =>
      split at h1
      · next he =>
        cases h1
        have h3 := ydec_ok hF he.2
        have h3 : (sd X ρ u).1 = z := of_decide_eq_true h3
        rw [hq, he.1] at h2
        rw [← h2]
        show decide (z = ρ.1 p) = decide ((sd X ρ u).1 = ρ.1 p)
        rw [h3]
      · cases h1
    · cases h1
  · cases h
end YBIT
