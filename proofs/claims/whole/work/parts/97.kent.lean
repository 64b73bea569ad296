/-! ===== the entry of a request: what the book and the tables say of it ===== -/
noncomputable def er_w : List Nat := [0, 0, 1, 0, 0, 0, 0, 0, 0, 0, 0, 3, 3, 0, 0, 3, 0, 3, 0, 2, 0, 3, 3, 2, 0, 0, 0, 0, 0, 0, 1, 0, 0, 0, 0, 3, 1, 2, 0, 3, 1, 2, 0, 3, 1, 2, 0, 3, 1, 2, 1, 3, 3, 3, 3, 1, 3, 3, 3, 3, 1, 3, 3, 3, 3, 1, 3, 3, 3, 3, 0, 3, 1, 2, 2, 0, 3, 1, 2, 2, 0, 3, 1, 2, 2, 0, 3, 1, 2, 2, 1, 3, 3, 3, 3, 1, 3, 3, 3, 3, 1, 3, 3, 3, 3, 1, 3, 3, 3, 3, 7, 0, 8, 1, 0, 2, 0, 5, 5, 5, 5, 5, 4, 0, 0, 0, 3, 2, 3, 2, 0, 0, 6, 6, 0, 6, 6, 3, 3, 3, 3, 3, 4, 0, 3, 3, 3, 2, 0, 0, 0, 0, 0, 3, 6, 0]
noncomputable def er_t : List (Int32 × Int32) := [(0, 0), (0, 0), (1, 1), (2, 2), (3, 3), (4, 4), (5, 5), (6, 6), (8, 7)]
theorem er_ok : (List.range 156).all (fun p => decide ((pt_BOOK.getD (5 * p + 1) 0 &&& 32 = 0) = (er_w.getD p 0 = 0)) && (decide ((Int32.ofInt (ztab106.getD p 0) &&& 1 = 0) = (er_w.getD p 0 = 0)) && (decide (er_w.getD p 0 < 9) && (decide (er_w.getD p 0 = 0) || (decide (pt_BOOK.getD (5 * p + 1) 0 &&& 15 = (er_t.getD (er_w.getD p 0) (0, 0)).1) && decide (Int32.ofInt (ztab104.getD p 0) = (er_t.getD (er_w.getD p 0) (0, 0)).2)))))) = true := by decide +kernel
theorem er_b : (List.range 156).all (fun p => decide (bkw.getD p 0 = ztab100.getD p 0 + 65536 * ztab102.getD p 0) && (decide (0 ≤ ztab100.getD p 0) && (decide (ztab100.getD p 0 ≤ 65535) && (decide (0 ≤ ztab102.getD p 0) && (decide (ztab102.getD p 0 ≤ 255) && (decide (er_w.getD p 0 = 0) || awr.contains p)))))) = true := by decide +kernel
theorem rq_ix : tbv [] (.op2 .iand (.op1 .l2i (.op2 .lushr (.arg 5121) (.int 8))) (.int 65535)) (.op1 .l2i (.op2 .land (.op2 .lshr (.arg 5121) (.int 8)) (.long 65535))) = true := by decide +kernel
theorem rq_sb : tbv [] (.op2 .iand (.op1 .l2i (.op2 .lushr (.arg 5121) (.int 24))) (.int 255)) (.op1 .l2i (.op2 .land (.op2 .lshr (.arg 5121) (.int 24)) (.long 255))) = true := by decide +kernel
theorem rq_wh : tbv [] (.op2 .land (.op2 .lushr (.arg 5121) (.int 8)) (.long 16777215)) (.op2 .lor (.op1 .i2l (.op1 .l2i (.op2 .land (.op2 .lshr (.arg 5121) (.int 8)) (.long 65535)))) (.op2 .lshl (.op1 .i2l (.op1 .l2i (.op2 .land (.op2 .lshr (.arg 5121) (.int 24)) (.long 255)))) (.int 16))) = true := by decide +kernel
theorem as_cases {ix sb n : Int} (h : n = aslot ix sb) : n = -1 ∨ n = -2 ∨ ∃ p : Nat, p < 156 ∧ n = p ∧ bkw.getD p 0 = ix + 65536 * sb := by
  unfold aslot at h
  split at h
  · split at h
    · next p hp =>
      obtain ⟨h1, h2, -⟩ := List.findIdx?_eq_some_iff_getElem.mp hp
      refine .inr (.inr ⟨p, by rw [bkw_len] at h1; exact h1, h, ?_⟩)
      rw [List.getD_eq_getElem?_getD, List.getElem?_eq_getElem h1]
      exact of_decide_eq_true h2
    · exact .inr (.inl h)
  · exact .inl h
theorem rng16 {x : Int32} : 0 ≤ (x &&& 65535).toInt ∧ (x &&& 65535).toInt ≤ 65535 := by
  have e : (x &&& 65535).toBitVec.toNat ≤ 65535 := by
    rw [Int32.toBitVec_and, BitVec.toNat_and]
    exact Nat.and_le_right
  have h : (x &&& 65535).toInt = ((x &&& 65535).toBitVec.toNat : Int) := by
    show (x &&& 65535).toBitVec.toInt = _
    rw [BitVec.toInt_eq_toNat_of_lt (by omega)]
  omega
theorem op_ix {X : pX} {ρ : sR} (hv : vok X ρ) : sc X ρ (2, .op1 .l2i (.op2 .land (.op2 .lshr (.arg 5121) (.int 8)) (.long 65535)), .int 0) = false ∧ sc X ρ (2, .int 65535, .op1 .l2i (.op2 .land (.op2 .lshr (.arg 5121) (.int 8)) (.long 65535))) = false := by
  have e1 : (sd X ρ (.op2 .iand (.op1 .l2i (.op2 .lushr (.arg 5121) (.int 8))) (.int 65535))).1 = (sd X ρ (.op1 .l2i (.op2 .land (.op2 .lshr (.arg 5121) (.int 8)) (.long 65535)))).1 := Value.int.inj ((sv_int rfl).symm.trans ((by_v hv rq_ix).trans (sv_int rfl)))
  have r1 : 0 ≤ (sd X ρ (.op2 .iand (.op1 .l2i (.op2 .lushr (.arg 5121) (.int 8))) (.int 65535))).1.toInt ∧ (sd X ρ (.op2 .iand (.op1 .l2i (.op2 .lushr (.arg 5121) (.int 8))) (.int 65535))).1.toInt ≤ 65535 := rng16
  rw [e1] at r1
  exact ⟨decide_eq_false (nlt_i (show (0 : Int32).toInt ≤ (sd X ρ (.op1 .l2i (.op2 .land (.op2 .lshr (.arg 5121) (.int 8)) (.long 65535)))).1.toInt from r1.1)), decide_eq_false (nlt_i (show (sd X ρ (.op1 .l2i (.op2 .land (.op2 .lshr (.arg 5121) (.int 8)) (.long 65535)))).1.toInt ≤ (65535 : Int32).toInt from r1.2))⟩
/-- both sides find the same -/
theorem op_ent {X : pX} {ρ : sR} (hv : vok X ρ) (h1 : sc X ρ (109, .add (.op2 .iand (.op1 .l2i (.op2 .lushr (.arg 5121) (.int 8))) (.int 65535)) (.op2 .iand (.op1 .l2i (.op2 .lushr (.arg 5121) (.int 24))) (.int 255)), .arg 60160) = true) (h2 : sc X ρ (109, .add (.op1 .l2i (.op2 .land (.op2 .lshr (.arg 5121) (.int 8)) (.long 65535))) (.op1 .l2i (.op2 .land (.op2 .lshr (.arg 5121) (.int 24)) (.long 255))), .arg 60192) = true) : ρ.1 60160 = ρ.1 60192 ∧ ((ρ.1 60160).toInt = -1 ∨ (ρ.1 60160).toInt = -2 ∨ ∃ p : Nat, p < 156 ∧ (ρ.1 60160).toInt = p ∧ (sd X ρ (.op1 .l2i (.op2 .land (.op2 .lshr (.arg 5121) (.int 8)) (.long 65535)))).1 = Int32.ofInt (ztab100.getD p 0) ∧ (sd X ρ (.op1 .l2i (.op2 .land (.op2 .lshr (.arg 5121) (.int 24)) (.long 255)))).1 = Int32.ofInt (ztab102.getD p 0) ∧ (sd X ρ (.op2 .land (.op2 .lushr (.arg 5121) (.int 8)) (.long 16777215))).2.toInt = bkw.getD p 0) := by
  have e1 : (sd X ρ (.op2 .iand (.op1 .l2i (.op2 .lushr (.arg 5121) (.int 8))) (.int 65535))).1 = (sd X ρ (.op1 .l2i (.op2 .land (.op2 .lshr (.arg 5121) (.int 8)) (.long 65535)))).1 := Value.int.inj ((sv_int rfl).symm.trans ((by_v hv rq_ix).trans (sv_int rfl)))
  have e2 : (sd X ρ (.op2 .iand (.op1 .l2i (.op2 .lushr (.arg 5121) (.int 24))) (.int 255))).1 = (sd X ρ (.op1 .l2i (.op2 .land (.op2 .lshr (.arg 5121) (.int 24)) (.long 255)))).1 := Value.int.inj ((sv_int rfl).symm.trans ((by_v hv rq_sb).trans (sv_int rfl)))
  have e3 : (sd X ρ (.op2 .land (.op2 .lushr (.arg 5121) (.int 8)) (.long 16777215))).2 = (sd X ρ (.op1 .l2i (.op2 .land (.op2 .lshr (.arg 5121) (.int 8)) (.long 65535)))).1.toInt64 ||| ((sd X ρ (.op1 .l2i (.op2 .land (.op2 .lshr (.arg 5121) (.int 24)) (.long 255)))).1.toInt64 <<< ((16 : Int32).toInt64 &&& 63)) := Value.long.inj ((sv_long rfl).symm.trans ((by_v hv rq_wh).trans (sv_long rfl)))
  have g1 : (ρ.1 60160).toInt = aslot (sd X ρ (.op2 .iand (.op1 .l2i (.op2 .lushr (.arg 5121) (.int 8))) (.int 65535))).1.toInt (sd X ρ (.op2 .iand (.op1 .l2i (.op2 .lushr (.arg 5121) (.int 24))) (.int 255))).1.toInt := of_decide_eq_true h1
  have g2 : (ρ.1 60192).toInt = aslot (sd X ρ (.op1 .l2i (.op2 .land (.op2 .lshr (.arg 5121) (.int 8)) (.long 65535)))).1.toInt (sd X ρ (.op1 .l2i (.op2 .land (.op2 .lshr (.arg 5121) (.int 24)) (.long 255)))).1.toInt := of_decide_eq_true h2
  have r1 : 0 ≤ (sd X ρ (.op2 .iand (.op1 .l2i (.op2 .lushr (.arg 5121) (.int 8))) (.int 65535))).1.toInt ∧ (sd X ρ (.op2 .iand (.op1 .l2i (.op2 .lushr (.arg 5121) (.int 8))) (.int 65535))).1.toInt ≤ 65535 := rng16
  have r2 : 0 ≤ (sd X ρ (.op2 .iand (.op1 .l2i (.op2 .lushr (.arg 5121) (.int 24))) (.int 255))).1.toInt ∧ (sd X ρ (.op2 .iand (.op1 .l2i (.op2 .lushr (.arg 5121) (.int 24))) (.int 255))).1.toInt ≤ 255 := by_rng
  rw [e1, e2] at g1
  rw [e1] at r1
  rw [e2] at r2
  refine ⟨Int32.toInt_inj.mp (g1.trans g2.symm), ?_⟩
  rcases as_cases g1 with h | h | ⟨p, hp, hn, hb⟩
  · exact .inl h
  · exact .inr (.inl h)
  · have t := List.all_eq_true.mp er_b p (List.mem_range.mpr hp)
    simp only [Bool.and_eq_true, decide_eq_true_eq] at t
    obtain ⟨t1, t2, t3, t4, t5, -⟩ := t
    have a1 : (sd X ρ (.op1 .l2i (.op2 .land (.op2 .lshr (.arg 5121) (.int 8)) (.long 65535)))).1.toInt = ztab100.getD p 0 := by omega
    have a2 : (sd X ρ (.op1 .l2i (.op2 .land (.op2 .lshr (.arg 5121) (.int 24)) (.long 255)))).1.toInt = ztab102.getD p 0 := by omega
    have b1 : (sd X ρ (.op1 .l2i (.op2 .land (.op2 .lshr (.arg 5121) (.int 8)) (.long 65535)))).1 = Int32.ofInt (ztab100.getD p 0) := by rw [← a1, Int32.ofInt_toInt]
    have b2 : (sd X ρ (.op1 .l2i (.op2 .land (.op2 .lshr (.arg 5121) (.int 24)) (.long 255)))).1 = Int32.ofInt (ztab102.getD p 0) := by rw [← a2, Int32.ofInt_toInt]
    refine .inr (.inr ⟨p, hp, hn, b1, b2, ?_⟩)
    have t6 := of_decide_eq_true (List.all_eq_true.mp bk_all p (List.mem_range.mpr hp))
    rw [e3, b1, b2, ← t6, Int64.toInt_ofInt]
    have e : (Int64.size : Int) = 18446744073709551616 := rfl
    exact Int.bmod_eq_of_le (by show -((18446744073709551616 : Int) / 2) ≤ _; omega) (by show _ < ((18446744073709551616 : Int) + 1) / 2; omega)
/-- what the tables say of it -/
theorem op_tab {X : pX} {ρ : sR} (hK : kok X ρ kR) {p : Nat} (hp : p < 156) {s : Nat} (hs : s % 2 = 0) (h : (ρ.1 s).toInt = p) : (sd X ρ (.elem (.string "" 1) (.add (.mul (.arg s) (.int 5)) (.int 1)))).1 = pt_BOOK.getD (5 * p + 1) 0 ∧ ρ.2.2.1 100 (ρ.1 s).toNatClampNeg = Int32.ofInt (ztab100.getD p 0) ∧ ρ.2.2.1 102 (ρ.1 s).toNatClampNeg = Int32.ofInt (ztab102.getD p 0) ∧ ρ.2.2.1 104 (ρ.1 s).toNatClampNeg = Int32.ofInt (ztab104.getD p 0) ∧ ρ.2.2.1 106 (ρ.1 s).toNatClampNeg = Int32.ofInt (ztab106.getD p 0) := by
  have hn : (ρ.1 s).toNatClampNeg = p := by rw [s_nat, h]; rfl
  have hi : (ρ.1 s * 5 + 1).toNatClampNeg = 5 * p + 1 := by
    have z5 : (5 : Int32).toInt = 5 := rfl
    have e : (ρ.1 s * 5 + 1).toInt = (p : Int) * 5 + 1 := i_of (n := (p : Int) * 5 + 1) (by rw [i_ad (i_ml (i_s (ρ.1 s)) (show (5 : Int32) = Int32.ofInt 5 from rfl)) i_1, h]) (by omega) (by omega)
    rw [s_nat, e]
    omega
  obtain ⟨n, f, hX, hf⟩ := hK.2.1.1 1 pt_BOOK rfl
  refine ⟨?_, ?_, ?_, ?_, ?_⟩
  · show (match X 1 with
      | some a => (a.2 (ρ.1 s * 5 + 1).toNatClampNeg, (0 : Int64))
      | none => (0, 0)).1 = _
    rw [hX]
    show f (ρ.1 s * 5 + 1).toNatClampNeg = _
    rw [hi, hf]
  · rw [hn, (hK.2.2.1 100 ztab100 rfl p).1]
  · rw [hn, (hK.2.2.1 102 ztab102 rfl p).1]
  · rw [hn, (hK.2.2.1 104 ztab104 rfl p).1]
  · rw [hn, (hK.2.2.1 106 ztab106 rfl p).1]
theorem op_105 {X : pX} {ρ : sR} {p : Nat} (hp : p < 156) {s : Nat} (hs : s % 2 = 0) (h : (ρ.1 s).toInt = p) (hw : (sd X ρ (.op2 .land (.op2 .lushr (.arg 5121) (.int 8)) (.long 16777215))).2.toInt = bkw.getD p 0) : sc X ρ (105, .op2 .land (.op2 .lushr (.arg 5121) (.int 8)) (.long 16777215), .arg s) = true := by
  have e : sn X ρ (.arg s) = p := by
    show (if s % 2 = 1 then (ρ.2.1 s).toInt else (ρ.1 s).toInt) = _
    rw [if_neg (by omega)]
    exact h
  show (decide (0 ≤ sn X ρ (.arg s)) && decide (bkw[(sn X ρ (.arg s)).toNat]? = some (sd X ρ (.op2 .land (.op2 .lushr (.arg 5121) (.int 8)) (.long 16777215))).2.toInt)) = true
  rw [e, hw, Bool.and_eq_true, decide_eq_true_eq, decide_eq_true_eq]
  obtain ⟨hq, hg⟩ := bkw_get hp
  refine ⟨by omega, ?_⟩
  show bkw[p]? = _
  rw [List.getElem?_eq_getElem hq, hg]
theorem at_key {w n : Int} (h0 : 0 ≤ n) (hb : bkw[n.toNat]? = some w) (ha : awr.contains n.toNat = true) : atr [((fun _ => 0, fun _ => 0), (1 : Int)), ((fun _ => 0, fun _ => 0), (w : Int)), ((fun _ => 0, fun _ => 0), (n : Int)), ((fun _ => 0, fun _ => 0), (n : Int)), ((fun _ => 0, fun _ => 0), (0 : Int)), ((fun _ => 0, fun _ => 0), (0 : Int)), ((fun _ => 0, fun _ => 0), (0 : Int)), ((fun _ => 0, fun _ => 0), (0 : Int)), ((fun _ => 0, fun _ => 0), (0 : Int)), ((fun _ => 0, fun _ => 0), (0 : Int)), ((fun _ => 0, fun _ => 0), (0 : Int)), ((fun _ => 0, fun _ => 0), (0 : Int)), ((fun _ => 0, fun _ => 0), (0 : Int)), ((fun _ => 0, fun _ => 0), (0 : Int)), ((fun _ => 0, fun _ => 0), (0 : Int)), ((fun _ => 0, fun _ => 0), (0 : Int)), ((fun _ => 0, fun _ => 0), (0 : Int)), ((fun _ => 0, fun _ => 0), (0 : Int)), ((fun _ => 0, fun _ => 0), (0 : Int)), ((fun _ => 0, fun _ => 0), (0 : Int)), ((fun _ => 0, fun _ => 0), (0 : Int)), ((fun _ => 0, fun _ => 0), (0 : Int)), ((fun _ => 0, fun _ => 0), (0 : Int))] = true := by
  have e : ∀ k, an_ [((fun _ => 0, fun _ => 0), (1 : Int)), ((fun _ => 0, fun _ => 0), (w : Int)), ((fun _ => 0, fun _ => 0), (n : Int)), ((fun _ => 0, fun _ => 0), (n : Int)), ((fun _ => 0, fun _ => 0), (0 : Int)), ((fun _ => 0, fun _ => 0), (0 : Int)), ((fun _ => 0, fun _ => 0), (0 : Int)), ((fun _ => 0, fun _ => 0), (0 : Int)), ((fun _ => 0, fun _ => 0), (0 : Int)), ((fun _ => 0, fun _ => 0), (0 : Int)), ((fun _ => 0, fun _ => 0), (0 : Int)), ((fun _ => 0, fun _ => 0), (0 : Int)), ((fun _ => 0, fun _ => 0), (0 : Int)), ((fun _ => 0, fun _ => 0), (0 : Int)), ((fun _ => 0, fun _ => 0), (0 : Int)), ((fun _ => 0, fun _ => 0), (0 : Int)), ((fun _ => 0, fun _ => 0), (0 : Int)), ((fun _ => 0, fun _ => 0), (0 : Int)), ((fun _ => 0, fun _ => 0), (0 : Int)), ((fun _ => 0, fun _ => 0), (0 : Int)), ((fun _ => 0, fun _ => 0), (0 : Int)), ((fun _ => 0, fun _ => 0), (0 : Int)), ((fun _ => 0, fun _ => 0), (0 : Int))] k = ([1, w, n, n, 0, 0, 0, 0, 0, 0, 0, 0, 0, 0, 0, 0, 0, 0, 0, 0, 0, 0, 0] : List Int).getD k 0 := fun k => rfl
  unfold atr
  simp only [e, List.getD_cons_zero, List.getD_cons_succ]
  rw [if_neg (by decide), if_pos trivial, decide_eq_true h0, decide_eq_true hb, ha]
  rfl
theorem op_121 {X : pX} {ρ : sR} {p : Nat} (hp : p < 156) (h : (ρ.1 60192).toInt = p) (hw : (sd X ρ (.op2 .land (.op2 .lushr (.arg 5121) (.int 8)) (.long 16777215))).2.toInt = bkw.getD p 0) (hg : ¬ er_w.getD p 0 = 0) : sc X ρ (121, .add (.int 1) (.add (.op2 .land (.op2 .lushr (.arg 5121) (.int 8)) (.long 16777215)) (.add (.arg 60192) (.add (.arg 60192) (.add (.int 0) (.add (.int 0) (.add (.int 0) (.add (.int 0) (.add (.int 0) (.add (.int 0) (.add (.int 0) (.add (.int 0) (.add (.int 0) (.add (.int 0) (.add (.int 0) (.add (.int 0) (.add (.int 0) (.add (.int 0) (.add (.int 0) (.add (.int 0) (.add (.int 0) (.add (.int 0) (.int 0)))))))))))))))))))))), .int 0) = true := by
  have t := List.all_eq_true.mp er_b p (List.mem_range.mpr hp)
  simp only [Bool.and_eq_true, Bool.or_eq_true, decide_eq_true_eq] at t
  have ha : awr.contains p = true := by
    rcases t.2.2.2.2.2 with q | q
    · exact absurd q hg
    · exact q
  obtain ⟨hq, hb⟩ := bkw_get hp
  have hx : bkw[p]? = some (bkw.getD p 0) := by rw [List.getElem?_eq_getElem hq, hb]
  have e5 : (0 : Int32).toInt = 0 := rfl
  show atr (aits X ρ (.add (.int 1) (.add (.op2 .land (.op2 .lushr (.arg 5121) (.int 8)) (.long 16777215)) (.add (.arg 60192) (.add (.arg 60192) (.add (.int 0) (.add (.int 0) (.add (.int 0) (.add (.int 0) (.add (.int 0) (.add (.int 0) (.add (.int 0) (.add (.int 0) (.add (.int 0) (.add (.int 0) (.add (.int 0) (.add (.int 0) (.add (.int 0) (.add (.int 0) (.add (.int 0) (.add (.int 0) (.add (.int 0) (.add (.int 0) (.int 0)))))))))))))))))))))))) = true
  have el : aits X ρ (.add (.int 1) (.add (.op2 .land (.op2 .lushr (.arg 5121) (.int 8)) (.long 16777215)) (.add (.arg 60192) (.add (.arg 60192) (.add (.int 0) (.add (.int 0) (.add (.int 0) (.add (.int 0) (.add (.int 0) (.add (.int 0) (.add (.int 0) (.add (.int 0) (.add (.int 0) (.add (.int 0) (.add (.int 0) (.add (.int 0) (.add (.int 0) (.add (.int 0) (.add (.int 0) (.add (.int 0) (.add (.int 0) (.add (.int 0) (.int 0))))))))))))))))))))))) = [((fun _ => 0, fun _ => 0), (1 : Int)), ((fun _ => 0, fun _ => 0), (sd X ρ (.op2 .land (.op2 .lushr (.arg 5121) (.int 8)) (.long 16777215))).2.toInt), ((fun _ => 0, fun _ => 0), (ρ.1 60192).toInt), ((fun _ => 0, fun _ => 0), (ρ.1 60192).toInt), ((fun _ => 0, fun _ => 0), (0 : Int)), ((fun _ => 0, fun _ => 0), (0 : Int)), ((fun _ => 0, fun _ => 0), (0 : Int)), ((fun _ => 0, fun _ => 0), (0 : Int)), ((fun _ => 0, fun _ => 0), (0 : Int)), ((fun _ => 0, fun _ => 0), (0 : Int)), ((fun _ => 0, fun _ => 0), (0 : Int)), ((fun _ => 0, fun _ => 0), (0 : Int)), ((fun _ => 0, fun _ => 0), (0 : Int)), ((fun _ => 0, fun _ => 0), (0 : Int)), ((fun _ => 0, fun _ => 0), (0 : Int)), ((fun _ => 0, fun _ => 0), (0 : Int)), ((fun _ => 0, fun _ => 0), (0 : Int)), ((fun _ => 0, fun _ => 0), (0 : Int)), ((fun _ => 0, fun _ => 0), (0 : Int)), ((fun _ => 0, fun _ => 0), (0 : Int)), ((fun _ => 0, fun _ => 0), (0 : Int)), ((fun _ => 0, fun _ => 0), (0 : Int)), ((fun _ => 0, fun _ => 0), (0 : Int))] := rfl
  rw [h, hw] at el
  rw [el]
  refine at_key ?_ ?_ ?_
  · omega
  · show bkw[p]? = _
    exact hx
  · exact ha
