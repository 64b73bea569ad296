/-! ===== where an entry stands: slotOf, the class alone ===== -/
noncomputable def c_sloc : sC := ((214, 284, 2), ([.arg 60000, .arg 60032], [.int 0]), ([], []), [((2, .arg 60000, .int 0), false), ((2, .int 65535, .arg 60000), false)], ([60064, 60096, 60128, 60160], []), (some (.arg 60160), some (.int 0)), [((109, .add (.arg 60000) (.arg 60032), .arg 60160), true)], ([], []))
theorem c_sloc_f : cfine zWP 65536 c_sloc = true := by decide +kernel
noncomputable def q_sl : sCut := ((fr 0 214 21 [(0, .arg 60000), (1, .arg 60032), (2, .add (.mul (.arg 60000) (.int 256)) (.op2 .iand (.arg 60032) (.int 255))), (3, .arg 60064), (4, .arg 60096), (5, .arg 60128)] [], [fBot], 1), (fr 0 284 0 [(0, .int 0)] [], [fBot], 1), [], [])
noncomputable def q_slS : sCut := ((fr 0 214 21 [(0, .arg 60000), (1, .arg 60032), (2, .add (.mul (.arg 60000) (.int 256)) (.op2 .iand (.arg 60032) (.int 255))), (3, .arg 60064), (4, .arg 60096), (5, .arg 60128)] [], [fBot], 1), (fr 0 284 0 [(0, .int 0)] [], [fBot], 1), [((0, .arg 60064, .int 0), true), ((0, .arg 60096, .int 155), true), ((0, .arg 60128, .int 0), true), ((2, .arg 60000, .int 0), false), ((2, .int 65535, .arg 60000), false)], [])
noncomputable def q_slP : sCut := ((fr 0 214 21 [(0, .arg 60000), (1, .arg 60032), (2, .add (.mul (.arg 60000) (.int 256)) (.op2 .iand (.arg 60032) (.int 255))), (3, .arg 60064), (4, .arg 60096), (5, .arg 60128)] [], [fBot], 1), (fr 0 284 0 [(0, .int 0)] [], [fBot], 1), [((2, .arg 60128, .int 16), true), ((2, .arg 60064, .arg 60096), true), ((2, .arg 60064, .int 0), false), ((2, .int 155, .arg 60064), false), ((2, .arg 60096, .int 0), false), ((2, .int 155, .arg 60096), false), ((2, .add (.mul (.arg 60000) (.int 256)) (.op2 .iand (.arg 60032) (.int 255)), .elem (.string "" 1) (.mul (.div (.add (.add (.arg 60064) (.arg 60096)) (.int 1)) (.int 2)) (.int 5))), false)], [])
noncomputable def q_slN : sCut := ((fr 0 214 21 [(0, .arg 60000), (1, .arg 60032), (2, .add (.mul (.arg 60000) (.int 256)) (.op2 .iand (.arg 60032) (.int 255))), (3, .arg 60064), (4, .arg 60096), (5, .arg 60128)] [], [fBot], 1), (fr 0 284 0 [(0, .int 0)] [], [fBot], 1), [((2, .arg 60128, .int 16), true), ((2, .arg 60064, .arg 60096), true), ((2, .arg 60064, .int 0), false), ((2, .int 155, .arg 60064), false), ((2, .arg 60096, .int 0), false), ((2, .int 155, .arg 60096), false), ((2, .add (.mul (.arg 60000) (.int 256)) (.op2 .iand (.arg 60032) (.int 255)), .elem (.string "" 1) (.mul (.div (.add (.add (.arg 60064) (.arg 60096)) (.int 1)) (.int 2)) (.int 5))), true)], [])
noncomputable def q_sl1 : sCut := ((fr 0 214 21 [(0, .arg 60000), (1, .arg 60032), (2, .add (.mul (.arg 60000) (.int 256)) (.op2 .iand (.arg 60032) (.int 255))), (3, .arg 60064), (4, .arg 60096), (5, .arg 60128)] [], [fBot], 1), (fr 0 284 0 [(0, .int 0)] [], [fBot], 1), [((2, .arg 60128, .int 16), true), ((2, .arg 60064, .arg 60096), false), ((2, .arg 60064, .int 0), false), ((2, .int 155, .arg 60064), false), ((2, .arg 60096, .int 0), false), ((2, .int 155, .arg 60096), false), ((0, .op2 .iushr (.elem (.string "" 1) (.mul (.arg 60064) (.int 5))) (.int 8), .arg 60000), false), ((109, .add (.arg 60000) (.arg 60032), .int (-1)), true)], [])
noncomputable def q_sl2 : sCut := ((fr 0 214 21 [(0, .arg 60000), (1, .arg 60032), (2, .add (.mul (.arg 60000) (.int 256)) (.op2 .iand (.arg 60032) (.int 255))), (3, .arg 60064), (4, .arg 60096), (5, .arg 60128)] [], [fBot], 1), (fr 0 284 0 [(0, .int 0)] [], [fBot], 1), [((2, .arg 60128, .int 16), true), ((2, .arg 60064, .arg 60096), false), ((2, .arg 60064, .int 0), false), ((2, .int 155, .arg 60064), false), ((2, .arg 60096, .int 0), false), ((2, .int 155, .arg 60096), false), ((0, .op2 .iushr (.elem (.string "" 1) (.mul (.arg 60064) (.int 5))) (.int 8), .arg 60000), true), ((0, .elem (.string "" 1) (.mul (.arg 60064) (.int 5)), .add (.mul (.arg 60000) (.int 256)) (.op2 .iand (.arg 60032) (.int 255))), false), ((109, .add (.arg 60000) (.arg 60032), .int (-2)), true)], [])
noncomputable def q_sl3 : sCut := ((fr 0 214 21 [(0, .arg 60000), (1, .arg 60032), (2, .add (.mul (.arg 60000) (.int 256)) (.op2 .iand (.arg 60032) (.int 255))), (3, .arg 60064), (4, .arg 60096), (5, .arg 60128)] [], [fBot], 1), (fr 0 284 0 [(0, .int 0)] [], [fBot], 1), [((2, .arg 60128, .int 16), true), ((2, .arg 60064, .arg 60096), false), ((2, .arg 60064, .int 0), false), ((2, .int 155, .arg 60064), false), ((2, .arg 60096, .int 0), false), ((2, .int 155, .arg 60096), false), ((0, .op2 .iushr (.elem (.string "" 1) (.mul (.arg 60064) (.int 5))) (.int 8), .arg 60000), true), ((0, .elem (.string "" 1) (.mul (.arg 60064) (.int 5)), .add (.mul (.arg 60000) (.int 256)) (.op2 .iand (.arg 60032) (.int 255))), true), ((0, .arg 60032, .op2 .iand (.arg 60032) (.int 255)), false), ((109, .add (.arg 60000) (.arg 60032), .int (-2)), true)], [])
noncomputable def q_sl4 : sCut := ((fr 0 214 21 [(0, .arg 60000), (1, .arg 60032), (2, .add (.mul (.arg 60000) (.int 256)) (.op2 .iand (.arg 60032) (.int 255))), (3, .arg 60064), (4, .arg 60096), (5, .arg 60128)] [], [fBot], 1), (fr 0 284 0 [(0, .int 0)] [], [fBot], 1), [((2, .arg 60128, .int 16), true), ((2, .arg 60064, .arg 60096), false), ((2, .arg 60064, .int 0), false), ((2, .int 155, .arg 60064), false), ((2, .arg 60096, .int 0), false), ((2, .int 155, .arg 60096), false), ((0, .op2 .iushr (.elem (.string "" 1) (.mul (.arg 60064) (.int 5))) (.int 8), .arg 60000), true), ((0, .elem (.string "" 1) (.mul (.arg 60064) (.int 5)), .add (.mul (.arg 60000) (.int 256)) (.op2 .iand (.arg 60032) (.int 255))), true), ((0, .arg 60032, .op2 .iand (.arg 60032) (.int 255)), true), ((109, .add (.arg 60000) (.arg 60032), .arg 60064), true)], [])
noncomputable def w_slP : List (sCut × List (Nat × sT)) := [(q_sl, [(60064, .div (.add (.add (.arg 60064) (.arg 60096)) (.int 1)) (.int 2)), (60096, .arg 60096), (60128, .add (.arg 60128) (.int 1))])]
noncomputable def w_slN : List (sCut × List (Nat × sT)) := [(q_sl, [(60064, .arg 60064), (60096, .sub (.div (.add (.add (.arg 60064) (.arg 60096)) (.int 1)) (.int 2)) (.int 1)), (60128, .add (.arg 60128) (.int 1))])]
noncomputable def w_sl0 : List (sCut × List (Nat × sT)) := []
theorem k_slP : cbody kR [] (cpl1 zWP c_sloc [q_sl]) (cpl2 zWP c_sloc [q_sl]) (cleafS kR zWP c_sloc w_slP) 300 true false q_slP.2.2.1 q_slP.2.2.2 (cst zWP c_sloc.2.2.1.1 q_slP.1) (cst zWP c_sloc.2.2.1.2 q_slP.2.1) = true := by decide +kernel
theorem k_slN : cbody kR [] (cpl1 zWP c_sloc [q_sl]) (cpl2 zWP c_sloc [q_sl]) (cleafS kR zWP c_sloc w_slN) 300 true false q_slN.2.2.1 q_slN.2.2.2 (cst zWP c_sloc.2.2.1.1 q_slN.1) (cst zWP c_sloc.2.2.1.2 q_slN.2.1) = true := by decide +kernel
theorem k_sl1 : cbody kR [] (cpl1 zWP c_sloc []) (cpl2 zWP c_sloc []) (cleafS kR zWP c_sloc w_sl0) 300 true true q_sl1.2.2.1 q_sl1.2.2.2 (cst zWP c_sloc.2.2.1.1 q_sl1.1) (cst zWP c_sloc.2.2.1.2 q_sl1.2.1) = true := by decide +kernel
theorem k_sl2 : cbody kR [] (cpl1 zWP c_sloc []) (cpl2 zWP c_sloc []) (cleafS kR zWP c_sloc w_sl0) 300 true true q_sl2.2.2.1 q_sl2.2.2.2 (cst zWP c_sloc.2.2.1.1 q_sl2.1) (cst zWP c_sloc.2.2.1.2 q_sl2.2.1) = true := by decide +kernel
theorem k_sl3 : cbody kR [] (cpl1 zWP c_sloc []) (cpl2 zWP c_sloc []) (cleafS kR zWP c_sloc w_sl0) 300 true true q_sl3.2.2.1 q_sl3.2.2.2 (cst zWP c_sloc.2.2.1.1 q_sl3.1) (cst zWP c_sloc.2.2.1.2 q_sl3.2.1) = true := by decide +kernel
theorem k_sl4 : cbody kR [] (cpl1 zWP c_sloc []) (cpl2 zWP c_sloc []) (cleafS kR zWP c_sloc w_sl0) 300 true true q_sl4.2.2.1 q_sl4.2.2.2 (cst zWP c_sloc.2.2.1.1 q_sl4.1) (cst zWP c_sloc.2.2.1.2 q_sl4.2.1) = true := by decide +kernel
theorem e_sloc : frun kR [] (cpl1 zWP c_sloc [q_slS]) (cpl2 zWP c_sloc [q_slS]) (cleaf kR zWP c_sloc [q_slS]) 100 65536 (isatP (c_sloc.2.2.2.1) c_sloc.2.2.2.2.2.2.2.1) c_sloc.2.2.2.2.2.2.2.1 (sin0 mt_all c_sloc.1.1 1 c_sloc.2.1.1 (foot zWP c_sloc.2.2.1.1)) (sin0 mt_all c_sloc.1.2.1 1 c_sloc.2.1.2 (foot zWP c_sloc.2.2.1.2)) = true := by decide +kernel
/-- the keys of the book: index and sub -/
noncomputable def bkk (p : Nat) : Int := (pt_BOOK.getD (5 * p) 0).toInt
theorem bkk_w : (List.range 156).all (fun p => decide (bkk p = bkw.getD p 0 % 65536 * 256 + bkw.getD p 0 / 65536) && (decide (0 ≤ bkw.getD p 0) && decide (bkw.getD p 0 / 65536 ≤ 255))) = true := by decide +kernel
theorem bkk_s : (List.range 155).all (fun p => decide (bkk p < bkk (p + 1))) = true := by decide +kernel
theorem bkk_0 : (List.range 156).all (fun p => (List.range (p + 1)).any (fun q => decide (bkk q = bkk p / 256 * 256))) = true := by decide +kernel
theorem bkk_lt : ∀ n p q : Nat, q = p + n + 1 → q < 156 → bkk p < bkk q
  | 0, p, q, e, h => by
    subst e
    exact of_decide_eq_true (List.all_eq_true.mp bkk_s p (List.mem_range.mpr (by omega)))
  | n + 1, p, q, e, h => by
    have h1 := bkk_lt n p (p + n + 1) rfl (by omega)
    have h2 := of_decide_eq_true (List.all_eq_true.mp bkk_s (p + n + 1) (List.mem_range.mpr (by omega)))
    have e2 : q = p + n + 1 + 1 := by omega
    rw [e2]
    omega
theorem bkk_le {p q : Nat} (h : p ≤ q) (hq : q < 156) : bkk p ≤ bkk q := by
  rcases Nat.lt_or_eq_of_le h with h | h
  · exact Int.le_of_lt (bkk_lt (q - p - 1) p q (by omega) hq)
  · rw [h]; exact Int.le_refl _
/-- an entry that the key has -/
theorem bkk_is {q : Nat} (hq : q < 156) {ix sb : Int} : bkw.getD q 0 = ix + 65536 * sb → 0 ≤ ix → ix ≤ 65535 → bkk q = ix * 256 + sb ∧ 0 ≤ sb ∧ sb ≤ 255 := by
  intro h h0 h1
  have h2 := List.all_eq_true.mp bkk_w q (List.mem_range.mpr hq)
  simp only [Bool.and_eq_true, decide_eq_true_eq] at h2
  have e1 : bkw.getD q 0 % 65536 = ix := by omega
  have e2 : bkw.getD q 0 / 65536 = sb := by omega
  rw [e1, e2] at h2
  exact ⟨h2.1, by omega, h2.2.2⟩
theorem bkk_ix {q : Nat} (hq : q < 156) : bkw.getD q 0 % 65536 = bkk q / 256 := by
  have h2 := List.all_eq_true.mp bkk_w q (List.mem_range.mpr hq)
  simp only [Bool.and_eq_true, decide_eq_true_eq] at h2
  omega
theorem bkw_len : bkw.length = 156 := by decide +kernel
theorem mem_bkw {w : Int} (h : w ∈ bkw) : ∃ q, q < 156 ∧ bkw.getD q 0 = w := by
  obtain ⟨q, hq, e⟩ := List.getElem_of_mem h
  refine ⟨q, by rw [← bkw_len]; exact hq, ?_⟩
  rw [List.getD_eq_getElem?_getD, List.getElem?_eq_getElem hq, e]
  rfl
theorem bkw_get {q : Nat} (h : q < 156) : ∃ hq : q < bkw.length, bkw[q] = bkw.getD q 0 := by
  have hq : q < bkw.length := by rw [bkw_len]; exact h
  refine ⟨hq, ?_⟩
  rw [List.getD_eq_getElem?_getD, List.getElem?_eq_getElem hq]
  rfl
/-- no index: nothing; the nearest entry below tells -/
theorem sl_none {ix k : Int} {p : Nat} (hp : p < 156) (h0 : 0 ≤ ix) (h1 : ix ≤ 65535) (hk : ix * 256 ≤ k) (hk2 : k ≤ ix * 256 + 255) (ha : p = 0 ∨ bkk p ≤ k) (hb : p = 155 ∨ k < bkk (p + 1)) (hn : ¬ bkk p / 256 = ix) {sb : Int} : aslot ix sb = -1 := by
  unfold aslot
  rw [if_neg]
  intro h
  simp only [Bool.and_eq_true, decide_eq_true_eq, List.any_eq_true] at h
  obtain ⟨-, -, w, hw, e⟩ := h
  obtain ⟨q, hq, rfl⟩ := mem_bkw hw
  rw [bkk_ix hq] at e
  obtain ⟨q0, hq0, e0⟩ := List.any_eq_true.mp (List.all_eq_true.mp bkk_0 q (List.mem_range.mpr hq))
  have hq0 := List.mem_range.mp hq0
  have e0 := of_decide_eq_true e0
  rw [e] at e0
  have hle : q0 ≤ p := by
    rcases Nat.lt_or_ge p q0 with hlt | hge
    · have h3 := bkk_le (show p + 1 ≤ q0 by omega) (by omega)
      omega
    · exact hge
  have h4 := bkk_le hle hp
  rcases ha with ha | ha
  · subst ha
    have : q0 = 0 := by omega
    subst this
    omega
  · omega
theorem sl_guard {ix : Int} {p : Nat} (hp : p < 156) (h0 : 0 ≤ ix) (h1 : ix ≤ 65535) (hi : bkk p / 256 = ix) : (decide (0 ≤ ix) && (decide (ix ≤ 65535) && bkw.any (fun w => decide (w % 65536 = ix)))) = true := by
  simp only [Bool.and_eq_true, decide_eq_true_eq, List.any_eq_true]
  obtain ⟨hq, e⟩ := bkw_get hp
  exact ⟨h0, h1, bkw[p], List.getElem_mem hq, by rw [e, bkk_ix hp, hi]⟩
theorem sl_two {ix sb k : Int} {p : Nat} (hp : p < 156) (h0 : 0 ≤ ix) (h1 : ix ≤ 65535) (hi : bkk p / 256 = ix) (ha : p = 0 ∨ bkk p ≤ k) (hb : p = 155 ∨ k < bkk (p + 1)) (hn : 0 ≤ sb → sb ≤ 255 → k = ix * 256 + sb ∧ ¬ bkk p = k) : aslot ix sb = -2 := by
  unfold aslot
  rw [if_pos (sl_guard hp h0 h1 hi)]
  have : bkw.findIdx? (fun w => decide (w = ix + 65536 * sb)) = none := by
    rw [List.findIdx?_eq_none_iff]
    intro w hw
    refine decide_eq_false (fun e => ?_)
    obtain ⟨q, hq, rfl⟩ := mem_bkw hw
    obtain ⟨b1, b2, b3⟩ := bkk_is hq e h0 h1
    obtain ⟨n1, n2⟩ := hn b2 b3
    rcases Nat.lt_trichotomy q p with hlt | he | hgt
    · have := bkk_lt (p - q - 1) q p (by omega) hp
      rcases ha with ha | ha <;> omega
    · subst he; omega
    · have := bkk_le (show p + 1 ≤ q by omega) hq
      rcases hb with hb | hb <;> omega
  rw [this]
theorem sl_here {ix sb : Int} {p : Nat} (hp : p < 156) (h0 : 0 ≤ ix) (h1 : ix ≤ 65535) (h2 : 0 ≤ sb) (h3 : sb ≤ 255) (he : bkk p = ix * 256 + sb) : aslot ix sb = p := by
  unfold aslot
  rw [if_pos (sl_guard hp h0 h1 (by omega))]
  have : bkw.findIdx? (fun w => decide (w = ix + 65536 * sb)) = some p := by
    rw [List.findIdx?_eq_some_iff_getElem]
    obtain ⟨hq, e⟩ := bkw_get hp
    have h9 := List.all_eq_true.mp bkk_w p (List.mem_range.mpr hp)
    simp only [Bool.and_eq_true, decide_eq_true_eq] at h9
    refine ⟨hq, decide_eq_true (by rw [e]; omega), fun j hj => ?_⟩
    have hj2 : j < 156 := by omega
    obtain ⟨hq2, e2⟩ := bkw_get hj2
    intro hd
    have hd := of_decide_eq_true hd
    rw [e2] at hd
    obtain ⟨b1, -, -⟩ := bkk_is hj2 hd h0 h1
    have := bkk_lt (p - j - 1) j p (by omega) hp
    omega
  rw [this]
theorem sl_tab {X : pX} {ρ : sR} (hK : kok X ρ kR) {t : sT} {p : Nat} (h : (sd X ρ t).1.toInt = 5 * (p : Int)) : (sd X ρ (.elem (.string "" 1) t)).1.toInt = bkk p := by
  obtain ⟨n, f, h1, h2⟩ := hK.2.1.1 1 pt_BOOK rfl
  have e : (sd X ρ (.elem (.string "" 1) t)).1 = f (sd X ρ t).1.toNatClampNeg := by simp only [sd, h1]
  rw [e, h2, s_nat, h]
  show (pt_BOOK.getD (5 * (p : Int)).toNat 0).toInt = _
  rw [show (5 * (p : Int)).toNat = 5 * p by omega]
  rfl
theorem and_self255 {x : Int32} (h0 : 0 ≤ x.toInt) (h1 : x.toInt ≤ 255) : x &&& 255 = x := by
  apply Int32.toBitVec_inj.mp
  have e : x.toBitVec.toInt = (x.toBitVec.toNat : Int) := by
    have h0 : 0 ≤ x.toBitVec.toInt := h0
    rw [BitVec.toInt_eq_toNat_cond] at h0 ⊢
    split
    · rfl
    · next h =>
      rw [if_neg h] at h0
      have := x.toBitVec.isLt
      omega
  have h1 : x.toBitVec.toInt ≤ 255 := h1
  apply BitVec.eq_of_toNat_eq
  show (x.toBitVec &&& 255#32).toNat = _
  rw [BitVec.toNat_and, show (255#32).toNat = 2 ^ 8 - 1 from rfl, Nat.and_two_pow_sub_one_eq_mod]
  omega
/-- what holds at the loop -/
noncomputable def slI (ρ : sR) : Prop := (0 ≤ (ρ.1 60000).toInt ∧ (ρ.1 60000).toInt ≤ 65535) ∧ (0 ≤ (ρ.1 60064).toInt ∧ (ρ.1 60064).toInt ≤ (ρ.1 60096).toInt ∧ (ρ.1 60096).toInt ≤ 155) ∧ ((ρ.1 60064).toInt = 0 ∨ bkk (ρ.1 60064).toInt.toNat ≤ (ρ.1 60000).toInt * 256 + (ρ.1 60032 &&& 255).toInt) ∧ ((ρ.1 60096).toInt = 155 ∨ (ρ.1 60000).toInt * 256 + (ρ.1 60032 &&& 255).toInt < bkk ((ρ.1 60096).toInt.toNat + 1))
theorem and255 (x : Int32) : 0 ≤ (x &&& 255).toInt ∧ (x &&& 255).toInt ≤ 255 := by
  have e : (x &&& 255).toInt = (x.toBitVec &&& 255#32).toInt := rfl
  rw [e, BitVec.toInt_eq_toNat_of_lt (by rw [BitVec.toNat_and]; exact Nat.lt_of_le_of_lt (Nat.mul_le_mul_left 2 Nat.and_le_right) (by decide)), BitVec.toNat_and]
  have : x.toBitVec.toNat &&& (255#32).toNat ≤ 255 := Nat.and_le_right
  omega
theorem key_v {ρ : sR} (h0 : 0 ≤ (ρ.1 60000).toInt) (h1 : (ρ.1 60000).toInt ≤ 65535) : (ρ.1 60000 * 256 + (ρ.1 60032 &&& 255)).toInt = (ρ.1 60000).toInt * 256 + (ρ.1 60032 &&& 255).toInt := by
  have z : (256 : Int32).toInt = 256 := rfl
  have hm := and255 (ρ.1 60032)
  have e : (ρ.1 60000 * 256).toInt = (ρ.1 60000).toInt * 256 := by rw [s_mul (by rw [z]; omega) (by rw [z]; omega), z]
  rw [s_add (by rw [e]; omega) (by rw [e]; omega), e]
theorem mid_v {ρ : sR} (hI : slI ρ) : (((ρ.1 60064 + ρ.1 60096) + 1) / 2).toInt = ((ρ.1 60064).toInt + (ρ.1 60096).toInt + 1) / 2 := by
  obtain ⟨-, ⟨a, b, c⟩, -, -⟩ := hI
  have z : (1 : Int32).toInt = 1 := rfl
  have z2 : (2 : Int32).toInt = 2 := rfl
  have e : (ρ.1 60064 + ρ.1 60096).toInt = (ρ.1 60064).toInt + (ρ.1 60096).toInt := s_add (by omega) (by omega)
  have e2 : (ρ.1 60064 + ρ.1 60096 + 1).toInt = (ρ.1 60064).toInt + (ρ.1 60096).toInt + 1 := by rw [s_add (by rw [e, z]; omega) (by rw [e, z]; omega), e, z]
  rw [s_div (by rw [e2]; omega) (by rw [z2]; omega), e2, z2]
theorem sl_lb {X : pX} {ρ : sR} (hI : slI ρ) {F : sFs} (hF : fok X ρ F) : fok X ρ ([((2, .arg 60064, .int 0), false), ((2, .int 155, .arg 60064), false), ((2, .arg 60096, .int 0), false), ((2, .int 155, .arg 60096), false)] ++ F) := by
  obtain ⟨-, ⟨a, b, c⟩, -, -⟩ := hI
  have z : (0 : Int32).toInt = 0 := rfl
  have z2 : (155 : Int32).toInt = 155 := rfl
  refine fkc (decide_eq_false (show ¬ ρ.1 60064 < 0 from fun q => by have := Int32.lt_iff_toInt_lt.mp q; omega)) (fkc (decide_eq_false (show ¬ (155 : Int32) < ρ.1 60064 from fun q => by have := Int32.lt_iff_toInt_lt.mp q; omega)) (fkc (decide_eq_false (show ¬ ρ.1 60096 < 0 from fun q => by have := Int32.lt_iff_toInt_lt.mp q; omega)) (fkc (decide_eq_false (show ¬ (155 : Int32) < ρ.1 60096 from fun q => by have := Int32.lt_iff_toInt_lt.mp q; omega)) hF)))
theorem sl_n {X : pX} {ρ : sR} {n : Int32} {t : sT} (ht : sk t = 0) (hn : (sd X ρ t).1 = n) (h : n.toInt = aslot (ρ.1 60000).toInt (ρ.1 60032).toInt) : sc X ρ (109, .add (.arg 60000) (.arg 60032), t) = true := by
  show decide (sn X ρ t = aslot (ρ.1 60000).toInt (ρ.1 60032).toInt) = true
  rw [sn_i ht, hn]
  exact decide_eq_true h
theorem sl_end {X : pX} {ρ0 ρ : sR} (hv : vok X ρ0) (k1 : kok X ρ kR) (kv : vok X ρ) (k4 : agrM 65536 c_sloc.2.2.2.2.1.1 c_sloc.2.2.2.2.1.2 ρ ρ0) (hI : slI ρ) (hl : (ρ.1 60064).toInt = (ρ.1 60096).toInt) (hi : (ρ.1 60128).toInt ≤ 8) : AT X zWP c_sloc 1 ρ0 ρ q_sl := by
  have hI' := hI
  obtain ⟨⟨x0, x1⟩, ⟨a, b, c⟩, h3, h4⟩ := hI
  have z16 : (16 : Int32).toInt = 16 := rfl
  have kn : fok X ρ [] := ⟨kv, fun f hf => by cases hf⟩
  have f1 : sc X ρ (2, .arg 60128, .int 16) = true := decide_eq_true (show ρ.1 60128 < 16 from Int32.lt_iff_toInt_lt.mpr (by rw [z16]; omega))
  have f2 : sc X ρ (2, .arg 60064, .arg 60096) = false := decide_eq_false (show ¬ ρ.1 60064 < ρ.1 60096 from fun q => by have := Int32.lt_iff_toInt_lt.mp q; omega)
  have hp : (ρ.1 60064).toInt.toNat < 156 := by omega
  have z5 : (5 : Int32).toInt = 5 := rfl
  have e5 : (ρ.1 60064 * 5).toInt = 5 * (((ρ.1 60064).toInt.toNat : Nat) : Int) := by
    rw [s_mul (by rw [z5]; omega) (by rw [z5]; omega), z5]
    omega
  have ef : (sd X ρ (.elem (.string "" 1) (.mul (.arg 60064) (.int 5)))).1.toInt = bkk (ρ.1 60064).toInt.toNat := sl_tab k1 e5
  have hm := and255 (ρ.1 60032)
  have hkey := key_v (ρ := ρ) x0 x1
  have ha : (ρ.1 60064).toInt.toNat = 0 ∨ bkk (ρ.1 60064).toInt.toNat ≤ (ρ.1 60000).toInt * 256 + (ρ.1 60032 &&& 255).toInt := by
    rcases h3 with h3 | h3
    · exact Or.inl (by omega)
    · exact Or.inr h3
  have hb : (ρ.1 60064).toInt.toNat = 155 ∨ (ρ.1 60000).toInt * 256 + (ρ.1 60032 &&& 255).toInt < bkk ((ρ.1 60064).toInt.toNat + 1) := by
    rw [← hl] at h4
    rcases h4 with h4 | h4
    · exact Or.inl (by omega)
    · exact Or.inr h4
  have hnn : 0 ≤ bkk (ρ.1 60064).toInt.toNat := by
    have h2 := List.all_eq_true.mp bkk_w _ (List.mem_range.mpr hp)
    simp only [Bool.and_eq_true, decide_eq_true_eq] at h2
    omega
  have ex : (sd X ρ (.op2 .iushr (.elem (.string "" 1) (.mul (.arg 60064) (.int 5))) (.int 8))).1.toInt = bkk (ρ.1 60064).toInt.toNat / 256 := by
    show ((sd X ρ (.elem (.string "" 1) (.mul (.arg 60064) (.int 5)))).1.toUInt32 >>> ((8 : Int32).toUInt32 &&& Int32.toUInt32 31)).toInt32.toInt = _
    have := ushr_nn (x := (sd X ρ (.elem (.string "" 1) (.mul (.arg 60064) (.int 5)))).1) (n := 8) (by rw [ef]; exact hnn) (by decide)
    rw [show (8 : Int32) = Int32.ofNat 8 from rfl, this, ef]
    rfl
  by_cases g1 : (sd X ρ (.op2 .iushr (.elem (.string "" 1) (.mul (.arg 60064) (.int 5))) (.int 8))).1 = ρ.1 60000
  · have gi : bkk (ρ.1 60064).toInt.toNat / 256 = (ρ.1 60000).toInt := by rw [← ex, g1]
    by_cases g2 : (sd X ρ (.elem (.string "" 1) (.mul (.arg 60064) (.int 5)))).1 = ρ.1 60000 * 256 + (ρ.1 60032 &&& 255)
    · have gk : bkk (ρ.1 60064).toInt.toNat = (ρ.1 60000).toInt * 256 + (ρ.1 60032 &&& 255).toInt := by rw [← hkey, ← g2, ef]
      by_cases g3 : ρ.1 60032 = ρ.1 60032 &&& 255
      · refine AT_of (q := q_sl4) rfl rfl (SEM_run kR_x kR_0 (Cs := []) (fun C hC => by cases hC) c_sloc_f (Q := w_sl0) hv 300 (b1 := true) (b2 := true) k_sl4 k1 (fkc f1 (fkc f2 (sl_lb hI' (fkc (decide_eq_true g1) (fkc (decide_eq_true g2) (fkc (decide_eq_true g3) (fkc (sl_n (n := ρ.1 60064) rfl rfl ?_) kn))))))) i0k k4 (fun p hp => by cases hp))
        rw [← g3] at hm gk
        rw [sl_here hp x0 x1 hm.1 hm.2 gk]
        omega
      · refine AT_of (q := q_sl3) rfl rfl (SEM_run kR_x kR_0 (Cs := []) (fun C hC => by cases hC) c_sloc_f (Q := w_sl0) hv 300 (b1 := true) (b2 := true) k_sl3 k1 (fkc f1 (fkc f2 (sl_lb hI' (fkc (decide_eq_true g1) (fkc (decide_eq_true g2) (fkc (decide_eq_false g3) (fkc (sl_n (n := -2) rfl rfl ?_) kn))))))) i0k k4 (fun p hp => by cases hp))
        rw [sl_two hp x0 x1 gi ha hb (fun s0 s1 => absurd (and_self255 s0 s1).symm g3)]
        rfl
    · refine AT_of (q := q_sl2) rfl rfl (SEM_run kR_x kR_0 (Cs := []) (fun C hC => by cases hC) c_sloc_f (Q := w_sl0) hv 300 (b1 := true) (b2 := true) k_sl2 k1 (fkc f1 (fkc f2 (sl_lb hI' (fkc (decide_eq_true g1) (fkc (decide_eq_false g2) (fkc (sl_n (n := -2) rfl rfl ?_) kn)))))) i0k k4 (fun p hp => by cases hp))
      rw [sl_two hp x0 x1 gi ha hb (fun s0 s1 => ⟨by rw [and_self255 s0 s1], fun e => g2 (Int32.toInt_inj.mp (by rw [ef, hkey, e]))⟩)]
      rfl
  · refine AT_of (q := q_sl1) rfl rfl (SEM_run kR_x kR_0 (Cs := []) (fun C hC => by cases hC) c_sloc_f (Q := w_sl0) hv 300 (b1 := true) (b2 := true) k_sl1 k1 (fkc f1 (fkc f2 (sl_lb hI' (fkc (decide_eq_false g1) (fkc (sl_n (n := -1) rfl rfl ?_) kn))))) i0k k4 (fun p hp => by cases hp))
    rw [sl_none hp x0 x1 (by omega) (by omega) ha hb (fun e => g1 (Int32.toInt_inj.mp (by rw [ex, e])))]
    rfl
theorem sl_at {X : pX} {ρ0 : sR} (hv : vok X ρ0) : ∀ (n : Nat) (ρ : sR), kok X ρ kR → vok X ρ → agrM 65536 c_sloc.2.2.2.2.1.1 c_sloc.2.2.2.2.1.2 ρ ρ0 → slI ρ → 0 ≤ (ρ.1 60128).toInt → (ρ.1 60128).toInt + n = 8 → (ρ.1 60096).toInt - (ρ.1 60064).toInt + 1 ≤ 2 ^ n → AT X zWP c_sloc 1 ρ0 ρ q_sl := by
  intro n
  induction n with
  | zero =>
    intro ρ k1 kv k4 hI h0 hn hs
    have b := hI.2.1.2.1
    exact sl_end hv k1 kv k4 hI (by omega) (by omega)
  | succ n ih =>
    intro ρ k1 kv k4 hI h0 hn hs
    by_cases hl : (ρ.1 60064).toInt < (ρ.1 60096).toInt
    · have hI' := hI
      obtain ⟨⟨x0, x1⟩, ⟨a, b, c⟩, h3, h4⟩ := hI
      have z16 : (16 : Int32).toInt = 16 := rfl
      have z1 : (1 : Int32).toInt = 1 := rfl
      have z5 : (5 : Int32).toInt = 5 := rfl
      have kn : fok X ρ [] := ⟨kv, fun f hf => by cases hf⟩
      have f1 : sc X ρ (2, .arg 60128, .int 16) = true := decide_eq_true (show ρ.1 60128 < 16 from Int32.lt_iff_toInt_lt.mpr (by rw [z16]; omega))
      have f2 : sc X ρ (2, .arg 60064, .arg 60096) = true := decide_eq_true (Int32.lt_iff_toInt_lt.mpr hl)
      have hmid := mid_v hI'
      have hp : (((ρ.1 60064).toInt + (ρ.1 60096).toInt + 1) / 2).toNat < 156 := by omega
      have e5 : ((ρ.1 60064 + ρ.1 60096 + 1) / 2 * 5).toInt = 5 * (((((ρ.1 60064).toInt + (ρ.1 60096).toInt + 1) / 2).toNat : Nat) : Int) := by
        rw [s_mul (by rw [z5, hmid]; omega) (by rw [z5, hmid]; omega), z5, hmid]
        omega
      have ef : (sd X ρ (.elem (.string "" 1) (.mul (.div (.add (.add (.arg 60064) (.arg 60096)) (.int 1)) (.int 2)) (.int 5)))).1.toInt = bkk (((ρ.1 60064).toInt + (ρ.1 60096).toInt + 1) / 2).toNat := sl_tab k1 e5
      have hkey := key_v (ρ := ρ) x0 x1
      have hp2 : (2 : Int) ^ (n + 1) = 2 * 2 ^ n := by rw [Int.pow_succ]; omega
      have hi1 : ∀ y : Int32, y = ρ.1 60128 + 1 → y.toInt = (ρ.1 60128).toInt + 1 := fun y e => by rw [e, s_add (by rw [z1]; omega) (by rw [z1]; omega), z1]
      by_cases g : ρ.1 60000 * 256 + (ρ.1 60032 &&& 255) < (sd X ρ (.elem (.string "" 1) (.mul (.div (.add (.add (.arg 60064) (.arg 60096)) (.int 1)) (.int 2)) (.int 5)))).1
      · refine AT_of (q := q_slN) rfl rfl (SEM_run kR_x kR_0 (Cs := []) (fun C hC => by cases hC) c_sloc_f (Q := w_slN) hv 300 (b1 := true) (b2 := false) k_slN k1 (fkc f1 (fkc f2 (sl_lb hI' (fkc (decide_eq_true g) kn)))) i0k k4 (fun p hp ρ3 m1 m2 m3 m4 m5 => ?_))
        rw [List.mem_singleton.mp hp] at m2 m3 m5 ⊢
        have y1 : ρ3.1 60064 = ρ.1 60064 := tj1 (m5 _ List.mem_cons_self)
        have y2 : ρ3.1 60096 = (ρ.1 60064 + ρ.1 60096 + 1) / 2 - 1 := tj1 (m5 _ (List.mem_cons_of_mem _ List.mem_cons_self))
        have y3 : ρ3.1 60128 = ρ.1 60128 + 1 := tj1 (m5 _ (List.mem_cons_of_mem _ (List.mem_cons_of_mem _ List.mem_cons_self)))
        have y4 : ρ3.1 60000 = ρ.1 60000 := ((m4.1 60000 (by decide) (by decide)).1).trans ((k4.1 60000 (by decide) (by decide)).1).symm
        have y5 : ρ3.1 60032 = ρ.1 60032 := ((m4.1 60032 (by decide) (by decide)).1).trans ((k4.1 60032 (by decide) (by decide)).1).symm
        have e2 : (ρ3.1 60096).toInt = ((ρ.1 60064).toInt + (ρ.1 60096).toInt + 1) / 2 - 1 := by rw [y2, s_sub (by rw [hmid, z1]; omega) (by rw [hmid, z1]; omega), hmid, z1]
        have e3 := hi1 _ y3
        have g' := Int32.lt_iff_toInt_lt.mp g
        rw [hkey, ef] at g'
        refine ih ρ3 m1 m2.1 m4 ⟨⟨by rw [y4]; omega, by rw [y4]; omega⟩, ⟨by rw [y1]; omega, by rw [y1, e2]; omega, by rw [e2]; omega⟩, by rw [y1, y4, y5]; exact h3, Or.inr ?_⟩ (by omega) (by omega) (by rw [y1, e2]; omega)
        rw [y4, y5, e2, show (((ρ.1 60064).toInt + (ρ.1 60096).toInt + 1) / 2 - 1).toNat + 1 = (((ρ.1 60064).toInt + (ρ.1 60096).toInt + 1) / 2).toNat by omega]
        exact g'
      · refine AT_of (q := q_slP) rfl rfl (SEM_run kR_x kR_0 (Cs := []) (fun C hC => by cases hC) c_sloc_f (Q := w_slP) hv 300 (b1 := true) (b2 := false) k_slP k1 (fkc f1 (fkc f2 (sl_lb hI' (fkc (decide_eq_false g) kn)))) i0k k4 (fun p hp ρ3 m1 m2 m3 m4 m5 => ?_))
        rw [List.mem_singleton.mp hp] at m2 m3 m5 ⊢
        have y1 : ρ3.1 60064 = (ρ.1 60064 + ρ.1 60096 + 1) / 2 := tj1 (m5 _ List.mem_cons_self)
        have y2 : ρ3.1 60096 = ρ.1 60096 := tj1 (m5 _ (List.mem_cons_of_mem _ List.mem_cons_self))
        have y3 : ρ3.1 60128 = ρ.1 60128 + 1 := tj1 (m5 _ (List.mem_cons_of_mem _ (List.mem_cons_of_mem _ List.mem_cons_self)))
        have y4 : ρ3.1 60000 = ρ.1 60000 := ((m4.1 60000 (by decide) (by decide)).1).trans ((k4.1 60000 (by decide) (by decide)).1).symm
        have y5 : ρ3.1 60032 = ρ.1 60032 := ((m4.1 60032 (by decide) (by decide)).1).trans ((k4.1 60032 (by decide) (by decide)).1).symm
        have e2 : (ρ3.1 60064).toInt = ((ρ.1 60064).toInt + (ρ.1 60096).toInt + 1) / 2 := by rw [y1, hmid]
        have e3 := hi1 _ y3
        have g' : ¬ (ρ.1 60000 * 256 + (ρ.1 60032 &&& 255)).toInt < (sd X ρ (.elem (.string "" 1) (.mul (.div (.add (.add (.arg 60064) (.arg 60096)) (.int 1)) (.int 2)) (.int 5)))).1.toInt := fun q => g (Int32.lt_iff_toInt_lt.mpr q)
        rw [hkey, ef] at g'
        refine ih ρ3 m1 m2.1 m4 ⟨⟨by rw [y4]; omega, by rw [y4]; omega⟩, ⟨by rw [e2]; omega, by rw [y2, e2]; omega, by rw [y2]; omega⟩, Or.inr ?_, by rw [y2, y4, y5]; exact h4⟩ (by omega) (by omega) (by rw [y2, e2]; omega)
        rw [y4, y5, e2]
        omega
    · have b := hI.2.1.2.1
      exact sl_end hv k1 kv k4 hI (by omega) (by omega)
theorem t_slS {X : pX} {ρ0 : sR} (hv : vok X ρ0) : CUTOK X kR zWP c_sloc 1 ρ0 q_slS := CUTOK_AT (fun ρ1 k1 k2 k3 k4 => by
  have e1 : ρ1.1 60064 = 0 := of_decide_eq_true (k2.2 ((0, .arg 60064, .int 0), true) List.mem_cons_self)
  have e2 : ρ1.1 60096 = 155 := of_decide_eq_true (k2.2 ((0, .arg 60096, .int 155), true) (List.mem_cons_of_mem _ List.mem_cons_self))
  have e3 : ρ1.1 60128 = 0 := of_decide_eq_true (k2.2 ((0, .arg 60128, .int 0), true) (List.mem_cons_of_mem _ (List.mem_cons_of_mem _ List.mem_cons_self)))
  have e4 : ¬ ρ1.1 60000 < 0 := of_decide_eq_false (k2.2 ((2, .arg 60000, .int 0), false) (List.mem_of_getElem? (i := 3) rfl))
  have e5 : ¬ (65535 : Int32) < ρ1.1 60000 := of_decide_eq_false (k2.2 ((2, .int 65535, .arg 60000), false) (List.mem_of_getElem? (i := 4) rfl))
  have e4 : 0 ≤ (ρ1.1 60000).toInt := Int32.le_iff_toInt_le.mp (Int32.not_lt.mp e4)
  have e5 : (ρ1.1 60000).toInt ≤ 65535 := Int32.le_iff_toInt_le.mp (Int32.not_lt.mp e5)
  have z : (0 : Int32).toInt = 0 := rfl
  have z2 : (155 : Int32).toInt = 155 := rfl
  exact AT_of (q := q_sl) rfl rfl (sl_at hv 8 ρ1 k1 k2.1 k4 ⟨⟨e4, e5⟩, ⟨by rw [e1, z]; omega, by rw [e1, e2, z, z2]; omega, by rw [e2, z2]; omega⟩, Or.inl (by rw [e1]; rfl), Or.inl (by rw [e2]; rfl)⟩ (by rw [e3, z]; omega) (by rw [e3, z]; omega) (by rw [e1, e2, z, z2]; omega)))
theorem s_sloc {X : pX} : SREL X pF pdfl mt_all kR zWP c_sloc := SREL_QC kR_x kR_0 (Cs := []) (fun C hC => by cases hC) (d := 1) rfl c_sloc_f (Q := [q_slS]) (fun ρ0 hv => fun q hq => by
    simp only [List.mem_cons, List.not_mem_nil, or_false] at hq
    rw [hq]; exact t_slS hv) (QC_run 100 e_sloc)
