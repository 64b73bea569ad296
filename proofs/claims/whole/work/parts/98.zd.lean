set_option maxRecDepth 20000
/-! ===== a map is read ===== -/
theorem mp_1 {g : Nat → Int64} {m a n : Nat} {s w s' w' : Nat → Int32} {b b' : Int} (h : amapn g m a n s w b = true) (hs : ∀ j, j < n → s' (a + j) = s (a + j)) (hw : ∀ j, j < n → w' (a + j) = w (a + j)) (h1 : (s' (a + n)).toInt = mslot (mrow g m n)) (h2 : (w' (a + n)).toInt = mrow g m n % 256) (h3 : b' = b + mrow g m n % 256) : amapn g m a (n + 1) s' w' b' = true := by
  unfold amapn at h ⊢
  simp only [Bool.and_eq_true, List.all_eq_true, List.mem_range, decide_eq_true_eq] at h ⊢
  refine ⟨fun j hj => ?_, ?_⟩
  · by_cases e : j = n
    · rw [e]; exact ⟨h1, h2⟩
    · rw [hs j (by omega), hw j (by omega)]; exact h.1 j (by omega)
  · rw [List.range_succ, List.map_append, List.sum_append, ← h.2, h3]
    simp
theorem mp_0 {g : Nat → Int64} {m a : Nat} {s w : Nat → Int32} : amapn g m a 0 s w 0 = true := rfl
theorem mp_b {g : Nat → Int64} {m a n : Nat} {s w : Nat → Int32} {b : Int} (h : amapn g m a n s w b = true) : 0 ≤ b ∧ b ≤ 255 * n := by
  unfold amapn at h
  simp only [Bool.and_eq_true, decide_eq_true_eq] at h
  rw [h.2]
  clear h
  induction n with
  | zero => exact ⟨Int.le_refl _, Int.le_refl _⟩
  | succ n ih =>
    rw [List.range_succ, List.map_append, List.sum_append]
    simp only [List.map_cons, List.map_nil, List.sum_cons, List.sum_nil]
    omega
theorem mw_c {k i a n : Nat} {s s' : Nat → Int32} (hs : ∀ j, ¬ j = a + n → s' j = s j) (ha : a % 4 = 0) (hn : n < 4) (hk : ¬ 4 * k = a) (hi : i < 4) : s' (4 * k + i) = s (4 * k + i) := hs _ (by omega)
theorem mp_x {g : Nat → Int64} {m k a n : Nat} {s w s' w' : Nat → Int32} (hs : ∀ j, ¬ j = a + n → s' j = s j) (hw : ∀ j, ¬ j = a + n → w' j = w j) (ha : a % 4 = 0) (hn : n < 4) (hk : ¬ 4 * k = a) : amapm g m (4 * k) s' w' = amapm g m (4 * k) s w := by
  unfold amapm
  show ([0, 1, 2, 3] : List Nat).all _ = ([0, 1, 2, 3] : List Nat).all _
  simp only [List.all_cons, List.all_nil]
  rw [mw_c hs ha hn hk (i := 0) (by decide), mw_c hs ha hn hk (i := 1) (by decide), mw_c hs ha hn hk (i := 2) (by decide), mw_c hs ha hn hk (i := 3) (by decide), mw_c hw ha hn hk (i := 0) (by decide), mw_c hw ha hn hk (i := 1) (by decide), mw_c hw ha hn hk (i := 2) (by decide), mw_c hw ha hn hk (i := 3) (by decide)]
theorem pi_x {g : Nat → Int64} {k a n : Nat} {s w s' w' : Nat → Int32} {b : Bool} {bits wt hs_ aw ma : Int} (hs : ∀ j, ¬ j = a + n → s' j = s j) (hw : ∀ j, ¬ j = a + n → w' j = w j) (ha : a % 4 = 0) (hn : n < 4) (h : (decide ((4 * k : Int) = a) || apin g s w k b bits wt hs_ aw ma) = true) : (decide ((4 * k : Int) = a) || apin g s' w' k b bits wt hs_ aw ma) = true := by
  by_cases e : 4 * k = a
  · rw [decide_eq_true (show (4 * k : Int) = a by omega)]; rfl
  · rw [decide_eq_false (show ¬ (4 * k : Int) = a by omega), Bool.false_or] at h ⊢
    unfold apin at h ⊢
    rw [mp_x hs hw ha hn e]
    exact h
theorem po_x {g : Nat → Int64} {k a n : Nat} {s w s' w' : Nat → Int32} {b : Bool} {bits st hs_ sy ms : Int} (hs : ∀ j, ¬ j = a + n → s' j = s j) (hw : ∀ j, ¬ j = a + n → w' j = w j) (ha : a % 4 = 0) (hn : n < 4) (h : (decide ((4 * k : Int) = a) || apou g s w k b bits st hs_ sy ms) = true) : (decide ((4 * k : Int) = a) || apou g s' w' k b bits st hs_ sy ms) = true := by
  by_cases e : 4 * k = a
  · rw [decide_eq_true (show (4 * k : Int) = a by omega)]; rfl
  · rw [decide_eq_false (show ¬ (4 * k : Int) = a by omega), Bool.false_or] at h ⊢
    unfold apou at h ⊢
    rw [mp_x hs hw ha hn e]
    exact h
theorem ad_i {X : pX} {ρ ρ3 : sR} {a : Nat} {p t : sT} (h : ∀ j, bden X ρ3 (.arg a) j = aden X ρ (.arg a) [(p, t)] j) (ha : a % 2 = 0) (ht : sk t = 0) (j : Nat) : ρ3.2.2.1 a j = if (sd X ρ p).1.toNatClampNeg = j then (sd X ρ t).1 else ρ.2.2.1 a j := by
  have e := h j
  simp only [aden] at e
  have b1 : bden X ρ3 (.arg a) j = .int (ρ3.2.2.1 a j) := by unfold bden; simp [ha]
  have b2 : bden X ρ (.arg a) j = .int (ρ.2.2.1 a j) := by unfold bden; simp [ha]
  rw [b1, b2, sv_int ht] at e
  by_cases q : (sd X ρ p).1.toNatClampNeg = j
  · rw [if_pos q] at e ⊢
    exact Value.int.inj e
  · rw [if_neg q] at e ⊢
    exact Value.int.inj e
theorem us_n {v : Int64} {k : Int32} {n : Nat} (h : 0 ≤ v.toInt) (q : (s2 .lushr (0, v) (k, 0)).2.toBitVec = v.toBitVec >>> n) : (s2 .lushr (0, v) (k, 0)).2.toInt = v.toInt / (2 ^ n : Nat) := by
  obtain ⟨e, b⟩ := mv_n h
  have l := Nat.div_le_self v.toBitVec.toNat (2 ^ n)
  have := mv_i (x := (s2 .lushr (0, v) (k, 0)).2) (n := v.toBitVec.toNat / 2 ^ n) (by rw [q, BitVec.toNat_ushiftRight, Nat.shiftRight_eq_div_pow]) (by omega)
  rw [this, e]
  omega
theorem us_16 {x : Int64} (h0 : 0 ≤ x.toInt) (h1 : x.toInt ≤ 4294967295) : ((s2 .lushr (0, x) (16, 0)).2.toInt32).toInt = x.toInt / 65536 ∧ 0 ≤ x.toInt / 65536 ∧ x.toInt / 65536 ≤ 65535 := by
  have a := us_n (k := 16) (n := 16) h0 rfl
  have p16 : ((2 ^ 16 : Nat) : Int) = 65536 := rfl
  rw [p16] at a
  rw [mv_l (by omega) (by omega)]
  omega
theorem us_ia {y : Int64} : (y.toInt32 &&& 255).toInt = y.toInt % 256 := by
  have e : (y.toInt32 &&& 255).toBitVec.toNat = y.toBitVec.toNat % 256 := by
    rw [Int32.toBitVec_and, BitVec.toNat_and]
    have q : y.toInt32.toBitVec = y.toBitVec.signExtend 32 := rfl
    rw [q, BitVec.signExtend_eq_setWidth_of_le _ (by decide), BitVec.toNat_setWidth]
    have := Nat.and_two_pow_sub_one_eq_mod (y.toBitVec.toNat % 2 ^ 32) 8
    rw [show (255 : Int32).toBitVec.toNat = 2 ^ 8 - 1 from rfl, this]
    omega
  have l : y.toBitVec.toNat % 256 < 256 := Nat.mod_lt _ (by decide)
  have h : (y.toInt32 &&& 255).toInt = ((y.toInt32 &&& 255).toBitVec.toNat : Int) := by
    show (y.toInt32 &&& 255).toBitVec.toInt = _
    rw [BitVec.toInt_eq_toNat_of_lt (by omega)]
  rw [h, e]
  have b := y.toBitVec.isLt
  show _ = y.toBitVec.toInt % 256
  rw [BitVec.toInt_eq_toNat_cond]
  split <;> omega
theorem us_8 {x : Int64} (h0 : 0 ≤ x.toInt) : ((s2 .lushr (0, x) (8, 0)).2.toInt32 &&& 255).toInt = x.toInt / 256 % 256 := by
  rw [us_ia, us_n (k := 8) (n := 8) h0 rfl]
  rfl
theorem rd_s : ([2848, 5728, 5760, 5792, 5824, 5856, 5888, 5920, 5952, 2082, 2114, 2146, 2178, 6850, 6882, 6914, 6946, 2210, 2242, 2274, 2306, 7362, 7394, 7426, 7458, 2338, 2370, 2402, 2434, 7874, 7906, 7938, 7970, 6240, 6272, 6304, 6336, 21216, 21248, 21280, 21312, 1570, 1602, 6466, 6498, 60000, 60032] : List Nat).all (fun u => decide (u < 65536) && !(([60064, 60096, 60128, 60160, 60033, 60065] : List Nat).contains u)) = true := by decide +kernel
theorem rd_n {X : pX} {ρ : sR} : sc X ρ (119, .add (.arg 60033) (.add (.arg 60000) (.add (.int 0) (.elem (.arg 1761) (.int 0)))), .int 0) = true ↔ (ρ.2.1 60033).toInt = (ρ.2.2.2.1 1761 (ρ.1 60000).toInt.toNat).toInt := by
  show decide ((ρ.2.1 60033).toInt = (ρ.2.2.2.1 1761 ((ρ.1 60000).toInt + 5 * (0 : Int32).toInt + (0 : Int32).toInt).toNat).toInt) = true ↔ _
  rw [show (ρ.1 60000).toInt + 5 * (0 : Int32).toInt + (0 : Int32).toInt = (ρ.1 60000).toInt by rw [show (0 : Int32).toInt = 0 from rfl]; omega, decide_eq_true_eq]
theorem rd_t : (List.range 110).all (fun j => !((decide (50 ≤ j) && decide (j ≤ 69)) || (decide (90 ≤ j) && decide (j ≤ 109))) || (match evt[j]? with | some q => decide (0 ≤ q.1) && decide (q.2.1 ≤ 4294967295) | none => false)) = true := by decide +kernel
theorem rd_j {g : Nat → Int64} (h : evall g = true) {j : Nat} (hj : 50 ≤ j ∧ j ≤ 69 ∨ 90 ≤ j ∧ j ≤ 109) : 0 ≤ (g j).toInt ∧ (g j).toInt ≤ 4294967295 := by
  have t := List.all_eq_true.mp rd_t j (List.mem_range.mpr (by omega))
  rw [show (!((decide (50 ≤ j) && decide (j ≤ 69)) || (decide (90 ≤ j) && decide (j ≤ 109)))) = false by simp; omega, Bool.false_or] at t
  split at t
  · next q hq =>
    simp only [Bool.and_eq_true, decide_eq_true_eq] at t
    have := se_b h j (lo := q.1) (hi := q.2.1) (s := q.2.2) hq (by omega)
    omega
  · cases t
theorem rd_b {X : pX} {ρ : sR} (h : sc X ρ (101, .elem (.arg 1761) (.int 0), .int 0) = true) {m i : Nat} (hm : 50 ≤ m ∧ m ≤ 65 ∨ 90 ≤ m ∧ m ≤ 105) (hi : i < 4) : 0 ≤ (ρ.2.2.2.1 1761 (m + 1 + i)).toInt ∧ (ρ.2.2.2.1 1761 (m + 1 + i)).toInt ≤ 4294967295 := rd_j (g := ρ.2.2.2.1 1761) h (by omega)
theorem rd_m {X : pX} {ρ : sR} (h : sc X ρ (101, .elem (.arg 1761) (.int 0), .int 0) = true) {m i : Nat} (hm : 50 ≤ m ∧ m ≤ 65 ∨ 90 ≤ m ∧ m ≤ 105) (hi : i < 4) : 0 ≤ mrow (ρ.2.2.2.1 1761) m i ∧ mrow (ρ.2.2.2.1 1761) m i ≤ 4294967295 := by
  unfold mrow
  split
  · exact rd_b h hm hi
  · omega
theorem px_i {X : pX} {ρ : sR} {T : sT} : sc X ρ (141, .add (.elem (.arg 1761) (.int 0)) (.add (.arg 2848) (.add (.elem (.arg 24512) (.int 0)) (.add (.elem (.arg 2404) (.int 0)) (.add (.elem (.arg 24544) (.int 0)) (.add (.elem (.arg 2436) (.int 0)) (.add (.arg 5728) (.add (.arg 5760) (.add (.arg 5792) (.add (.arg 5824) (.add (.arg 5856) (.add (.arg 5888) (.add (.arg 5920) (.add (.arg 5952) (.add (.arg 2082) (.add (.arg 2114) (.add (.arg 2146) (.add (.arg 2178) (.add (.arg 6850) (.add (.arg 6882) (.add (.arg 6914) (.add (.arg 6946) (.add (.arg 2210) (.add (.arg 2242) (.add (.arg 2274) (.add (.arg 2306) (.add (.arg 7362) (.add (.arg 7394) (.add (.arg 7426) (.add (.arg 7458) (.add (.arg 2338) (.add (.arg 2370) (.add (.arg 2402) (.add (.arg 2434) (.add (.arg 7874) (.add (.arg 7906) (.add (.arg 7938) (.add (.arg 7970) (.add (.arg 6240) (.add (.arg 6272) (.add (.arg 6304) (.add (.arg 6336) (.add (.arg 21216) (.add (.arg 21248) (.add (.arg 21280) (.add (.arg 21312) (.add (.arg 1570) (.add (.arg 1602) (.add (.arg 6466) (.arg 6498))))))))))))))))))))))))))))))))))))))))))))))))), T) = true ↔ ((((decide ((4 * (0 : Nat) : Int) = sn X ρ T) || apin (ρ.2.2.2.1 1761) (ρ.2.2.1 24512) (ρ.2.2.1 2404) 0 (abit (ρ.1 2848).toInt (8 + 0)) (ρ.1 5728).toInt (ρ.1 2082).toInt (ρ.1 6850).toInt (ρ.1 2210).toInt (ρ.1 7362).toInt) = true ∧ (decide ((4 * (0 : Nat) : Int) = 100) || apou (ρ.2.2.2.1 1761) (ρ.2.2.1 24544) (ρ.2.2.1 2436) 0 (abit (ρ.1 2848).toInt (12 + 0)) (ρ.1 5856).toInt (ρ.1 2338).toInt (ρ.1 7874).toInt (ρ.1 6240).toInt (ρ.1 21216).toInt) = true) ∧ ((decide ((4 * (1 : Nat) : Int) = sn X ρ T) || apin (ρ.2.2.2.1 1761) (ρ.2.2.1 24512) (ρ.2.2.1 2404) 1 (abit (ρ.1 2848).toInt (8 + 1)) (ρ.1 5760).toInt (ρ.1 2114).toInt (ρ.1 6882).toInt (ρ.1 2242).toInt (ρ.1 7394).toInt) = true ∧ (decide ((4 * (1 : Nat) : Int) = 100) || apou (ρ.2.2.2.1 1761) (ρ.2.2.1 24544) (ρ.2.2.1 2436) 1 (abit (ρ.1 2848).toInt (12 + 1)) (ρ.1 5888).toInt (ρ.1 2370).toInt (ρ.1 7906).toInt (ρ.1 6272).toInt (ρ.1 21248).toInt) = true) ∧ ((decide ((4 * (2 : Nat) : Int) = sn X ρ T) || apin (ρ.2.2.2.1 1761) (ρ.2.2.1 24512) (ρ.2.2.1 2404) 2 (abit (ρ.1 2848).toInt (8 + 2)) (ρ.1 5792).toInt (ρ.1 2146).toInt (ρ.1 6914).toInt (ρ.1 2274).toInt (ρ.1 7426).toInt) = true ∧ (decide ((4 * (2 : Nat) : Int) = 100) || apou (ρ.2.2.2.1 1761) (ρ.2.2.1 24544) (ρ.2.2.1 2436) 2 (abit (ρ.1 2848).toInt (12 + 2)) (ρ.1 5920).toInt (ρ.1 2402).toInt (ρ.1 7938).toInt (ρ.1 6304).toInt (ρ.1 21280).toInt) = true) ∧ ((decide ((4 * (3 : Nat) : Int) = sn X ρ T) || apin (ρ.2.2.2.1 1761) (ρ.2.2.1 24512) (ρ.2.2.1 2404) 3 (abit (ρ.1 2848).toInt (8 + 3)) (ρ.1 5824).toInt (ρ.1 2178).toInt (ρ.1 6946).toInt (ρ.1 2306).toInt (ρ.1 7458).toInt) = true ∧ (decide ((4 * (3 : Nat) : Int) = 100) || apou (ρ.2.2.2.1 1761) (ρ.2.2.1 24544) (ρ.2.2.1 2436) 3 (abit (ρ.1 2848).toInt (12 + 3)) (ρ.1 5952).toInt (ρ.1 2434).toInt (ρ.1 7970).toInt (ρ.1 6336).toInt (ρ.1 21312).toInt) = true)) ∧ apaw (ρ.2.2.2.1 1761) 0 (abit (ρ.1 2848).toInt (2 + 0)) (ρ.1 1570).toInt (ρ.1 6466).toInt = true ∧ apaw (ρ.2.2.2.1 1761) 1 (abit (ρ.1 2848).toInt (2 + 1)) (ρ.1 1602).toInt (ρ.1 6498).toInt = true) ∧ sn X ρ T % 4 = 0 ∧ 0 ≤ sn X ρ T ∧ sn X ρ T ≤ 12 := by
  show (apalX (sn X ρ T) 100 (aits X ρ (.add (.elem (.arg 1761) (.int 0)) (.add (.arg 2848) (.add (.elem (.arg 24512) (.int 0)) (.add (.elem (.arg 2404) (.int 0)) (.add (.elem (.arg 24544) (.int 0)) (.add (.elem (.arg 2436) (.int 0)) (.add (.arg 5728) (.add (.arg 5760) (.add (.arg 5792) (.add (.arg 5824) (.add (.arg 5856) (.add (.arg 5888) (.add (.arg 5920) (.add (.arg 5952) (.add (.arg 2082) (.add (.arg 2114) (.add (.arg 2146) (.add (.arg 2178) (.add (.arg 6850) (.add (.arg 6882) (.add (.arg 6914) (.add (.arg 6946) (.add (.arg 2210) (.add (.arg 2242) (.add (.arg 2274) (.add (.arg 2306) (.add (.arg 7362) (.add (.arg 7394) (.add (.arg 7426) (.add (.arg 7458) (.add (.arg 2338) (.add (.arg 2370) (.add (.arg 2402) (.add (.arg 2434) (.add (.arg 7874) (.add (.arg 7906) (.add (.arg 7938) (.add (.arg 7970) (.add (.arg 6240) (.add (.arg 6272) (.add (.arg 6304) (.add (.arg 6336) (.add (.arg 21216) (.add (.arg 21248) (.add (.arg 21280) (.add (.arg 21312) (.add (.arg 1570) (.add (.arg 1602) (.add (.arg 6466) (.arg 6498))))))))))))))))))))))))))))))))))))))))))))))))))) && (decide (sn X ρ T % 4 = 0) && (decide (0 ≤ sn X ρ T) && decide (sn X ρ T ≤ 12)))) = true ↔ _
  unfold apalX
  show ((([0, 1, 2, 3] : List Nat).all _ && ([0, 1] : List Nat).all _) && _) = true ↔ _
  simp only [List.all_cons, List.all_nil, Bool.and_eq_true, Bool.and_true, decide_eq_true_eq]
  exact Iff.rfl
theorem pu_i {X : pX} {ρ ρ3 : sR} {T T3 : sT} {a n : Nat} (H : sc X ρ (141, .add (.elem (.arg 1761) (.int 0)) (.add (.arg 2848) (.add (.elem (.arg 24512) (.int 0)) (.add (.elem (.arg 2404) (.int 0)) (.add (.elem (.arg 24544) (.int 0)) (.add (.elem (.arg 2436) (.int 0)) (.add (.arg 5728) (.add (.arg 5760) (.add (.arg 5792) (.add (.arg 5824) (.add (.arg 5856) (.add (.arg 5888) (.add (.arg 5920) (.add (.arg 5952) (.add (.arg 2082) (.add (.arg 2114) (.add (.arg 2146) (.add (.arg 2178) (.add (.arg 6850) (.add (.arg 6882) (.add (.arg 6914) (.add (.arg 6946) (.add (.arg 2210) (.add (.arg 2242) (.add (.arg 2274) (.add (.arg 2306) (.add (.arg 7362) (.add (.arg 7394) (.add (.arg 7426) (.add (.arg 7458) (.add (.arg 2338) (.add (.arg 2370) (.add (.arg 2402) (.add (.arg 2434) (.add (.arg 7874) (.add (.arg 7906) (.add (.arg 7938) (.add (.arg 7970) (.add (.arg 6240) (.add (.arg 6272) (.add (.arg 6304) (.add (.arg 6336) (.add (.arg 21216) (.add (.arg 21248) (.add (.arg 21280) (.add (.arg 21312) (.add (.arg 1570) (.add (.arg 1602) (.add (.arg 6466) (.arg 6498))))))))))))))))))))))))))))))))))))))))))))))))), T) = true) (hT : sn X ρ3 T3 = sn X ρ T) (hA : sn X ρ T = a) (hn : n < 4) (e1 : ∀ u : Nat, u ∈ ([2848, 5728, 5760, 5792, 5824, 5856, 5888, 5920, 5952, 2082, 2114, 2146, 2178, 6850, 6882, 6914, 6946, 2210, 2242, 2274, 2306, 7362, 7394, 7426, 7458, 2338, 2370, 2402, 2434, 7874, 7906, 7938, 7970, 6240, 6272, 6304, 6336, 21216, 21248, 21280, 21312, 1570, 1602, 6466, 6498] : List Nat) → ρ3.1 u = ρ.1 u) (eV : ρ3.2.2.2.1 1761 = ρ.2.2.2.1 1761) (es : ρ3.2.2.1 24544 = ρ.2.2.1 24544) (ew : ρ3.2.2.1 2436 = ρ.2.2.1 2436) (hs : ∀ j, ¬ j = a + n → ρ3.2.2.1 24512 j = ρ.2.2.1 24512 j) (hw : ∀ j, ¬ j = a + n → ρ3.2.2.1 2404 j = ρ.2.2.1 2404 j) : sc X ρ3 (141, .add (.elem (.arg 1761) (.int 0)) (.add (.arg 2848) (.add (.elem (.arg 24512) (.int 0)) (.add (.elem (.arg 2404) (.int 0)) (.add (.elem (.arg 24544) (.int 0)) (.add (.elem (.arg 2436) (.int 0)) (.add (.arg 5728) (.add (.arg 5760) (.add (.arg 5792) (.add (.arg 5824) (.add (.arg 5856) (.add (.arg 5888) (.add (.arg 5920) (.add (.arg 5952) (.add (.arg 2082) (.add (.arg 2114) (.add (.arg 2146) (.add (.arg 2178) (.add (.arg 6850) (.add (.arg 6882) (.add (.arg 6914) (.add (.arg 6946) (.add (.arg 2210) (.add (.arg 2242) (.add (.arg 2274) (.add (.arg 2306) (.add (.arg 7362) (.add (.arg 7394) (.add (.arg 7426) (.add (.arg 7458) (.add (.arg 2338) (.add (.arg 2370) (.add (.arg 2402) (.add (.arg 2434) (.add (.arg 7874) (.add (.arg 7906) (.add (.arg 7938) (.add (.arg 7970) (.add (.arg 6240) (.add (.arg 6272) (.add (.arg 6304) (.add (.arg 6336) (.add (.arg 21216) (.add (.arg 21248) (.add (.arg 21280) (.add (.arg 21312) (.add (.arg 1570) (.add (.arg 1602) (.add (.arg 6466) (.arg 6498))))))))))))))))))))))))))))))))))))))))))))))))), T3) = true := by
  obtain ⟨⟨⟨⟨h0, i0⟩, ⟨h1, i1⟩, ⟨h2, i2⟩, h3, i3⟩, j0, j1⟩, n1, n2, n3⟩ := px_i.mp H
  have ha : a % 4 = 0 := by omega
  refine px_i.mpr ?_
  rw [hT, eV, es, ew, e1 2848 (by decide), e1 5728 (by decide), e1 5760 (by decide), e1 5792 (by decide), e1 5824 (by decide), e1 5856 (by decide), e1 5888 (by decide), e1 5920 (by decide), e1 5952 (by decide), e1 2082 (by decide), e1 2114 (by decide), e1 2146 (by decide), e1 2178 (by decide), e1 6850 (by decide), e1 6882 (by decide), e1 6914 (by decide), e1 6946 (by decide), e1 2210 (by decide), e1 2242 (by decide), e1 2274 (by decide), e1 2306 (by decide), e1 7362 (by decide), e1 7394 (by decide), e1 7426 (by decide), e1 7458 (by decide), e1 2338 (by decide), e1 2370 (by decide), e1 2402 (by decide), e1 2434 (by decide), e1 7874 (by decide), e1 7906 (by decide), e1 7938 (by decide), e1 7970 (by decide), e1 6240 (by decide), e1 6272 (by decide), e1 6304 (by decide), e1 6336 (by decide), e1 21216 (by decide), e1 21248 (by decide), e1 21280 (by decide), e1 21312 (by decide), e1 1570 (by decide), e1 1602 (by decide), e1 6466 (by decide), e1 6498 (by decide)]
  rw [hA] at h0 h1 h2 h3 n1 n2 n3 ⊢
  exact ⟨⟨⟨⟨pi_x hs hw ha hn h0, i0⟩, ⟨pi_x hs hw ha hn h1, i1⟩, ⟨pi_x hs hw ha hn h2, i2⟩, ⟨pi_x hs hw ha hn h3, i3⟩⟩, j0, j1⟩, n1, n2, n3⟩
theorem px_o {X : pX} {ρ : sR} {T : sT} : sc X ρ (142, .add (.elem (.arg 1761) (.int 0)) (.add (.arg 2848) (.add (.elem (.arg 24512) (.int 0)) (.add (.elem (.arg 2404) (.int 0)) (.add (.elem (.arg 24544) (.int 0)) (.add (.elem (.arg 2436) (.int 0)) (.add (.arg 5728) (.add (.arg 5760) (.add (.arg 5792) (.add (.arg 5824) (.add (.arg 5856) (.add (.arg 5888) (.add (.arg 5920) (.add (.arg 5952) (.add (.arg 2082) (.add (.arg 2114) (.add (.arg 2146) (.add (.arg 2178) (.add (.arg 6850) (.add (.arg 6882) (.add (.arg 6914) (.add (.arg 6946) (.add (.arg 2210) (.add (.arg 2242) (.add (.arg 2274) (.add (.arg 2306) (.add (.arg 7362) (.add (.arg 7394) (.add (.arg 7426) (.add (.arg 7458) (.add (.arg 2338) (.add (.arg 2370) (.add (.arg 2402) (.add (.arg 2434) (.add (.arg 7874) (.add (.arg 7906) (.add (.arg 7938) (.add (.arg 7970) (.add (.arg 6240) (.add (.arg 6272) (.add (.arg 6304) (.add (.arg 6336) (.add (.arg 21216) (.add (.arg 21248) (.add (.arg 21280) (.add (.arg 21312) (.add (.arg 1570) (.add (.arg 1602) (.add (.arg 6466) (.arg 6498))))))))))))))))))))))))))))))))))))))))))))))))), T) = true ↔ ((((decide ((4 * (0 : Nat) : Int) = 100) || apin (ρ.2.2.2.1 1761) (ρ.2.2.1 24512) (ρ.2.2.1 2404) 0 (abit (ρ.1 2848).toInt (8 + 0)) (ρ.1 5728).toInt (ρ.1 2082).toInt (ρ.1 6850).toInt (ρ.1 2210).toInt (ρ.1 7362).toInt) = true ∧ (decide ((4 * (0 : Nat) : Int) = sn X ρ T) || apou (ρ.2.2.2.1 1761) (ρ.2.2.1 24544) (ρ.2.2.1 2436) 0 (abit (ρ.1 2848).toInt (12 + 0)) (ρ.1 5856).toInt (ρ.1 2338).toInt (ρ.1 7874).toInt (ρ.1 6240).toInt (ρ.1 21216).toInt) = true) ∧ ((decide ((4 * (1 : Nat) : Int) = 100) || apin (ρ.2.2.2.1 1761) (ρ.2.2.1 24512) (ρ.2.2.1 2404) 1 (abit (ρ.1 2848).toInt (8 + 1)) (ρ.1 5760).toInt (ρ.1 2114).toInt (ρ.1 6882).toInt (ρ.1 2242).toInt (ρ.1 7394).toInt) = true ∧ (decide ((4 * (1 : Nat) : Int) = sn X ρ T) || apou (ρ.2.2.2.1 1761) (ρ.2.2.1 24544) (ρ.2.2.1 2436) 1 (abit (ρ.1 2848).toInt (12 + 1)) (ρ.1 5888).toInt (ρ.1 2370).toInt (ρ.1 7906).toInt (ρ.1 6272).toInt (ρ.1 21248).toInt) = true) ∧ ((decide ((4 * (2 : Nat) : Int) = 100) || apin (ρ.2.2.2.1 1761) (ρ.2.2.1 24512) (ρ.2.2.1 2404) 2 (abit (ρ.1 2848).toInt (8 + 2)) (ρ.1 5792).toInt (ρ.1 2146).toInt (ρ.1 6914).toInt (ρ.1 2274).toInt (ρ.1 7426).toInt) = true ∧ (decide ((4 * (2 : Nat) : Int) = sn X ρ T) || apou (ρ.2.2.2.1 1761) (ρ.2.2.1 24544) (ρ.2.2.1 2436) 2 (abit (ρ.1 2848).toInt (12 + 2)) (ρ.1 5920).toInt (ρ.1 2402).toInt (ρ.1 7938).toInt (ρ.1 6304).toInt (ρ.1 21280).toInt) = true) ∧ ((decide ((4 * (3 : Nat) : Int) = 100) || apin (ρ.2.2.2.1 1761) (ρ.2.2.1 24512) (ρ.2.2.1 2404) 3 (abit (ρ.1 2848).toInt (8 + 3)) (ρ.1 5824).toInt (ρ.1 2178).toInt (ρ.1 6946).toInt (ρ.1 2306).toInt (ρ.1 7458).toInt) = true ∧ (decide ((4 * (3 : Nat) : Int) = sn X ρ T) || apou (ρ.2.2.2.1 1761) (ρ.2.2.1 24544) (ρ.2.2.1 2436) 3 (abit (ρ.1 2848).toInt (12 + 3)) (ρ.1 5952).toInt (ρ.1 2434).toInt (ρ.1 7970).toInt (ρ.1 6336).toInt (ρ.1 21312).toInt) = true)) ∧ apaw (ρ.2.2.2.1 1761) 0 (abit (ρ.1 2848).toInt (2 + 0)) (ρ.1 1570).toInt (ρ.1 6466).toInt = true ∧ apaw (ρ.2.2.2.1 1761) 1 (abit (ρ.1 2848).toInt (2 + 1)) (ρ.1 1602).toInt (ρ.1 6498).toInt = true) ∧ sn X ρ T % 4 = 0 ∧ 0 ≤ sn X ρ T ∧ sn X ρ T ≤ 12 := by
  show (apalX 100 (sn X ρ T) (aits X ρ (.add (.elem (.arg 1761) (.int 0)) (.add (.arg 2848) (.add (.elem (.arg 24512) (.int 0)) (.add (.elem (.arg 2404) (.int 0)) (.add (.elem (.arg 24544) (.int 0)) (.add (.elem (.arg 2436) (.int 0)) (.add (.arg 5728) (.add (.arg 5760) (.add (.arg 5792) (.add (.arg 5824) (.add (.arg 5856) (.add (.arg 5888) (.add (.arg 5920) (.add (.arg 5952) (.add (.arg 2082) (.add (.arg 2114) (.add (.arg 2146) (.add (.arg 2178) (.add (.arg 6850) (.add (.arg 6882) (.add (.arg 6914) (.add (.arg 6946) (.add (.arg 2210) (.add (.arg 2242) (.add (.arg 2274) (.add (.arg 2306) (.add (.arg 7362) (.add (.arg 7394) (.add (.arg 7426) (.add (.arg 7458) (.add (.arg 2338) (.add (.arg 2370) (.add (.arg 2402) (.add (.arg 2434) (.add (.arg 7874) (.add (.arg 7906) (.add (.arg 7938) (.add (.arg 7970) (.add (.arg 6240) (.add (.arg 6272) (.add (.arg 6304) (.add (.arg 6336) (.add (.arg 21216) (.add (.arg 21248) (.add (.arg 21280) (.add (.arg 21312) (.add (.arg 1570) (.add (.arg 1602) (.add (.arg 6466) (.arg 6498))))))))))))))))))))))))))))))))))))))))))))))))))) && (decide (sn X ρ T % 4 = 0) && (decide (0 ≤ sn X ρ T) && decide (sn X ρ T ≤ 12)))) = true ↔ _
  unfold apalX
  show ((([0, 1, 2, 3] : List Nat).all _ && ([0, 1] : List Nat).all _) && _) = true ↔ _
  simp only [List.all_cons, List.all_nil, Bool.and_eq_true, Bool.and_true, decide_eq_true_eq]
  exact Iff.rfl
theorem pu_o {X : pX} {ρ ρ3 : sR} {T T3 : sT} {a n : Nat} (H : sc X ρ (142, .add (.elem (.arg 1761) (.int 0)) (.add (.arg 2848) (.add (.elem (.arg 24512) (.int 0)) (.add (.elem (.arg 2404) (.int 0)) (.add (.elem (.arg 24544) (.int 0)) (.add (.elem (.arg 2436) (.int 0)) (.add (.arg 5728) (.add (.arg 5760) (.add (.arg 5792) (.add (.arg 5824) (.add (.arg 5856) (.add (.arg 5888) (.add (.arg 5920) (.add (.arg 5952) (.add (.arg 2082) (.add (.arg 2114) (.add (.arg 2146) (.add (.arg 2178) (.add (.arg 6850) (.add (.arg 6882) (.add (.arg 6914) (.add (.arg 6946) (.add (.arg 2210) (.add (.arg 2242) (.add (.arg 2274) (.add (.arg 2306) (.add (.arg 7362) (.add (.arg 7394) (.add (.arg 7426) (.add (.arg 7458) (.add (.arg 2338) (.add (.arg 2370) (.add (.arg 2402) (.add (.arg 2434) (.add (.arg 7874) (.add (.arg 7906) (.add (.arg 7938) (.add (.arg 7970) (.add (.arg 6240) (.add (.arg 6272) (.add (.arg 6304) (.add (.arg 6336) (.add (.arg 21216) (.add (.arg 21248) (.add (.arg 21280) (.add (.arg 21312) (.add (.arg 1570) (.add (.arg 1602) (.add (.arg 6466) (.arg 6498))))))))))))))))))))))))))))))))))))))))))))))))), T) = true) (hT : sn X ρ3 T3 = sn X ρ T) (hA : sn X ρ T = a) (hn : n < 4) (e1 : ∀ u : Nat, u ∈ ([2848, 5728, 5760, 5792, 5824, 5856, 5888, 5920, 5952, 2082, 2114, 2146, 2178, 6850, 6882, 6914, 6946, 2210, 2242, 2274, 2306, 7362, 7394, 7426, 7458, 2338, 2370, 2402, 2434, 7874, 7906, 7938, 7970, 6240, 6272, 6304, 6336, 21216, 21248, 21280, 21312, 1570, 1602, 6466, 6498] : List Nat) → ρ3.1 u = ρ.1 u) (eV : ρ3.2.2.2.1 1761 = ρ.2.2.2.1 1761) (es : ρ3.2.2.1 24512 = ρ.2.2.1 24512) (ew : ρ3.2.2.1 2404 = ρ.2.2.1 2404) (hs : ∀ j, ¬ j = a + n → ρ3.2.2.1 24544 j = ρ.2.2.1 24544 j) (hw : ∀ j, ¬ j = a + n → ρ3.2.2.1 2436 j = ρ.2.2.1 2436 j) : sc X ρ3 (142, .add (.elem (.arg 1761) (.int 0)) (.add (.arg 2848) (.add (.elem (.arg 24512) (.int 0)) (.add (.elem (.arg 2404) (.int 0)) (.add (.elem (.arg 24544) (.int 0)) (.add (.elem (.arg 2436) (.int 0)) (.add (.arg 5728) (.add (.arg 5760) (.add (.arg 5792) (.add (.arg 5824) (.add (.arg 5856) (.add (.arg 5888) (.add (.arg 5920) (.add (.arg 5952) (.add (.arg 2082) (.add (.arg 2114) (.add (.arg 2146) (.add (.arg 2178) (.add (.arg 6850) (.add (.arg 6882) (.add (.arg 6914) (.add (.arg 6946) (.add (.arg 2210) (.add (.arg 2242) (.add (.arg 2274) (.add (.arg 2306) (.add (.arg 7362) (.add (.arg 7394) (.add (.arg 7426) (.add (.arg 7458) (.add (.arg 2338) (.add (.arg 2370) (.add (.arg 2402) (.add (.arg 2434) (.add (.arg 7874) (.add (.arg 7906) (.add (.arg 7938) (.add (.arg 7970) (.add (.arg 6240) (.add (.arg 6272) (.add (.arg 6304) (.add (.arg 6336) (.add (.arg 21216) (.add (.arg 21248) (.add (.arg 21280) (.add (.arg 21312) (.add (.arg 1570) (.add (.arg 1602) (.add (.arg 6466) (.arg 6498))))))))))))))))))))))))))))))))))))))))))))))))), T3) = true := by
  obtain ⟨⟨⟨⟨h0, i0⟩, ⟨h1, i1⟩, ⟨h2, i2⟩, h3, i3⟩, j0, j1⟩, n1, n2, n3⟩ := px_o.mp H
  have ha : a % 4 = 0 := by omega
  refine px_o.mpr ?_
  rw [hT, eV, es, ew, e1 2848 (by decide), e1 5728 (by decide), e1 5760 (by decide), e1 5792 (by decide), e1 5824 (by decide), e1 5856 (by decide), e1 5888 (by decide), e1 5920 (by decide), e1 5952 (by decide), e1 2082 (by decide), e1 2114 (by decide), e1 2146 (by decide), e1 2178 (by decide), e1 6850 (by decide), e1 6882 (by decide), e1 6914 (by decide), e1 6946 (by decide), e1 2210 (by decide), e1 2242 (by decide), e1 2274 (by decide), e1 2306 (by decide), e1 7362 (by decide), e1 7394 (by decide), e1 7426 (by decide), e1 7458 (by decide), e1 2338 (by decide), e1 2370 (by decide), e1 2402 (by decide), e1 2434 (by decide), e1 7874 (by decide), e1 7906 (by decide), e1 7938 (by decide), e1 7970 (by decide), e1 6240 (by decide), e1 6272 (by decide), e1 6304 (by decide), e1 6336 (by decide), e1 21216 (by decide), e1 21248 (by decide), e1 21280 (by decide), e1 21312 (by decide), e1 1570 (by decide), e1 1602 (by decide), e1 6466 (by decide), e1 6498 (by decide)]
  rw [hA] at i0 i1 i2 i3 n1 n2 n3 ⊢
  exact ⟨⟨⟨⟨h0, po_x hs hw ha hn i0⟩, ⟨h1, po_x hs hw ha hn i1⟩, ⟨h2, po_x hs hw ha hn i2⟩, ⟨h3, po_x hs hw ha hn i3⟩⟩, j0, j1⟩, n1, n2, n3⟩
/-! ===== a map is read (in), the class alone ===== -/
noncomputable def c_rdi : sC := ((144, 284, 4), ([tr 60, .arg 60000, tr 61, tr 62, .arg 60032], [.int 0]), ([60, 42, 43, 61, 62, 63, 64, 65, 66, 67, 69, 71, 74, 40], []), [((101, .elem (.arg 1761) (.int 0), .int 0), true), ((141, .add (.elem (.arg 1761) (.int 0)) (.add (.arg 2848) (.add (.elem (.arg 24512) (.int 0)) (.add (.elem (.arg 2404) (.int 0)) (.add (.elem (.arg 24544) (.int 0)) (.add (.elem (.arg 2436) (.int 0)) (.add (.arg 5728) (.add (.arg 5760) (.add (.arg 5792) (.add (.arg 5824) (.add (.arg 5856) (.add (.arg 5888) (.add (.arg 5920) (.add (.arg 5952) (.add (.arg 2082) (.add (.arg 2114) (.add (.arg 2146) (.add (.arg 2178) (.add (.arg 6850) (.add (.arg 6882) (.add (.arg 6914) (.add (.arg 6946) (.add (.arg 2210) (.add (.arg 2242) (.add (.arg 2274) (.add (.arg 2306) (.add (.arg 7362) (.add (.arg 7394) (.add (.arg 7426) (.add (.arg 7458) (.add (.arg 2338) (.add (.arg 2370) (.add (.arg 2402) (.add (.arg 2434) (.add (.arg 7874) (.add (.arg 7906) (.add (.arg 7938) (.add (.arg 7970) (.add (.arg 6240) (.add (.arg 6272) (.add (.arg 6304) (.add (.arg 6336) (.add (.arg 21216) (.add (.arg 21248) (.add (.arg 21280) (.add (.arg 21312) (.add (.arg 1570) (.add (.arg 1602) (.add (.arg 6466) (.arg 6498))))))))))))))))))))))))))))))))))))))))))))))))), .arg 60032), true), ((2, .arg 60000, .int 50), false), ((2, .int 65, .arg 60000), false), ((2, .arg 60032, .int 0), false), ((2, .int 12, .arg 60032), false)], ([60064, 60096, 60128, 60160, 60033, 60065], [24512, 2404]), (some (.arg 60096), some (.int 0)), [((101, .elem (.arg 1761) (.int 0), .int 0), true), ((141, .add (.elem (.arg 1761) (.int 0)) (.add (.arg 2848) (.add (.elem (.arg 24512) (.int 0)) (.add (.elem (.arg 2404) (.int 0)) (.add (.elem (.arg 24544) (.int 0)) (.add (.elem (.arg 2436) (.int 0)) (.add (.arg 5728) (.add (.arg 5760) (.add (.arg 5792) (.add (.arg 5824) (.add (.arg 5856) (.add (.arg 5888) (.add (.arg 5920) (.add (.arg 5952) (.add (.arg 2082) (.add (.arg 2114) (.add (.arg 2146) (.add (.arg 2178) (.add (.arg 6850) (.add (.arg 6882) (.add (.arg 6914) (.add (.arg 6946) (.add (.arg 2210) (.add (.arg 2242) (.add (.arg 2274) (.add (.arg 2306) (.add (.arg 7362) (.add (.arg 7394) (.add (.arg 7426) (.add (.arg 7458) (.add (.arg 2338) (.add (.arg 2370) (.add (.arg 2402) (.add (.arg 2434) (.add (.arg 7874) (.add (.arg 7906) (.add (.arg 7938) (.add (.arg 7970) (.add (.arg 6240) (.add (.arg 6272) (.add (.arg 6304) (.add (.arg 6336) (.add (.arg 21216) (.add (.arg 21248) (.add (.arg 21280) (.add (.arg 21312) (.add (.arg 1570) (.add (.arg 1602) (.add (.arg 6466) (.arg 6498))))))))))))))))))))))))))))))))))))))))))))))))), .arg 60032), true), ((140, .add (.elem (.arg 1761) (.int 0)) (.add (.arg 60000) (.add (.elem (.arg 24512) (.int 0)) (.add (.elem (.arg 2404) (.int 0)) (.add (.arg 60032) (.arg 60096))))), .int 4), true)], ([], []))
theorem c_rdi_f : cfine zWP 65536 c_rdi = true := by decide +kernel
noncomputable def zf98zd_0 : sQ × Bool := ((140, .add (.elem (.arg 1761) (.int 0)) (.add (.arg 60000) (.add (.elem (.arg 24512) (.int 0)) (.add (.elem (.arg 2404) (.int 0)) (.add (.arg 60032) (.arg 60096))))), .arg 60064), true)
noncomputable def zf98zd_1 : sQ × Bool := ((141, .add (.elem (.arg 1761) (.int 0)) (.add (.arg 2848) (.add (.elem (.arg 24512) (.int 0)) (.add (.elem (.arg 2404) (.int 0)) (.add (.elem (.arg 24544) (.int 0)) (.add (.elem (.arg 2436) (.int 0)) (.add (.arg 5728) (.add (.arg 5760) (.add (.arg 5792) (.add (.arg 5824) (.add (.arg 5856) (.add (.arg 5888) (.add (.arg 5920) (.add (.arg 5952) (.add (.arg 2082) (.add (.arg 2114) (.add (.arg 2146) (.add (.arg 2178) (.add (.arg 6850) (.add (.arg 6882) (.add (.arg 6914) (.add (.arg 6946) (.add (.arg 2210) (.add (.arg 2242) (.add (.arg 2274) (.add (.arg 2306) (.add (.arg 7362) (.add (.arg 7394) (.add (.arg 7426) (.add (.arg 7458) (.add (.arg 2338) (.add (.arg 2370) (.add (.arg 2402) (.add (.arg 2434) (.add (.arg 7874) (.add (.arg 7906) (.add (.arg 7938) (.add (.arg 7970) (.add (.arg 6240) (.add (.arg 6272) (.add (.arg 6304) (.add (.arg 6336) (.add (.arg 21216) (.add (.arg 21248) (.add (.arg 21280) (.add (.arg 21312) (.add (.arg 1570) (.add (.arg 1602) (.add (.arg 6466) (.arg 6498))))))))))))))))))))))))))))))))))))))))))))))))), .arg 60032), true)
noncomputable def zf98zd_2 : sQ × Bool := ((2, .arg 60064, .int 0), false)
noncomputable def zf98zd_3 : sQ × Bool := ((2, .int 4, .arg 60064), false)
noncomputable def zf98zd_4 : sQ × Bool := ((119, .add (.arg 60033) (.add (.arg 60000) (.add (.int 0) (.elem (.arg 1761) (.int 0)))), .int 0), true)
noncomputable def zf98zd_5 : sQ × Bool := ((2, .arg 60000, .int 50), false)
noncomputable def zf98zd_6 : sQ × Bool := ((2, .int 65, .arg 60000), false)
noncomputable def zf98zd_7 : sQ × Bool := ((2, .arg 60032, .int 0), false)
noncomputable def zf98zd_8 : sQ × Bool := ((2, .int 12, .arg 60032), false)
noncomputable def zf98zd_9 : sQ × Bool := ((101, .elem (.arg 1761) (.int 0), .int 0), true)
noncomputable def q_rdiL : sCut := ((fr 0 144 10 [(0, tr 60), (1, .arg 60000), (2, tr 61), (3, tr 62), (4, .arg 60032), (5, .arg 60096), (6, .arg 60033), (8, .arg 60064)] [], [fBot], 3), (fr 0 284 0 [(0, .int 0)] [], [fBot], 3), [zf98zd_0, zf98zd_1, zf98zd_2, zf98zd_3, zf98zd_4, zf98zd_5, zf98zd_6, zf98zd_7, zf98zd_8, zf98zd_9], [])
noncomputable def zf98zd_10 : sQ × Bool := ((2, .sub (.int 4) (.arg 60064), .arg 64032), true)
noncomputable def q_rdiLL : sCut := ((fr 0 144 10 [(0, tr 60), (1, .arg 60000), (2, tr 61), (3, tr 62), (4, .arg 60032), (5, .arg 60096), (6, .arg 60033), (8, .arg 60064)] [], [fBot], 3), (fr 0 284 0 [(0, .int 0)] [], [fBot], 3), [zf98zd_10, zf98zd_0, zf98zd_1, zf98zd_2, zf98zd_3, zf98zd_4, zf98zd_5, zf98zd_6, zf98zd_7, zf98zd_8, zf98zd_9], [])
noncomputable def q_rdiLT : sCut := ((fr 0 144 10 [(0, tr 60), (1, .arg 60000), (2, tr 61), (3, tr 62), (4, .arg 60032), (5, .arg 60096), (6, .arg 60033), (8, .arg 60064)] [], [fBot], 3), (fr 0 284 0 [(0, .int 0)] [], [fBot], 3), [zf98zd_10, zf98zd_2, zf98zd_3, zf98zd_4, zf98zd_5, zf98zd_6, zf98zd_7, zf98zd_8, zf98zd_9], [])
noncomputable def zf98zd_11 : sQ × Bool := ((109, .add (.op1 .l2i (.op2 .lushr (.arg 60065) (.int 16))) (.op2 .iand (.op1 .l2i (.op2 .lushr (.arg 60065) (.int 8))) (.int 255)), .arg 60128), true)
noncomputable def zf98zd_12 : sQ × Bool := ((0, .add (.arg 60032) (.arg 60064), .arg 60160), true)
noncomputable def zf98zd_13 : sQ × Bool := ((2, .arg 60160, .int 0), false)
noncomputable def zf98zd_14 : sQ × Bool := ((2, .int 15, .arg 60160), false)
noncomputable def zf98zd_15 : sQ × Bool := ((146, .add (.elem (.arg 1761) (.int 0)) (.add (.arg 60000) (.arg 60064)), .arg 60065), true)
noncomputable def zf98zd_16 : sQ × Bool := ((2, .arg 60064, .int 4), true)
noncomputable def zf98zd_17 : sQ × Bool := ((2, .sub (.int 4) (.add (.arg 60064) (.int 1)), .arg 64032), true)
noncomputable def zf98zd_18 : sQ × Bool := ((2, .add (.arg 60064) (.int 1), .int 0), false)
noncomputable def zf98zd_19 : sQ × Bool := ((2, .int 4, .add (.arg 60064) (.int 1)), false)
noncomputable def q_rdiS1 : sCut := ((fr 0 144 45 [(0, tr 60), (1, .arg 60000), (2, tr 61), (3, tr 62), (4, .arg 60032), (5, .arg 60096), (6, .arg 60033), (8, .arg 60064), (9, .arg 60065)] [.arg 60128, .arg 60160, tr 61], [fBot], 3), (fr 0 284 0 [(0, .int 0)] [], [fBot], 3), [zf98zd_11, zf98zd_12, zf98zd_13, zf98zd_14, zf98zd_15, zf98zd_16, zf98zd_17, zf98zd_18, zf98zd_19, zf98zd_0, zf98zd_1, zf98zd_2, zf98zd_3, zf98zd_4, zf98zd_5, zf98zd_6, zf98zd_7, zf98zd_8, zf98zd_9], [])
noncomputable def w_rdiS1 : List (sCut × List (Nat × sT) × List (Nat × sT × List (sT × sT))) := [(q_rdiLT, [(60064, .add (.arg 60064) (.int 1)), (60096, .add (.arg 60096) (.op2 .iand (.op1 .l2i (.arg 60065)) (.int 255))), (60033, .arg 60033)], [(24512, .arg 24512, [(.arg 60160, .arg 60128)]), (2404, .arg 2404, [(.add (.arg 60032) (.arg 60064), .op2 .iand (.op1 .l2i (.arg 60065)) (.int 255))])])]
theorem k_rdiS1 : cbody kR [] (cpl1 zWP c_rdi [q_rdiLT]) (cpl2 zWP c_rdi [q_rdiLT]) (cleafB kR zWP c_rdi w_rdiS1) 60 true false q_rdiS1.2.2.1 q_rdiS1.2.2.2 (cst zWP c_rdi.2.2.1.1 q_rdiS1.1) (cst zWP c_rdi.2.2.1.2 q_rdiS1.2.1) = true := by decide +kernel
theorem t_rdiS1 {X : pX} {ρ0 : sR} (hv : vok X ρ0) (hk_ : CUTOK X kR zWP c_rdi 3 ρ0 q_rdiLL) : CUTOK X kR zWP c_rdi 3 ρ0 q_rdiS1 := CUTOK_AT (fun ρ k1 hF hI k4 => AT_of (q := q_rdiS1) rfl rfl (SEM_runB kR_x kR_0 (Cs := []) (fun C hC => by cases hC) c_rdi_f (Q := w_rdiS1) hv 60 (b1 := true) (b2 := false) k_rdiS1 k1 hF hI k4 (fun p hp ρ3 m1 m2 m3 m4 m5 m6 => by
  rw [List.mem_singleton.mp hp] at m2 m3 m5 m6 ⊢
  have h140 : amapn (ρ.2.2.2.1 1761) (ρ.1 60000).toInt.toNat (ρ.1 60032).toInt.toNat (ρ.1 60064).toInt.toNat (ρ.2.2.1 24512) (ρ.2.2.1 2404) (ρ.1 60096).toInt = true := hF.2 _ (List.mem_cons_of_mem _ (List.mem_cons_of_mem _ (List.mem_cons_of_mem _ (List.mem_cons_of_mem _ (List.mem_cons_of_mem _ (List.mem_cons_of_mem _ (List.mem_cons_of_mem _ (List.mem_cons_of_mem _ (List.mem_cons_of_mem _ (List.mem_cons_self))))))))))
  have i0 : (0 : Int) ≤ (ρ.1 60064).toInt := ri_lf (x := ρ.1 60064) (y := 0) (hF.2 _ (List.mem_cons_of_mem _ (List.mem_cons_of_mem _ (List.mem_cons_of_mem _ (List.mem_cons_of_mem _ (List.mem_cons_of_mem _ (List.mem_cons_of_mem _ (List.mem_cons_of_mem _ (List.mem_cons_of_mem _ (List.mem_cons_of_mem _ (List.mem_cons_of_mem _ (List.mem_cons_of_mem _ (List.mem_cons_self)))))))))))))
  have i4 : (ρ.1 60064).toInt < 4 := ri_lt (x := ρ.1 60064) (y := 4) (hF.2 _ (List.mem_cons_of_mem _ (List.mem_cons_of_mem _ (List.mem_cons_of_mem _ (List.mem_cons_of_mem _ (List.mem_cons_of_mem _ (List.mem_cons_self)))))))
  have p0 : (50 : Int) ≤ (ρ.1 60000).toInt := ri_lf (x := ρ.1 60000) (y := 50) (hF.2 _ (List.mem_cons_of_mem _ (List.mem_cons_of_mem _ (List.mem_cons_of_mem _ (List.mem_cons_of_mem _ (List.mem_cons_of_mem _ (List.mem_cons_of_mem _ (List.mem_cons_of_mem _ (List.mem_cons_of_mem _ (List.mem_cons_of_mem _ (List.mem_cons_of_mem _ (List.mem_cons_of_mem _ (List.mem_cons_of_mem _ (List.mem_cons_of_mem _ (List.mem_cons_of_mem _ (List.mem_cons_self))))))))))))))))
  have p1 : (ρ.1 60000).toInt ≤ 65 := ri_lf (x := 65) (y := ρ.1 60000) (hF.2 _ (List.mem_cons_of_mem _ (List.mem_cons_of_mem _ (List.mem_cons_of_mem _ (List.mem_cons_of_mem _ (List.mem_cons_of_mem _ (List.mem_cons_of_mem _ (List.mem_cons_of_mem _ (List.mem_cons_of_mem _ (List.mem_cons_of_mem _ (List.mem_cons_of_mem _ (List.mem_cons_of_mem _ (List.mem_cons_of_mem _ (List.mem_cons_of_mem _ (List.mem_cons_of_mem _ (List.mem_cons_of_mem _ (List.mem_cons_self)))))))))))))))))
  have a0 : (0 : Int) ≤ (ρ.1 60032).toInt := ri_lf (x := ρ.1 60032) (y := 0) (hF.2 _ (List.mem_cons_of_mem _ (List.mem_cons_of_mem _ (List.mem_cons_of_mem _ (List.mem_cons_of_mem _ (List.mem_cons_of_mem _ (List.mem_cons_of_mem _ (List.mem_cons_of_mem _ (List.mem_cons_of_mem _ (List.mem_cons_of_mem _ (List.mem_cons_of_mem _ (List.mem_cons_of_mem _ (List.mem_cons_of_mem _ (List.mem_cons_of_mem _ (List.mem_cons_of_mem _ (List.mem_cons_of_mem _ (List.mem_cons_of_mem _ (List.mem_cons_self))))))))))))))))))
  have a1 : (ρ.1 60032).toInt ≤ 12 := ri_lf (x := 12) (y := ρ.1 60032) (hF.2 _ (List.mem_cons_of_mem _ (List.mem_cons_of_mem _ (List.mem_cons_of_mem _ (List.mem_cons_of_mem _ (List.mem_cons_of_mem _ (List.mem_cons_of_mem _ (List.mem_cons_of_mem _ (List.mem_cons_of_mem _ (List.mem_cons_of_mem _ (List.mem_cons_of_mem _ (List.mem_cons_of_mem _ (List.mem_cons_of_mem _ (List.mem_cons_of_mem _ (List.mem_cons_of_mem _ (List.mem_cons_of_mem _ (List.mem_cons_of_mem _ (List.mem_cons_of_mem _ (List.mem_cons_self)))))))))))))))))))
  obtain ⟨b0, b1⟩ := mp_b h140
  have el : (ρ.1 60032 + ρ.1 60064).toInt = (ρ.1 60032).toInt + (ρ.1 60064).toInt := s_add (by omega) (by omega)
  have ep : ρ.1 60032 + ρ.1 60064 = ρ.1 60160 := of_decide_eq_true (hF.2 _ (List.mem_cons_of_mem _ (List.mem_cons_self)))
  have hn : (ρ.1 60032 + ρ.1 60064).toNatClampNeg = (ρ.1 60032).toInt.toNat + (ρ.1 60064).toInt.toNat := by rw [s_nat, el]; omega
  have hr : mrow (ρ.2.2.2.1 1761) (ρ.1 60000).toInt.toNat (ρ.1 60064).toInt.toNat = (ρ.2.1 60065).toInt := (of_decide_eq_true (hF.2 _ (List.mem_cons_of_mem _ (List.mem_cons_of_mem _ (List.mem_cons_of_mem _ (List.mem_cons_of_mem _ (List.mem_cons_self))))))).symm
  have hb := rd_m (hF.2 _ (List.mem_cons_of_mem _ (List.mem_cons_of_mem _ (List.mem_cons_of_mem _ (List.mem_cons_of_mem _ (List.mem_cons_of_mem _ (List.mem_cons_of_mem _ (List.mem_cons_of_mem _ (List.mem_cons_of_mem _ (List.mem_cons_of_mem _ (List.mem_cons_of_mem _ (List.mem_cons_of_mem _ (List.mem_cons_of_mem _ (List.mem_cons_of_mem _ (List.mem_cons_of_mem _ (List.mem_cons_of_mem _ (List.mem_cons_of_mem _ (List.mem_cons_of_mem _ (List.mem_cons_of_mem _ (List.mem_cons_self)))))))))))))))))))) (m := (ρ.1 60000).toInt.toNat) (i := (ρ.1 60064).toInt.toNat) (by omega) (by omega)
  rw [hr] at hb
  have u1 := us_16 hb.1 hb.2
  have u2 := us_8 hb.1
  have h9 : (ρ.1 60128).toInt = aslot ((s2 .lushr (0, ρ.2.1 60065) (16, 0)).2.toInt32).toInt ((s2 .lushr (0, ρ.2.1 60065) (8, 0)).2.toInt32 &&& 255).toInt := of_decide_eq_true (hF.2 _ (List.mem_cons_self))
  rw [u1.1, u2] at h9
  have hw : ((ρ.2.1 60065).toInt32 &&& 255).toInt = (ρ.2.1 60065).toInt % 256 := us_ia
  have bw : (ρ.1 60096 + ((ρ.2.1 60065).toInt32 &&& 255)).toInt = (ρ.1 60096).toInt + (ρ.2.1 60065).toInt % 256 := by rw [s_add (by rw [hw]; omega) (by rw [hw]; omega), hw]
  have t1 : ρ3.1 60064 = ρ.1 60064 + 1 := congrArg Prod.fst (m5 _ (List.mem_cons_self))
  have t2 : ρ3.1 60096 = ρ.1 60096 + ((ρ.2.1 60065).toInt32 &&& 255) := congrArg Prod.fst (m5 _ (List.mem_cons_of_mem _ (List.mem_cons_self)))
  have e1 : (ρ3.1 60064).toInt.toNat = (ρ.1 60064).toInt.toNat + 1 := by
    have z1 : (1 : Int32).toInt = 1 := rfl
    rw [t1, s_add (by rw [z1]; omega) (by rw [z1]; omega), z1]
    omega
  have ss := fun j => ad_i (X := X) (ρ := ρ) (ρ3 := ρ3) (a := 24512) (p := .arg 60160) (t := .arg 60128) (m6 _ (List.mem_cons_self)) (by decide) rfl j
  have ww := fun j => ad_i (X := X) (ρ := ρ) (ρ3 := ρ3) (a := 2404) (p := .add (.arg 60032) (.arg 60064)) (t := .op2 .iand (.op1 .l2i (.arg 60065)) (.int 255)) (m6 _ (List.mem_cons_of_mem _ (List.mem_cons_self))) (by decide) rfl j
  have ss : ∀ j, ρ3.2.2.1 24512 j = if (ρ.1 60160).toNatClampNeg = j then ρ.1 60128 else ρ.2.2.1 24512 j := ss
  have ww : ∀ j, ρ3.2.2.1 2404 j = if (ρ.1 60032 + ρ.1 60064).toNatClampNeg = j then ((ρ.2.1 60065).toInt32 &&& 255) else ρ.2.2.1 2404 j := ww
  rw [← ep, hn] at ss
  rw [hn] at ww
  have ag : ∀ u : Nat, u ∈ ([2848, 5728, 5760, 5792, 5824, 5856, 5888, 5920, 5952, 2082, 2114, 2146, 2178, 6850, 6882, 6914, 6946, 2210, 2242, 2274, 2306, 7362, 7394, 7426, 7458, 2338, 2370, 2402, 2434, 7874, 7906, 7938, 7970, 6240, 6272, 6304, 6336, 21216, 21248, 21280, 21312, 1570, 1602, 6466, 6498, 60000, 60032] : List Nat) → ρ3.1 u = ρ.1 u := fun u hu => by
    have hu6 := List.all_eq_true.mp rd_s u hu
    simp only [Bool.and_eq_true, Bool.not_eq_true', decide_eq_true_eq] at hu6
    have q : u ∉ ([60064, 60096, 60128, 60160, 60033, 60065] : List Nat) := fun r => by rw [List.contains_iff_mem.mpr r] at hu6; cases hu6.2
    exact (m4.1 u hu6.1 q).1.trans (k4.1 u hu6.1 q).1.symm
  have eV : ρ3.2.2.2.1 1761 = ρ.2.2.2.1 1761 := (m4.2 1761 (by decide) (by decide)).2.trans (k4.2 1761 (by decide) (by decide)).2.symm
  have x140 : sc X ρ3 (140, .add (.elem (.arg 1761) (.int 0)) (.add (.arg 60000) (.add (.elem (.arg 24512) (.int 0)) (.add (.elem (.arg 2404) (.int 0)) (.add (.arg 60032) (.arg 60096))))), .arg 60064) = true := by
    show amapn (ρ3.2.2.2.1 1761) (ρ3.1 60000).toInt.toNat (ρ3.1 60032).toInt.toNat (ρ3.1 60064).toInt.toNat (ρ3.2.2.1 24512) (ρ3.2.2.1 2404) (ρ3.1 60096).toInt = true
    rw [eV, ag 60000 (by decide), ag 60032 (by decide), e1, t2]
    refine mp_1 h140 (fun j hj => ?_) (fun j hj => ?_) ?_ ?_ ?_
    · rw [ss, if_neg (by omega)]
    · rw [ww, if_neg (by omega)]
    · rw [ss, if_pos rfl, hr]; exact h9
    · rw [ww, if_pos rfl, hr]; exact hw
    · rw [hr]; exact bw
  have xx : sc X ρ3 (141, .add (.elem (.arg 1761) (.int 0)) (.add (.arg 2848) (.add (.elem (.arg 24512) (.int 0)) (.add (.elem (.arg 2404) (.int 0)) (.add (.elem (.arg 24544) (.int 0)) (.add (.elem (.arg 2436) (.int 0)) (.add (.arg 5728) (.add (.arg 5760) (.add (.arg 5792) (.add (.arg 5824) (.add (.arg 5856) (.add (.arg 5888) (.add (.arg 5920) (.add (.arg 5952) (.add (.arg 2082) (.add (.arg 2114) (.add (.arg 2146) (.add (.arg 2178) (.add (.arg 6850) (.add (.arg 6882) (.add (.arg 6914) (.add (.arg 6946) (.add (.arg 2210) (.add (.arg 2242) (.add (.arg 2274) (.add (.arg 2306) (.add (.arg 7362) (.add (.arg 7394) (.add (.arg 7426) (.add (.arg 7458) (.add (.arg 2338) (.add (.arg 2370) (.add (.arg 2402) (.add (.arg 2434) (.add (.arg 7874) (.add (.arg 7906) (.add (.arg 7938) (.add (.arg 7970) (.add (.arg 6240) (.add (.arg 6272) (.add (.arg 6304) (.add (.arg 6336) (.add (.arg 21216) (.add (.arg 21248) (.add (.arg 21280) (.add (.arg 21312) (.add (.arg 1570) (.add (.arg 1602) (.add (.arg 6466) (.arg 6498))))))))))))))))))))))))))))))))))))))))))))))))), .arg 60032) = true := pu_i (a := (ρ.1 60032).toInt.toNat) (n := (ρ.1 60064).toInt.toNat) (hF.2 _ (List.mem_cons_of_mem _ (List.mem_cons_of_mem _ (List.mem_cons_of_mem _ (List.mem_cons_of_mem _ (List.mem_cons_of_mem _ (List.mem_cons_of_mem _ (List.mem_cons_of_mem _ (List.mem_cons_of_mem _ (List.mem_cons_of_mem _ (List.mem_cons_of_mem _ (List.mem_cons_self)))))))))))) (show (ρ3.1 60032).toInt = (ρ.1 60032).toInt by rw [ag 60032 (by decide)]) (show (ρ.1 60032).toInt = _ by omega) (by omega) (fun u hu => ag u (List.mem_append_left [60000, 60032] hu)) eV ((m4.2 24544 (by decide) (by decide)).1.trans (k4.2 24544 (by decide) (by decide)).1.symm) ((m4.2 2436 (by decide) (by decide)).1.trans (k4.2 2436 (by decide) (by decide)).1.symm) (fun j hj => by rw [ss, if_neg (fun q => hj q.symm)]) (fun j hj => by rw [ww, if_neg (fun q => hj q.symm)])
  exact hk_ ρ3 m1 ⟨m2.1, fcn (m2.2 _ (List.mem_cons_self)) (fcn x140 (fcn xx (fun f hf => m2.2 f (List.mem_cons_of_mem _ hf))))⟩ m3 m4)))
noncomputable def zf98zd_20 : sQ × Bool := ((109, .add (.int 0) (.int 0), .arg 60128), true)
noncomputable def zf98zd_21 : sQ × Bool := ((146, .add (.elem (.arg 1761) (.int 0)) (.add (.arg 60000) (.arg 60064)), .long 0), true)
noncomputable def q_rdiS0 : sCut := ((fr 0 144 45 [(0, tr 60), (1, .arg 60000), (2, tr 61), (3, tr 62), (4, .arg 60032), (5, .arg 60096), (6, .arg 60033), (8, .arg 60064), (9, .long 0)] [.arg 60128, .arg 60160, tr 61], [fBot], 3), (fr 0 284 0 [(0, .int 0)] [], [fBot], 3), [zf98zd_20, zf98zd_12, zf98zd_13, zf98zd_14, zf98zd_21, zf98zd_16, zf98zd_17, zf98zd_18, zf98zd_19, zf98zd_0, zf98zd_1, zf98zd_2, zf98zd_3, zf98zd_4, zf98zd_5, zf98zd_6, zf98zd_7, zf98zd_8, zf98zd_9], [])
noncomputable def w_rdiS0 : List (sCut × List (Nat × sT) × List (Nat × sT × List (sT × sT))) := [(q_rdiLT, [(60064, .add (.arg 60064) (.int 1)), (60096, .arg 60096), (60033, .arg 60033)], [(24512, .arg 24512, [(.arg 60160, .arg 60128)]), (2404, .arg 2404, [(.add (.arg 60032) (.arg 60064), .int 0)])])]
theorem k_rdiS0 : cbody kR [] (cpl1 zWP c_rdi [q_rdiLT]) (cpl2 zWP c_rdi [q_rdiLT]) (cleafB kR zWP c_rdi w_rdiS0) 60 true false q_rdiS0.2.2.1 q_rdiS0.2.2.2 (cst zWP c_rdi.2.2.1.1 q_rdiS0.1) (cst zWP c_rdi.2.2.1.2 q_rdiS0.2.1) = true := by decide +kernel
theorem t_rdiS0 {X : pX} {ρ0 : sR} (hv : vok X ρ0) (hk_ : CUTOK X kR zWP c_rdi 3 ρ0 q_rdiLL) : CUTOK X kR zWP c_rdi 3 ρ0 q_rdiS0 := CUTOK_AT (fun ρ k1 hF hI k4 => AT_of (q := q_rdiS0) rfl rfl (SEM_runB kR_x kR_0 (Cs := []) (fun C hC => by cases hC) c_rdi_f (Q := w_rdiS0) hv 60 (b1 := true) (b2 := false) k_rdiS0 k1 hF hI k4 (fun p hp ρ3 m1 m2 m3 m4 m5 m6 => by
  rw [List.mem_singleton.mp hp] at m2 m3 m5 m6 ⊢
  have h140 : amapn (ρ.2.2.2.1 1761) (ρ.1 60000).toInt.toNat (ρ.1 60032).toInt.toNat (ρ.1 60064).toInt.toNat (ρ.2.2.1 24512) (ρ.2.2.1 2404) (ρ.1 60096).toInt = true := hF.2 _ (List.mem_cons_of_mem _ (List.mem_cons_of_mem _ (List.mem_cons_of_mem _ (List.mem_cons_of_mem _ (List.mem_cons_of_mem _ (List.mem_cons_of_mem _ (List.mem_cons_of_mem _ (List.mem_cons_of_mem _ (List.mem_cons_of_mem _ (List.mem_cons_self))))))))))
  have i0 : (0 : Int) ≤ (ρ.1 60064).toInt := ri_lf (x := ρ.1 60064) (y := 0) (hF.2 _ (List.mem_cons_of_mem _ (List.mem_cons_of_mem _ (List.mem_cons_of_mem _ (List.mem_cons_of_mem _ (List.mem_cons_of_mem _ (List.mem_cons_of_mem _ (List.mem_cons_of_mem _ (List.mem_cons_of_mem _ (List.mem_cons_of_mem _ (List.mem_cons_of_mem _ (List.mem_cons_of_mem _ (List.mem_cons_self)))))))))))))
  have i4 : (ρ.1 60064).toInt < 4 := ri_lt (x := ρ.1 60064) (y := 4) (hF.2 _ (List.mem_cons_of_mem _ (List.mem_cons_of_mem _ (List.mem_cons_of_mem _ (List.mem_cons_of_mem _ (List.mem_cons_of_mem _ (List.mem_cons_self)))))))
  have p0 : (50 : Int) ≤ (ρ.1 60000).toInt := ri_lf (x := ρ.1 60000) (y := 50) (hF.2 _ (List.mem_cons_of_mem _ (List.mem_cons_of_mem _ (List.mem_cons_of_mem _ (List.mem_cons_of_mem _ (List.mem_cons_of_mem _ (List.mem_cons_of_mem _ (List.mem_cons_of_mem _ (List.mem_cons_of_mem _ (List.mem_cons_of_mem _ (List.mem_cons_of_mem _ (List.mem_cons_of_mem _ (List.mem_cons_of_mem _ (List.mem_cons_of_mem _ (List.mem_cons_of_mem _ (List.mem_cons_self))))))))))))))))
  have p1 : (ρ.1 60000).toInt ≤ 65 := ri_lf (x := 65) (y := ρ.1 60000) (hF.2 _ (List.mem_cons_of_mem _ (List.mem_cons_of_mem _ (List.mem_cons_of_mem _ (List.mem_cons_of_mem _ (List.mem_cons_of_mem _ (List.mem_cons_of_mem _ (List.mem_cons_of_mem _ (List.mem_cons_of_mem _ (List.mem_cons_of_mem _ (List.mem_cons_of_mem _ (List.mem_cons_of_mem _ (List.mem_cons_of_mem _ (List.mem_cons_of_mem _ (List.mem_cons_of_mem _ (List.mem_cons_of_mem _ (List.mem_cons_self)))))))))))))))))
  have a0 : (0 : Int) ≤ (ρ.1 60032).toInt := ri_lf (x := ρ.1 60032) (y := 0) (hF.2 _ (List.mem_cons_of_mem _ (List.mem_cons_of_mem _ (List.mem_cons_of_mem _ (List.mem_cons_of_mem _ (List.mem_cons_of_mem _ (List.mem_cons_of_mem _ (List.mem_cons_of_mem _ (List.mem_cons_of_mem _ (List.mem_cons_of_mem _ (List.mem_cons_of_mem _ (List.mem_cons_of_mem _ (List.mem_cons_of_mem _ (List.mem_cons_of_mem _ (List.mem_cons_of_mem _ (List.mem_cons_of_mem _ (List.mem_cons_of_mem _ (List.mem_cons_self))))))))))))))))))
  have a1 : (ρ.1 60032).toInt ≤ 12 := ri_lf (x := 12) (y := ρ.1 60032) (hF.2 _ (List.mem_cons_of_mem _ (List.mem_cons_of_mem _ (List.mem_cons_of_mem _ (List.mem_cons_of_mem _ (List.mem_cons_of_mem _ (List.mem_cons_of_mem _ (List.mem_cons_of_mem _ (List.mem_cons_of_mem _ (List.mem_cons_of_mem _ (List.mem_cons_of_mem _ (List.mem_cons_of_mem _ (List.mem_cons_of_mem _ (List.mem_cons_of_mem _ (List.mem_cons_of_mem _ (List.mem_cons_of_mem _ (List.mem_cons_of_mem _ (List.mem_cons_of_mem _ (List.mem_cons_self)))))))))))))))))))
  obtain ⟨b0, b1⟩ := mp_b h140
  have el : (ρ.1 60032 + ρ.1 60064).toInt = (ρ.1 60032).toInt + (ρ.1 60064).toInt := s_add (by omega) (by omega)
  have ep : ρ.1 60032 + ρ.1 60064 = ρ.1 60160 := of_decide_eq_true (hF.2 _ (List.mem_cons_of_mem _ (List.mem_cons_self)))
  have hn : (ρ.1 60032 + ρ.1 60064).toNatClampNeg = (ρ.1 60032).toInt.toNat + (ρ.1 60064).toInt.toNat := by rw [s_nat, el]; omega
  have hr : mrow (ρ.2.2.2.1 1761) (ρ.1 60000).toInt.toNat (ρ.1 60064).toInt.toNat = 0 := (of_decide_eq_true (hF.2 _ (List.mem_cons_of_mem _ (List.mem_cons_of_mem _ (List.mem_cons_of_mem _ (List.mem_cons_of_mem _ (List.mem_cons_self))))))).symm
  have h9 : (ρ.1 60128).toInt = aslot (0 : Int32).toInt (0 : Int32).toInt := of_decide_eq_true (hF.2 _ (List.mem_cons_self))
  have h9 : (ρ.1 60128).toInt = mslot 0 := h9
  have t1 : ρ3.1 60064 = ρ.1 60064 + 1 := congrArg Prod.fst (m5 _ (List.mem_cons_self))
  have t2 : ρ3.1 60096 = ρ.1 60096 := congrArg Prod.fst (m5 _ (List.mem_cons_of_mem _ (List.mem_cons_self)))
  have e1 : (ρ3.1 60064).toInt.toNat = (ρ.1 60064).toInt.toNat + 1 := by
    have z1 : (1 : Int32).toInt = 1 := rfl
    rw [t1, s_add (by rw [z1]; omega) (by rw [z1]; omega), z1]
    omega
  have ss := fun j => ad_i (X := X) (ρ := ρ) (ρ3 := ρ3) (a := 24512) (p := .arg 60160) (t := .arg 60128) (m6 _ (List.mem_cons_self)) (by decide) rfl j
  have ww := fun j => ad_i (X := X) (ρ := ρ) (ρ3 := ρ3) (a := 2404) (p := .add (.arg 60032) (.arg 60064)) (t := .int 0) (m6 _ (List.mem_cons_of_mem _ (List.mem_cons_self))) (by decide) rfl j
  have ss : ∀ j, ρ3.2.2.1 24512 j = if (ρ.1 60160).toNatClampNeg = j then ρ.1 60128 else ρ.2.2.1 24512 j := ss
  have ww : ∀ j, ρ3.2.2.1 2404 j = if (ρ.1 60032 + ρ.1 60064).toNatClampNeg = j then 0 else ρ.2.2.1 2404 j := ww
  rw [← ep, hn] at ss
  rw [hn] at ww
  have ag : ∀ u : Nat, u ∈ ([2848, 5728, 5760, 5792, 5824, 5856, 5888, 5920, 5952, 2082, 2114, 2146, 2178, 6850, 6882, 6914, 6946, 2210, 2242, 2274, 2306, 7362, 7394, 7426, 7458, 2338, 2370, 2402, 2434, 7874, 7906, 7938, 7970, 6240, 6272, 6304, 6336, 21216, 21248, 21280, 21312, 1570, 1602, 6466, 6498, 60000, 60032] : List Nat) → ρ3.1 u = ρ.1 u := fun u hu => by
    have hu6 := List.all_eq_true.mp rd_s u hu
    simp only [Bool.and_eq_true, Bool.not_eq_true', decide_eq_true_eq] at hu6
    have q : u ∉ ([60064, 60096, 60128, 60160, 60033, 60065] : List Nat) := fun r => by rw [List.contains_iff_mem.mpr r] at hu6; cases hu6.2
    exact (m4.1 u hu6.1 q).1.trans (k4.1 u hu6.1 q).1.symm
  have eV : ρ3.2.2.2.1 1761 = ρ.2.2.2.1 1761 := (m4.2 1761 (by decide) (by decide)).2.trans (k4.2 1761 (by decide) (by decide)).2.symm
  have x140 : sc X ρ3 (140, .add (.elem (.arg 1761) (.int 0)) (.add (.arg 60000) (.add (.elem (.arg 24512) (.int 0)) (.add (.elem (.arg 2404) (.int 0)) (.add (.arg 60032) (.arg 60096))))), .arg 60064) = true := by
    show amapn (ρ3.2.2.2.1 1761) (ρ3.1 60000).toInt.toNat (ρ3.1 60032).toInt.toNat (ρ3.1 60064).toInt.toNat (ρ3.2.2.1 24512) (ρ3.2.2.1 2404) (ρ3.1 60096).toInt = true
    rw [eV, ag 60000 (by decide), ag 60032 (by decide), e1, t2]
    refine mp_1 h140 (fun j hj => ?_) (fun j hj => ?_) ?_ ?_ ?_
    · rw [ss, if_neg (by omega)]
    · rw [ww, if_neg (by omega)]
    · rw [ss, if_pos rfl, hr]; exact h9
    · rw [ww, if_pos rfl, hr]; exact rfl
    · rw [hr]; exact (Int.add_zero _).symm
  have xx : sc X ρ3 (141, .add (.elem (.arg 1761) (.int 0)) (.add (.arg 2848) (.add (.elem (.arg 24512) (.int 0)) (.add (.elem (.arg 2404) (.int 0)) (.add (.elem (.arg 24544) (.int 0)) (.add (.elem (.arg 2436) (.int 0)) (.add (.arg 5728) (.add (.arg 5760) (.add (.arg 5792) (.add (.arg 5824) (.add (.arg 5856) (.add (.arg 5888) (.add (.arg 5920) (.add (.arg 5952) (.add (.arg 2082) (.add (.arg 2114) (.add (.arg 2146) (.add (.arg 2178) (.add (.arg 6850) (.add (.arg 6882) (.add (.arg 6914) (.add (.arg 6946) (.add (.arg 2210) (.add (.arg 2242) (.add (.arg 2274) (.add (.arg 2306) (.add (.arg 7362) (.add (.arg 7394) (.add (.arg 7426) (.add (.arg 7458) (.add (.arg 2338) (.add (.arg 2370) (.add (.arg 2402) (.add (.arg 2434) (.add (.arg 7874) (.add (.arg 7906) (.add (.arg 7938) (.add (.arg 7970) (.add (.arg 6240) (.add (.arg 6272) (.add (.arg 6304) (.add (.arg 6336) (.add (.arg 21216) (.add (.arg 21248) (.add (.arg 21280) (.add (.arg 21312) (.add (.arg 1570) (.add (.arg 1602) (.add (.arg 6466) (.arg 6498))))))))))))))))))))))))))))))))))))))))))))))))), .arg 60032) = true := pu_i (a := (ρ.1 60032).toInt.toNat) (n := (ρ.1 60064).toInt.toNat) (hF.2 _ (List.mem_cons_of_mem _ (List.mem_cons_of_mem _ (List.mem_cons_of_mem _ (List.mem_cons_of_mem _ (List.mem_cons_of_mem _ (List.mem_cons_of_mem _ (List.mem_cons_of_mem _ (List.mem_cons_of_mem _ (List.mem_cons_of_mem _ (List.mem_cons_of_mem _ (List.mem_cons_self)))))))))))) (show (ρ3.1 60032).toInt = (ρ.1 60032).toInt by rw [ag 60032 (by decide)]) (show (ρ.1 60032).toInt = _ by omega) (by omega) (fun u hu => ag u (List.mem_append_left [60000, 60032] hu)) eV ((m4.2 24544 (by decide) (by decide)).1.trans (k4.2 24544 (by decide) (by decide)).1.symm) ((m4.2 2436 (by decide) (by decide)).1.trans (k4.2 2436 (by decide) (by decide)).1.symm) (fun j hj => by rw [ss, if_neg (fun q => hj q.symm)]) (fun j hj => by rw [ww, if_neg (fun q => hj q.symm)])
  exact hk_ ρ3 m1 ⟨m2.1, fcn (m2.2 _ (List.mem_cons_self)) (fcn x140 (fcn xx (fun f hf => m2.2 f (List.mem_cons_of_mem _ hf))))⟩ m3 m4)))
noncomputable def zf98zd_22 : sQ × Bool := ((0, .sub (.int 4) (.arg 60064), .arg 64032), true)
noncomputable def q_rdiLE : sCut := ((fr 0 144 10 [(0, tr 60), (1, .arg 60000), (2, tr 61), (3, tr 62), (4, .arg 60032), (5, .arg 60096), (6, .arg 60033), (8, .arg 60064)] [], [fBot], 3), (fr 0 284 0 [(0, .int 0)] [], [fBot], 3), [zf98zd_22, zf98zd_0, zf98zd_1, zf98zd_2, zf98zd_3, zf98zd_4, zf98zd_5, zf98zd_6, zf98zd_7, zf98zd_8, zf98zd_9], [])
noncomputable def zf98zd_23 : sQ × Bool := ((0, .arg 60064, .int 4), true)
noncomputable def q_rdiLEe : sCut := ((fr 0 144 10 [(0, tr 60), (1, .arg 60000), (2, tr 61), (3, tr 62), (4, .arg 60032), (5, .arg 60096), (6, .arg 60033), (8, .arg 60064)] [], [fBot], 3), (fr 0 284 0 [(0, .int 0)] [], [fBot], 3), [zf98zd_23, ((140, .add (.elem (.arg 1761) (.int 0)) (.add (.arg 60000) (.add (.elem (.arg 24512) (.int 0)) (.add (.elem (.arg 2404) (.int 0)) (.add (.arg 60032) (.arg 60096))))), .int 4), true), zf98zd_22, zf98zd_0, zf98zd_1, zf98zd_2, zf98zd_3, zf98zd_4, zf98zd_5, zf98zd_6, zf98zd_7, zf98zd_8, zf98zd_9], [])
theorem k_rdiLEe : cbody kR [] (cpl1 zWP c_rdi []) (cpl2 zWP c_rdi []) (cleaf kR zWP c_rdi []) 60 true true q_rdiLEe.2.2.1 q_rdiLEe.2.2.2 (cst zWP c_rdi.2.2.1.1 q_rdiLEe.1) (cst zWP c_rdi.2.2.1.2 q_rdiLEe.2.1) = true := by decide +kernel
theorem t_rdiLEe {X : pX} {ρ0 : sR} (hv : vok X ρ0) (hk_ : CUTOK X kR zWP c_rdi 3 ρ0 q_rdiLL) : CUTOK X kR zWP c_rdi 3 ρ0 q_rdiLEe := CUT_run kR_x kR_0 (Cs := []) (fun C hC => by cases hC) c_rdi_f (Q := []) hv (fun q hq => by cases hq) 60 (b1 := true) (b2 := true) k_rdiLEe
noncomputable def zf98zd_24 : sQ × Bool := ((146, .add (.elem (.arg 1761) (.int 0)) (.add (.arg 60000) (.arg 60064)), .elem (.arg 1761) (.add (.add (.arg 60000) (.arg 60064)) (.int 1))), true)
noncomputable def zf98zd_25 : sQ × Bool := ((2, .op1 .l2i (.op2 .lushr (.elem (.arg 1761) (.add (.add (.arg 60000) (.arg 60064)) (.int 1))) (.int 16)), .int 0), false)
noncomputable def zf98zd_26 : sQ × Bool := ((2, .int 65535, .op1 .l2i (.op2 .lushr (.elem (.arg 1761) (.add (.add (.arg 60000) (.arg 60064)) (.int 1))) (.int 16))), false)
noncomputable def zf98zd_27 : sQ × Bool := ((8, .op1 .i2l (.arg 60064), .arg 60033), true)
noncomputable def q_rdiLEs1 : sCut := ((fr 0 144 10 [(0, tr 60), (1, .arg 60000), (2, tr 61), (3, tr 62), (4, .arg 60032), (5, .arg 60096), (6, .arg 60033), (8, .arg 60064)] [], [fBot], 3), (fr 0 284 0 [(0, .int 0)] [], [fBot], 3), [zf98zd_24, zf98zd_25, zf98zd_26, zf98zd_27, zf98zd_16, zf98zd_17, zf98zd_18, zf98zd_19, zf98zd_22, zf98zd_0, zf98zd_1, zf98zd_2, zf98zd_3, zf98zd_4, zf98zd_5, zf98zd_6, zf98zd_7, zf98zd_8, zf98zd_9], [])
theorem k_rdiLEs1 : cbody kR [(zWP, c_sloc)] (cpl1 zWP c_rdi [q_rdiS1]) (cpl2 zWP c_rdi [q_rdiS1]) (cleaf kR zWP c_rdi [q_rdiS1]) 60 true false q_rdiLEs1.2.2.1 q_rdiLEs1.2.2.2 (cst zWP c_rdi.2.2.1.1 q_rdiLEs1.1) (cst zWP c_rdi.2.2.1.2 q_rdiLEs1.2.1) = true := by decide +kernel
theorem t_rdiLEs1 {X : pX} {ρ0 : sR} (hv : vok X ρ0) (hk_ : CUTOK X kR zWP c_rdi 3 ρ0 q_rdiLL) : CUTOK X kR zWP c_rdi 3 ρ0 q_rdiLEs1 := CUT_run kR_x kR_0 (Cs := [(zWP, c_sloc)]) (fun C hC => by rw [List.mem_singleton.mp hC]; exact s_sloc) c_rdi_f (Q := [q_rdiS1]) hv (fun q hq => by
    simp only [List.mem_cons, List.not_mem_nil, or_false] at hq
    rw [hq]; exact t_rdiS1 hv hk_) 60 (b1 := true) (b2 := false) k_rdiLEs1
noncomputable def zf98zd_28 : sQ × Bool := ((8, .op1 .i2l (.arg 60064), .arg 60033), false)
noncomputable def q_rdiLEs0 : sCut := ((fr 0 144 10 [(0, tr 60), (1, .arg 60000), (2, tr 61), (3, tr 62), (4, .arg 60032), (5, .arg 60096), (6, .arg 60033), (8, .arg 60064)] [], [fBot], 3), (fr 0 284 0 [(0, .int 0)] [], [fBot], 3), [zf98zd_21, zf98zd_28, zf98zd_16, zf98zd_17, zf98zd_18, zf98zd_19, zf98zd_22, zf98zd_0, zf98zd_1, zf98zd_2, zf98zd_3, zf98zd_4, zf98zd_5, zf98zd_6, zf98zd_7, zf98zd_8, zf98zd_9], [])
theorem k_rdiLEs0 : cbody kR [(zWP, c_sloc)] (cpl1 zWP c_rdi [q_rdiS0]) (cpl2 zWP c_rdi [q_rdiS0]) (cleaf kR zWP c_rdi [q_rdiS0]) 60 true false q_rdiLEs0.2.2.1 q_rdiLEs0.2.2.2 (cst zWP c_rdi.2.2.1.1 q_rdiLEs0.1) (cst zWP c_rdi.2.2.1.2 q_rdiLEs0.2.1) = true := by decide +kernel
theorem t_rdiLEs0 {X : pX} {ρ0 : sR} (hv : vok X ρ0) (hk_ : CUTOK X kR zWP c_rdi 3 ρ0 q_rdiLL) : CUTOK X kR zWP c_rdi 3 ρ0 q_rdiLEs0 := CUT_run kR_x kR_0 (Cs := [(zWP, c_sloc)]) (fun C hC => by rw [List.mem_singleton.mp hC]; exact s_sloc) c_rdi_f (Q := [q_rdiS0]) hv (fun q hq => by
    simp only [List.mem_cons, List.not_mem_nil, or_false] at hq
    rw [hq]; exact t_rdiS0 hv hk_) 60 (b1 := true) (b2 := false) k_rdiLEs0
theorem t_rdiLE {X : pX} {ρ0 : sR} (hv : vok X ρ0) (hk_ : CUTOK X kR zWP c_rdi 3 ρ0 q_rdiLL) : CUTOK X kR zWP c_rdi 3 ρ0 q_rdiLE := fun ρ k1 hF hI k4 => by
  have i0 : (0 : Int) ≤ (ρ.1 60064).toInt := ri_lf (x := ρ.1 60064) (y := 0) (hF.2 _ (List.mem_cons_of_mem _ (List.mem_cons_of_mem _ (List.mem_cons_of_mem _ (List.mem_cons_self)))))
  have i4 : (ρ.1 60064).toInt ≤ 4 := ri_lf (x := 4) (y := ρ.1 60064) (hF.2 _ (List.mem_cons_of_mem _ (List.mem_cons_of_mem _ (List.mem_cons_of_mem _ (List.mem_cons_of_mem _ (List.mem_cons_self))))))
  have p0 : (50 : Int) ≤ (ρ.1 60000).toInt := ri_lf (x := ρ.1 60000) (y := 50) (hF.2 _ (List.mem_cons_of_mem _ (List.mem_cons_of_mem _ (List.mem_cons_of_mem _ (List.mem_cons_of_mem _ (List.mem_cons_of_mem _ (List.mem_cons_of_mem _ (List.mem_cons_self))))))))
  have p1 : (ρ.1 60000).toInt ≤ 65 := ri_lf (x := 65) (y := ρ.1 60000) (hF.2 _ (List.mem_cons_of_mem _ (List.mem_cons_of_mem _ (List.mem_cons_of_mem _ (List.mem_cons_of_mem _ (List.mem_cons_of_mem _ (List.mem_cons_of_mem _ (List.mem_cons_of_mem _ (List.mem_cons_self)))))))))
  have eg : (4 : Int32) - ρ.1 60064 = ρ.1 64032 := of_decide_eq_true (hF.2 _ (List.mem_cons_self))
  by_cases h4 : (ρ.1 60064).toInt = 4
  · have h4 : ρ.1 60064 = 4 := Int32.toInt_inj.mp h4
    have hn : sc X ρ (140, .add (.elem (.arg 1761) (.int 0)) (.add (.arg 60000) (.add (.elem (.arg 24512) (.int 0)) (.add (.elem (.arg 2404) (.int 0)) (.add (.arg 60032) (.arg 60096))))), .int 4) = true := by
      have := hF.2 _ (List.mem_cons_of_mem _ (List.mem_cons_self))
      show amapn (ρ.2.2.2.1 1761) (ρ.1 60000).toInt.toNat (ρ.1 60032).toInt.toNat (4 : Int32).toInt.toNat (ρ.2.2.1 24512) (ρ.2.2.1 2404) (ρ.1 60096).toInt = true
      rw [← h4]
      exact this
    exact t_rdiLEe hv hk_ ρ k1 ⟨hF.1, fcn (decide_eq_true h4) (fcn (hn) (hF.2))⟩ hI k4
  have z1 : (1 : Int32).toInt = 1 := rfl
  have z0 : (0 : Int32).toInt = 0 := rfl
  have z4 : (4 : Int32).toInt = 4 := rfl
  have e1 : (ρ.1 60064 + 1).toInt = (ρ.1 60064).toInt + 1 := s_add (by rw [z1]; omega) (by rw [z1]; omega)
  have n1 : sc X ρ (2, .sub (.int 4) (.add (.arg 60064) (.int 1)), .arg 64032) = true := decide_eq_true (show (4 : Int32) - (ρ.1 60064 + 1) < ρ.1 64032 by
    rw [← eg, Int32.lt_iff_toInt_lt, s_sub (by rw [e1, z4]; omega) (by rw [e1, z4]; omega), s_sub (by rw [z4]; omega) (by rw [z4]; omega), e1]
    omega)
  have n2 := di_lf (x := ρ.1 60064 + 1) (y := 0) (by rw [e1, z0]; omega)
  have n3 := di_lf (x := 4) (y := ρ.1 60064 + 1) (by rw [e1, z4]; omega)
  have n4 := di_lt (x := ρ.1 60064) (y := 4) (by rw [z4]; omega)
  have en := rd_n.mp (hF.2 _ (List.mem_cons_of_mem _ (List.mem_cons_of_mem _ (List.mem_cons_of_mem _ (List.mem_cons_of_mem _ (List.mem_cons_of_mem _ (List.mem_cons_self)))))))
  by_cases hc : sc X ρ (8, .op1 .i2l (.arg 60064), .arg 60033) = true
  · have ei : (ρ.1 60000 + ρ.1 60064 + 1).toNatClampNeg = (ρ.1 60000).toInt.toNat + 1 + (ρ.1 60064).toInt.toNat := by
      have e2 : (ρ.1 60000 + ρ.1 60064).toInt = (ρ.1 60000).toInt + (ρ.1 60064).toInt := s_add (by omega) (by omega)
      rw [s_nat, s_add (by rw [e2, z1]; omega) (by rw [e2, z1]; omega), e2, z1]
      omega
    have hb := rd_b (hF.2 _ (List.mem_cons_of_mem _ (List.mem_cons_of_mem _ (List.mem_cons_of_mem _ (List.mem_cons_of_mem _ (List.mem_cons_of_mem _ (List.mem_cons_of_mem _ (List.mem_cons_of_mem _ (List.mem_cons_of_mem _ (List.mem_cons_of_mem _ (List.mem_cons_of_mem _ (List.mem_cons_self)))))))))))) (m := (ρ.1 60000).toInt.toNat) (i := (ρ.1 60064).toInt.toNat) (by omega) (by omega)
    rw [← ei] at hb
    have u1 := us_16 hb.1 hb.2
    have cm : (ρ.1 60064).toInt < (ρ.2.1 60033).toInt := by have := rl_lt (x := (ρ.1 60064).toInt64) (y := ρ.2.1 60033) hc; rwa [Int32.toInt_toInt64] at this
    have h6 : sc X ρ (146, .add (.elem (.arg 1761) (.int 0)) (.add (.arg 60000) (.arg 60064)), .elem (.arg 1761) (.add (.add (.arg 60000) (.arg 60064)) (.int 1))) = true := decide_eq_true (show (ρ.2.2.2.1 1761 (ρ.1 60000 + ρ.1 60064 + 1).toNatClampNeg).toInt = mrow (ρ.2.2.2.1 1761) (ρ.1 60000).toInt.toNat (ρ.1 60064).toInt.toNat by
      unfold mrow
      rw [if_pos (by omega), ei])
    exact t_rdiLEs1 hv hk_ ρ k1 ⟨hF.1, fcn (h6) (fcn (di_lf (x := (s2 .lushr (0, ρ.2.2.2.1 1761 (ρ.1 60000 + ρ.1 60064 + 1).toNatClampNeg) (16, 0)).2.toInt32) (y := 0) (by rw [u1.1, z0]; omega)) (fcn (di_lf (x := 65535) (y := (s2 .lushr (0, ρ.2.2.2.1 1761 (ρ.1 60000 + ρ.1 60064 + 1).toNatClampNeg) (16, 0)).2.toInt32) (by rw [u1.1, show (65535 : Int32).toInt = 65535 from rfl]; omega)) (fcn (hc) (fcn (n4) (fcn (n1) (fcn (n2) (fcn (n3) (hF.2))))))))⟩ hI k4
  · have hc := Bool.not_eq_true _ ▸ hc
    have cm : ¬ (ρ.1 60064).toInt < (ρ.2.1 60033).toInt := by have := rl_lf (x := (ρ.1 60064).toInt64) (y := ρ.2.1 60033) hc; rw [Int32.toInt_toInt64] at this; omega
    have h6 : sc X ρ (146, .add (.elem (.arg 1761) (.int 0)) (.add (.arg 60000) (.arg 60064)), .long 0) = true := decide_eq_true (show (0 : Int64).toInt = mrow (ρ.2.2.2.1 1761) (ρ.1 60000).toInt.toNat (ρ.1 60064).toInt.toNat by
      unfold mrow
      rw [if_neg (by omega)]
      rfl)
    exact t_rdiLEs0 hv hk_ ρ k1 ⟨hF.1, fcn (h6) (fcn (hc) (fcn (n4) (fcn (n1) (fcn (n2) (fcn (n3) (hF.2))))))⟩ hI k4
theorem t_rdiL {X : pX} {ρ0 : sR} (hv : vok X ρ0) : CUTOK X kR zWP c_rdi 3 ρ0 q_rdiL := CUT_again (g := 64032) (mt := .sub (.int 4) (.arg 60064)) kR_x (by decide +kernel) (by decide) (by decide) (by decide) (by decide +kernel) (by decide +kernel) (by decide +kernel) (by decide +kernel) (by decide +kernel) (fun ρ0 hv hk => t_rdiLE hv hk) ρ0 hv
noncomputable def q_rdi0T : sCut := ((fr 0 144 10 [(0, tr 60), (1, .arg 60000), (2, tr 61), (3, tr 62), (4, .arg 60032), (5, .arg 60096), (6, .arg 60033), (8, .arg 60064)] [], [fBot], 3), (fr 0 284 0 [(0, .int 0)] [], [fBot], 3), [zf98zd_2, zf98zd_3, zf98zd_5, zf98zd_6, zf98zd_7, zf98zd_8, zf98zd_9, zf98zd_1], [])
noncomputable def q_rdi0 : sCut := ((fr 0 144 0 [(0, tr 60), (1, .arg 60000), (2, tr 61), (3, tr 62), (4, .arg 60032)] [], [fBot], 3), (fr 0 284 0 [(0, .int 0)] [], [fBot], 3), [zf98zd_9, zf98zd_1, zf98zd_5, zf98zd_6, zf98zd_7, zf98zd_8], [])
noncomputable def w_rdi0 : List (sCut × List (Nat × sT) × List (Nat × sT × List (sT × sT))) := [(q_rdi0T, [(60064, .int 0), (60096, .int 0), (60033, .elem (.arg 1761) (.arg 60000))], [])]
theorem k_rdi0 : cbody kR [] (cpl1 zWP c_rdi [q_rdi0T]) (cpl2 zWP c_rdi [q_rdi0T]) (cleafB kR zWP c_rdi w_rdi0) 40 true false q_rdi0.2.2.1 q_rdi0.2.2.2 (cst zWP c_rdi.2.2.1.1 q_rdi0.1) (cst zWP c_rdi.2.2.1.2 q_rdi0.2.1) = true := by decide +kernel
theorem t_rdi0 {X : pX} {ρ0 : sR} (hv : vok X ρ0) : CUTOK X kR zWP c_rdi 3 ρ0 q_rdi0 := CUTOK_AT (fun ρ k1 hF hI k4 => AT_of (q := q_rdi0) rfl rfl (SEM_runB kR_x kR_0 (Cs := []) (fun C hC => by cases hC) c_rdi_f (Q := w_rdi0) hv 40 (b1 := true) (b2 := false) k_rdi0 k1 hF hI k4 (fun p hp ρ3 m1 m2 m3 m4 m5 m6 => by
  rw [List.mem_singleton.mp hp] at m2 m3 m5 m6 ⊢
  have t1 : ρ3.1 60064 = 0 := congrArg Prod.fst (m5 _ (List.mem_cons_self))
  have t2 : ρ3.1 60096 = 0 := congrArg Prod.fst (m5 _ (List.mem_cons_of_mem _ (List.mem_cons_self)))
  have t3 : ρ3.2.1 60033 = ρ.2.2.2.1 1761 (ρ.1 60000).toNatClampNeg := congrArg Prod.snd (m5 _ (List.mem_cons_of_mem _ (List.mem_cons_of_mem _ (List.mem_cons_self))))
  have eV : ρ3.2.2.2.1 1761 = ρ.2.2.2.1 1761 := (m4.2 1761 (by decide) (by decide)).2.trans (k4.2 1761 (by decide) (by decide)).2.symm
  have e0 : ρ3.1 60000 = ρ.1 60000 := (m4.1 60000 (by decide) (by decide)).1.trans (k4.1 60000 (by decide) (by decide)).1.symm
  have x119 := (rd_n (X := X)).mpr (show (ρ3.2.1 60033).toInt = (ρ3.2.2.2.1 1761 (ρ3.1 60000).toInt.toNat).toInt by rw [t3, eV, e0, s_nat])
  have x140 : sc X ρ3 (140, .add (.elem (.arg 1761) (.int 0)) (.add (.arg 60000) (.add (.elem (.arg 24512) (.int 0)) (.add (.elem (.arg 2404) (.int 0)) (.add (.arg 60032) (.arg 60096))))), .arg 60064) = true := by
    show amapn (ρ3.2.2.2.1 1761) (ρ3.1 60000).toInt.toNat (ρ3.1 60032).toInt.toNat (ρ3.1 60064).toInt.toNat (ρ3.2.2.1 24512) (ρ3.2.2.1 2404) (ρ3.1 60096).toInt = true
    rw [t1, t2]
    exact mp_0
  exact t_rdiL hv ρ3 m1 ⟨m2.1, fcn (x140) (fcn (m2.2 _ (List.mem_cons_of_mem _ (List.mem_cons_of_mem _ (List.mem_cons_of_mem _ (List.mem_cons_of_mem _ (List.mem_cons_of_mem _ (List.mem_cons_of_mem _ (List.mem_cons_of_mem _ (List.mem_cons_self))))))))) (fcn (m2.2 _ (List.mem_cons_self)) (fcn (m2.2 _ (List.mem_cons_of_mem _ (List.mem_cons_self))) (fcn (x119) (fcn (m2.2 _ (List.mem_cons_of_mem _ (List.mem_cons_of_mem _ (List.mem_cons_self)))) (fcn (m2.2 _ (List.mem_cons_of_mem _ (List.mem_cons_of_mem _ (List.mem_cons_of_mem _ (List.mem_cons_self))))) (fcn (m2.2 _ (List.mem_cons_of_mem _ (List.mem_cons_of_mem _ (List.mem_cons_of_mem _ (List.mem_cons_of_mem _ (List.mem_cons_self)))))) (fcn (m2.2 _ (List.mem_cons_of_mem _ (List.mem_cons_of_mem _ (List.mem_cons_of_mem _ (List.mem_cons_of_mem _ (List.mem_cons_of_mem _ (List.mem_cons_self))))))) (fcn (m2.2 _ (List.mem_cons_of_mem _ (List.mem_cons_of_mem _ (List.mem_cons_of_mem _ (List.mem_cons_of_mem _ (List.mem_cons_of_mem _ (List.mem_cons_of_mem _ (List.mem_cons_self)))))))) (fun f hf => by cases hf))))))))))⟩ m3 m4)))
theorem e_rdi : frun kR [] (cpl1 zWP c_rdi [q_rdi0]) (cpl2 zWP c_rdi [q_rdi0]) (cleaf kR zWP c_rdi [q_rdi0]) 10 65536 (isatP (c_rdi.2.2.2.1) c_rdi.2.2.2.2.2.2.2.1) c_rdi.2.2.2.2.2.2.2.1 (sin0 mt_all c_rdi.1.1 3 c_rdi.2.1.1 (foot zWP c_rdi.2.2.1.1)) (sin0 mt_all c_rdi.1.2.1 3 c_rdi.2.1.2 (foot zWP c_rdi.2.2.1.2)) = true := by decide +kernel
theorem s_rdi {X : pX} : SREL X pF pdfl mt_all kR zWP c_rdi := SREL_QC kR_x kR_0 (Cs := []) (fun C hC => by cases hC) (d := 3) rfl c_rdi_f (Q := [q_rdi0]) (fun ρ0 hv => fun q hq => by
    simp only [List.mem_cons, List.not_mem_nil, or_false] at hq
    rw [hq]; exact t_rdi0 hv) (QC_run 10 e_rdi)
/-! ===== a map is read (out), the class alone ===== -/
noncomputable def c_rdo : sC := ((144, 284, 4), ([tr 60, .arg 60000, tr 63, tr 64, .arg 60032], [.int 0]), ([60, 42, 43, 61, 62, 63, 64, 65, 66, 67, 69, 71, 74, 40], []), [((101, .elem (.arg 1761) (.int 0), .int 0), true), ((142, .add (.elem (.arg 1761) (.int 0)) (.add (.arg 2848) (.add (.elem (.arg 24512) (.int 0)) (.add (.elem (.arg 2404) (.int 0)) (.add (.elem (.arg 24544) (.int 0)) (.add (.elem (.arg 2436) (.int 0)) (.add (.arg 5728) (.add (.arg 5760) (.add (.arg 5792) (.add (.arg 5824) (.add (.arg 5856) (.add (.arg 5888) (.add (.arg 5920) (.add (.arg 5952) (.add (.arg 2082) (.add (.arg 2114) (.add (.arg 2146) (.add (.arg 2178) (.add (.arg 6850) (.add (.arg 6882) (.add (.arg 6914) (.add (.arg 6946) (.add (.arg 2210) (.add (.arg 2242) (.add (.arg 2274) (.add (.arg 2306) (.add (.arg 7362) (.add (.arg 7394) (.add (.arg 7426) (.add (.arg 7458) (.add (.arg 2338) (.add (.arg 2370) (.add (.arg 2402) (.add (.arg 2434) (.add (.arg 7874) (.add (.arg 7906) (.add (.arg 7938) (.add (.arg 7970) (.add (.arg 6240) (.add (.arg 6272) (.add (.arg 6304) (.add (.arg 6336) (.add (.arg 21216) (.add (.arg 21248) (.add (.arg 21280) (.add (.arg 21312) (.add (.arg 1570) (.add (.arg 1602) (.add (.arg 6466) (.arg 6498))))))))))))))))))))))))))))))))))))))))))))))))), .arg 60032), true), ((2, .arg 60000, .int 90), false), ((2, .int 105, .arg 60000), false), ((2, .arg 60032, .int 0), false), ((2, .int 12, .arg 60032), false)], ([60064, 60096, 60128, 60160, 60033, 60065], [24544, 2436]), (some (.arg 60096), some (.int 0)), [((101, .elem (.arg 1761) (.int 0), .int 0), true), ((142, .add (.elem (.arg 1761) (.int 0)) (.add (.arg 2848) (.add (.elem (.arg 24512) (.int 0)) (.add (.elem (.arg 2404) (.int 0)) (.add (.elem (.arg 24544) (.int 0)) (.add (.elem (.arg 2436) (.int 0)) (.add (.arg 5728) (.add (.arg 5760) (.add (.arg 5792) (.add (.arg 5824) (.add (.arg 5856) (.add (.arg 5888) (.add (.arg 5920) (.add (.arg 5952) (.add (.arg 2082) (.add (.arg 2114) (.add (.arg 2146) (.add (.arg 2178) (.add (.arg 6850) (.add (.arg 6882) (.add (.arg 6914) (.add (.arg 6946) (.add (.arg 2210) (.add (.arg 2242) (.add (.arg 2274) (.add (.arg 2306) (.add (.arg 7362) (.add (.arg 7394) (.add (.arg 7426) (.add (.arg 7458) (.add (.arg 2338) (.add (.arg 2370) (.add (.arg 2402) (.add (.arg 2434) (.add (.arg 7874) (.add (.arg 7906) (.add (.arg 7938) (.add (.arg 7970) (.add (.arg 6240) (.add (.arg 6272) (.add (.arg 6304) (.add (.arg 6336) (.add (.arg 21216) (.add (.arg 21248) (.add (.arg 21280) (.add (.arg 21312) (.add (.arg 1570) (.add (.arg 1602) (.add (.arg 6466) (.arg 6498))))))))))))))))))))))))))))))))))))))))))))))))), .arg 60032), true), ((140, .add (.elem (.arg 1761) (.int 0)) (.add (.arg 60000) (.add (.elem (.arg 24544) (.int 0)) (.add (.elem (.arg 2436) (.int 0)) (.add (.arg 60032) (.arg 60096))))), .int 4), true)], ([], []))
theorem c_rdo_f : cfine zWP 65536 c_rdo = true := by decide +kernel
noncomputable def zf98zd_29 : sQ × Bool := ((140, .add (.elem (.arg 1761) (.int 0)) (.add (.arg 60000) (.add (.elem (.arg 24544) (.int 0)) (.add (.elem (.arg 2436) (.int 0)) (.add (.arg 60032) (.arg 60096))))), .arg 60064), true)
noncomputable def zf98zd_30 : sQ × Bool := ((142, .add (.elem (.arg 1761) (.int 0)) (.add (.arg 2848) (.add (.elem (.arg 24512) (.int 0)) (.add (.elem (.arg 2404) (.int 0)) (.add (.elem (.arg 24544) (.int 0)) (.add (.elem (.arg 2436) (.int 0)) (.add (.arg 5728) (.add (.arg 5760) (.add (.arg 5792) (.add (.arg 5824) (.add (.arg 5856) (.add (.arg 5888) (.add (.arg 5920) (.add (.arg 5952) (.add (.arg 2082) (.add (.arg 2114) (.add (.arg 2146) (.add (.arg 2178) (.add (.arg 6850) (.add (.arg 6882) (.add (.arg 6914) (.add (.arg 6946) (.add (.arg 2210) (.add (.arg 2242) (.add (.arg 2274) (.add (.arg 2306) (.add (.arg 7362) (.add (.arg 7394) (.add (.arg 7426) (.add (.arg 7458) (.add (.arg 2338) (.add (.arg 2370) (.add (.arg 2402) (.add (.arg 2434) (.add (.arg 7874) (.add (.arg 7906) (.add (.arg 7938) (.add (.arg 7970) (.add (.arg 6240) (.add (.arg 6272) (.add (.arg 6304) (.add (.arg 6336) (.add (.arg 21216) (.add (.arg 21248) (.add (.arg 21280) (.add (.arg 21312) (.add (.arg 1570) (.add (.arg 1602) (.add (.arg 6466) (.arg 6498))))))))))))))))))))))))))))))))))))))))))))))))), .arg 60032), true)
noncomputable def zf98zd_31 : sQ × Bool := ((2, .arg 60000, .int 90), false)
noncomputable def zf98zd_32 : sQ × Bool := ((2, .int 105, .arg 60000), false)
noncomputable def q_rdoL : sCut := ((fr 0 144 10 [(0, tr 60), (1, .arg 60000), (2, tr 63), (3, tr 64), (4, .arg 60032), (5, .arg 60096), (6, .arg 60033), (8, .arg 60064)] [], [fBot], 3), (fr 0 284 0 [(0, .int 0)] [], [fBot], 3), [zf98zd_29, zf98zd_30, zf98zd_2, zf98zd_3, zf98zd_4, zf98zd_31, zf98zd_32, zf98zd_7, zf98zd_8, zf98zd_9], [])
noncomputable def q_rdoLL : sCut := ((fr 0 144 10 [(0, tr 60), (1, .arg 60000), (2, tr 63), (3, tr 64), (4, .arg 60032), (5, .arg 60096), (6, .arg 60033), (8, .arg 60064)] [], [fBot], 3), (fr 0 284 0 [(0, .int 0)] [], [fBot], 3), [zf98zd_10, zf98zd_29, zf98zd_30, zf98zd_2, zf98zd_3, zf98zd_4, zf98zd_31, zf98zd_32, zf98zd_7, zf98zd_8, zf98zd_9], [])
noncomputable def q_rdoLT : sCut := ((fr 0 144 10 [(0, tr 60), (1, .arg 60000), (2, tr 63), (3, tr 64), (4, .arg 60032), (5, .arg 60096), (6, .arg 60033), (8, .arg 60064)] [], [fBot], 3), (fr 0 284 0 [(0, .int 0)] [], [fBot], 3), [zf98zd_10, zf98zd_2, zf98zd_3, zf98zd_4, zf98zd_31, zf98zd_32, zf98zd_7, zf98zd_8, zf98zd_9], [])
noncomputable def q_rdoS1 : sCut := ((fr 0 144 45 [(0, tr 60), (1, .arg 60000), (2, tr 63), (3, tr 64), (4, .arg 60032), (5, .arg 60096), (6, .arg 60033), (8, .arg 60064), (9, .arg 60065)] [.arg 60128, .arg 60160, tr 63], [fBot], 3), (fr 0 284 0 [(0, .int 0)] [], [fBot], 3), [zf98zd_11, zf98zd_12, zf98zd_13, zf98zd_14, zf98zd_15, zf98zd_16, zf98zd_17, zf98zd_18, zf98zd_19, zf98zd_29, zf98zd_30, zf98zd_2, zf98zd_3, zf98zd_4, zf98zd_31, zf98zd_32, zf98zd_7, zf98zd_8, zf98zd_9], [])
noncomputable def w_rdoS1 : List (sCut × List (Nat × sT) × List (Nat × sT × List (sT × sT))) := [(q_rdoLT, [(60064, .add (.arg 60064) (.int 1)), (60096, .add (.arg 60096) (.op2 .iand (.op1 .l2i (.arg 60065)) (.int 255))), (60033, .arg 60033)], [(24544, .arg 24544, [(.arg 60160, .arg 60128)]), (2436, .arg 2436, [(.add (.arg 60032) (.arg 60064), .op2 .iand (.op1 .l2i (.arg 60065)) (.int 255))])])]
theorem k_rdoS1 : cbody kR [] (cpl1 zWP c_rdo [q_rdoLT]) (cpl2 zWP c_rdo [q_rdoLT]) (cleafB kR zWP c_rdo w_rdoS1) 60 true false q_rdoS1.2.2.1 q_rdoS1.2.2.2 (cst zWP c_rdo.2.2.1.1 q_rdoS1.1) (cst zWP c_rdo.2.2.1.2 q_rdoS1.2.1) = true := by decide +kernel
theorem t_rdoS1 {X : pX} {ρ0 : sR} (hv : vok X ρ0) (hk_ : CUTOK X kR zWP c_rdo 3 ρ0 q_rdoLL) : CUTOK X kR zWP c_rdo 3 ρ0 q_rdoS1 := CUTOK_AT (fun ρ k1 hF hI k4 => AT_of (q := q_rdoS1) rfl rfl (SEM_runB kR_x kR_0 (Cs := []) (fun C hC => by cases hC) c_rdo_f (Q := w_rdoS1) hv 60 (b1 := true) (b2 := false) k_rdoS1 k1 hF hI k4 (fun p hp ρ3 m1 m2 m3 m4 m5 m6 => by
  rw [List.mem_singleton.mp hp] at m2 m3 m5 m6 ⊢
  have h140 : amapn (ρ.2.2.2.1 1761) (ρ.1 60000).toInt.toNat (ρ.1 60032).toInt.toNat (ρ.1 60064).toInt.toNat (ρ.2.2.1 24544) (ρ.2.2.1 2436) (ρ.1 60096).toInt = true := hF.2 _ (List.mem_cons_of_mem _ (List.mem_cons_of_mem _ (List.mem_cons_of_mem _ (List.mem_cons_of_mem _ (List.mem_cons_of_mem _ (List.mem_cons_of_mem _ (List.mem_cons_of_mem _ (List.mem_cons_of_mem _ (List.mem_cons_of_mem _ (List.mem_cons_self))))))))))
  have i0 : (0 : Int) ≤ (ρ.1 60064).toInt := ri_lf (x := ρ.1 60064) (y := 0) (hF.2 _ (List.mem_cons_of_mem _ (List.mem_cons_of_mem _ (List.mem_cons_of_mem _ (List.mem_cons_of_mem _ (List.mem_cons_of_mem _ (List.mem_cons_of_mem _ (List.mem_cons_of_mem _ (List.mem_cons_of_mem _ (List.mem_cons_of_mem _ (List.mem_cons_of_mem _ (List.mem_cons_of_mem _ (List.mem_cons_self)))))))))))))
  have i4 : (ρ.1 60064).toInt < 4 := ri_lt (x := ρ.1 60064) (y := 4) (hF.2 _ (List.mem_cons_of_mem _ (List.mem_cons_of_mem _ (List.mem_cons_of_mem _ (List.mem_cons_of_mem _ (List.mem_cons_of_mem _ (List.mem_cons_self)))))))
  have p0 : (90 : Int) ≤ (ρ.1 60000).toInt := ri_lf (x := ρ.1 60000) (y := 90) (hF.2 _ (List.mem_cons_of_mem _ (List.mem_cons_of_mem _ (List.mem_cons_of_mem _ (List.mem_cons_of_mem _ (List.mem_cons_of_mem _ (List.mem_cons_of_mem _ (List.mem_cons_of_mem _ (List.mem_cons_of_mem _ (List.mem_cons_of_mem _ (List.mem_cons_of_mem _ (List.mem_cons_of_mem _ (List.mem_cons_of_mem _ (List.mem_cons_of_mem _ (List.mem_cons_of_mem _ (List.mem_cons_self))))))))))))))))
  have p1 : (ρ.1 60000).toInt ≤ 105 := ri_lf (x := 105) (y := ρ.1 60000) (hF.2 _ (List.mem_cons_of_mem _ (List.mem_cons_of_mem _ (List.mem_cons_of_mem _ (List.mem_cons_of_mem _ (List.mem_cons_of_mem _ (List.mem_cons_of_mem _ (List.mem_cons_of_mem _ (List.mem_cons_of_mem _ (List.mem_cons_of_mem _ (List.mem_cons_of_mem _ (List.mem_cons_of_mem _ (List.mem_cons_of_mem _ (List.mem_cons_of_mem _ (List.mem_cons_of_mem _ (List.mem_cons_of_mem _ (List.mem_cons_self)))))))))))))))))
  have a0 : (0 : Int) ≤ (ρ.1 60032).toInt := ri_lf (x := ρ.1 60032) (y := 0) (hF.2 _ (List.mem_cons_of_mem _ (List.mem_cons_of_mem _ (List.mem_cons_of_mem _ (List.mem_cons_of_mem _ (List.mem_cons_of_mem _ (List.mem_cons_of_mem _ (List.mem_cons_of_mem _ (List.mem_cons_of_mem _ (List.mem_cons_of_mem _ (List.mem_cons_of_mem _ (List.mem_cons_of_mem _ (List.mem_cons_of_mem _ (List.mem_cons_of_mem _ (List.mem_cons_of_mem _ (List.mem_cons_of_mem _ (List.mem_cons_of_mem _ (List.mem_cons_self))))))))))))))))))
  have a1 : (ρ.1 60032).toInt ≤ 12 := ri_lf (x := 12) (y := ρ.1 60032) (hF.2 _ (List.mem_cons_of_mem _ (List.mem_cons_of_mem _ (List.mem_cons_of_mem _ (List.mem_cons_of_mem _ (List.mem_cons_of_mem _ (List.mem_cons_of_mem _ (List.mem_cons_of_mem _ (List.mem_cons_of_mem _ (List.mem_cons_of_mem _ (List.mem_cons_of_mem _ (List.mem_cons_of_mem _ (List.mem_cons_of_mem _ (List.mem_cons_of_mem _ (List.mem_cons_of_mem _ (List.mem_cons_of_mem _ (List.mem_cons_of_mem _ (List.mem_cons_of_mem _ (List.mem_cons_self)))))))))))))))))))
  obtain ⟨b0, b1⟩ := mp_b h140
  have el : (ρ.1 60032 + ρ.1 60064).toInt = (ρ.1 60032).toInt + (ρ.1 60064).toInt := s_add (by omega) (by omega)
  have ep : ρ.1 60032 + ρ.1 60064 = ρ.1 60160 := of_decide_eq_true (hF.2 _ (List.mem_cons_of_mem _ (List.mem_cons_self)))
  have hn : (ρ.1 60032 + ρ.1 60064).toNatClampNeg = (ρ.1 60032).toInt.toNat + (ρ.1 60064).toInt.toNat := by rw [s_nat, el]; omega
  have hr : mrow (ρ.2.2.2.1 1761) (ρ.1 60000).toInt.toNat (ρ.1 60064).toInt.toNat = (ρ.2.1 60065).toInt := (of_decide_eq_true (hF.2 _ (List.mem_cons_of_mem _ (List.mem_cons_of_mem _ (List.mem_cons_of_mem _ (List.mem_cons_of_mem _ (List.mem_cons_self))))))).symm
  have hb := rd_m (hF.2 _ (List.mem_cons_of_mem _ (List.mem_cons_of_mem _ (List.mem_cons_of_mem _ (List.mem_cons_of_mem _ (List.mem_cons_of_mem _ (List.mem_cons_of_mem _ (List.mem_cons_of_mem _ (List.mem_cons_of_mem _ (List.mem_cons_of_mem _ (List.mem_cons_of_mem _ (List.mem_cons_of_mem _ (List.mem_cons_of_mem _ (List.mem_cons_of_mem _ (List.mem_cons_of_mem _ (List.mem_cons_of_mem _ (List.mem_cons_of_mem _ (List.mem_cons_of_mem _ (List.mem_cons_of_mem _ (List.mem_cons_self)))))))))))))))))))) (m := (ρ.1 60000).toInt.toNat) (i := (ρ.1 60064).toInt.toNat) (by omega) (by omega)
  rw [hr] at hb
  have u1 := us_16 hb.1 hb.2
  have u2 := us_8 hb.1
  have h9 : (ρ.1 60128).toInt = aslot ((s2 .lushr (0, ρ.2.1 60065) (16, 0)).2.toInt32).toInt ((s2 .lushr (0, ρ.2.1 60065) (8, 0)).2.toInt32 &&& 255).toInt := of_decide_eq_true (hF.2 _ (List.mem_cons_self))
  rw [u1.1, u2] at h9
  have hw : ((ρ.2.1 60065).toInt32 &&& 255).toInt = (ρ.2.1 60065).toInt % 256 := us_ia
  have bw : (ρ.1 60096 + ((ρ.2.1 60065).toInt32 &&& 255)).toInt = (ρ.1 60096).toInt + (ρ.2.1 60065).toInt % 256 := by rw [s_add (by rw [hw]; omega) (by rw [hw]; omega), hw]
  have t1 : ρ3.1 60064 = ρ.1 60064 + 1 := congrArg Prod.fst (m5 _ (List.mem_cons_self))
  have t2 : ρ3.1 60096 = ρ.1 60096 + ((ρ.2.1 60065).toInt32 &&& 255) := congrArg Prod.fst (m5 _ (List.mem_cons_of_mem _ (List.mem_cons_self)))
  have e1 : (ρ3.1 60064).toInt.toNat = (ρ.1 60064).toInt.toNat + 1 := by
    have z1 : (1 : Int32).toInt = 1 := rfl
    rw [t1, s_add (by rw [z1]; omega) (by rw [z1]; omega), z1]
    omega
  have ss := fun j => ad_i (X := X) (ρ := ρ) (ρ3 := ρ3) (a := 24544) (p := .arg 60160) (t := .arg 60128) (m6 _ (List.mem_cons_self)) (by decide) rfl j
  have ww := fun j => ad_i (X := X) (ρ := ρ) (ρ3 := ρ3) (a := 2436) (p := .add (.arg 60032) (.arg 60064)) (t := .op2 .iand (.op1 .l2i (.arg 60065)) (.int 255)) (m6 _ (List.mem_cons_of_mem _ (List.mem_cons_self))) (by decide) rfl j
  have ss : ∀ j, ρ3.2.2.1 24544 j = if (ρ.1 60160).toNatClampNeg = j then ρ.1 60128 else ρ.2.2.1 24544 j := ss
  have ww : ∀ j, ρ3.2.2.1 2436 j = if (ρ.1 60032 + ρ.1 60064).toNatClampNeg = j then ((ρ.2.1 60065).toInt32 &&& 255) else ρ.2.2.1 2436 j := ww
  rw [← ep, hn] at ss
  rw [hn] at ww
  have ag : ∀ u : Nat, u ∈ ([2848, 5728, 5760, 5792, 5824, 5856, 5888, 5920, 5952, 2082, 2114, 2146, 2178, 6850, 6882, 6914, 6946, 2210, 2242, 2274, 2306, 7362, 7394, 7426, 7458, 2338, 2370, 2402, 2434, 7874, 7906, 7938, 7970, 6240, 6272, 6304, 6336, 21216, 21248, 21280, 21312, 1570, 1602, 6466, 6498, 60000, 60032] : List Nat) → ρ3.1 u = ρ.1 u := fun u hu => by
    have hu6 := List.all_eq_true.mp rd_s u hu
    simp only [Bool.and_eq_true, Bool.not_eq_true', decide_eq_true_eq] at hu6
    have q : u ∉ ([60064, 60096, 60128, 60160, 60033, 60065] : List Nat) := fun r => by rw [List.contains_iff_mem.mpr r] at hu6; cases hu6.2
    exact (m4.1 u hu6.1 q).1.trans (k4.1 u hu6.1 q).1.symm
  have eV : ρ3.2.2.2.1 1761 = ρ.2.2.2.1 1761 := (m4.2 1761 (by decide) (by decide)).2.trans (k4.2 1761 (by decide) (by decide)).2.symm
  have x140 : sc X ρ3 (140, .add (.elem (.arg 1761) (.int 0)) (.add (.arg 60000) (.add (.elem (.arg 24544) (.int 0)) (.add (.elem (.arg 2436) (.int 0)) (.add (.arg 60032) (.arg 60096))))), .arg 60064) = true := by
    show amapn (ρ3.2.2.2.1 1761) (ρ3.1 60000).toInt.toNat (ρ3.1 60032).toInt.toNat (ρ3.1 60064).toInt.toNat (ρ3.2.2.1 24544) (ρ3.2.2.1 2436) (ρ3.1 60096).toInt = true
    rw [eV, ag 60000 (by decide), ag 60032 (by decide), e1, t2]
    refine mp_1 h140 (fun j hj => ?_) (fun j hj => ?_) ?_ ?_ ?_
    · rw [ss, if_neg (by omega)]
    · rw [ww, if_neg (by omega)]
    · rw [ss, if_pos rfl, hr]; exact h9
    · rw [ww, if_pos rfl, hr]; exact hw
    · rw [hr]; exact bw
  have xx : sc X ρ3 (142, .add (.elem (.arg 1761) (.int 0)) (.add (.arg 2848) (.add (.elem (.arg 24512) (.int 0)) (.add (.elem (.arg 2404) (.int 0)) (.add (.elem (.arg 24544) (.int 0)) (.add (.elem (.arg 2436) (.int 0)) (.add (.arg 5728) (.add (.arg 5760) (.add (.arg 5792) (.add (.arg 5824) (.add (.arg 5856) (.add (.arg 5888) (.add (.arg 5920) (.add (.arg 5952) (.add (.arg 2082) (.add (.arg 2114) (.add (.arg 2146) (.add (.arg 2178) (.add (.arg 6850) (.add (.arg 6882) (.add (.arg 6914) (.add (.arg 6946) (.add (.arg 2210) (.add (.arg 2242) (.add (.arg 2274) (.add (.arg 2306) (.add (.arg 7362) (.add (.arg 7394) (.add (.arg 7426) (.add (.arg 7458) (.add (.arg 2338) (.add (.arg 2370) (.add (.arg 2402) (.add (.arg 2434) (.add (.arg 7874) (.add (.arg 7906) (.add (.arg 7938) (.add (.arg 7970) (.add (.arg 6240) (.add (.arg 6272) (.add (.arg 6304) (.add (.arg 6336) (.add (.arg 21216) (.add (.arg 21248) (.add (.arg 21280) (.add (.arg 21312) (.add (.arg 1570) (.add (.arg 1602) (.add (.arg 6466) (.arg 6498))))))))))))))))))))))))))))))))))))))))))))))))), .arg 60032) = true := pu_o (a := (ρ.1 60032).toInt.toNat) (n := (ρ.1 60064).toInt.toNat) (hF.2 _ (List.mem_cons_of_mem _ (List.mem_cons_of_mem _ (List.mem_cons_of_mem _ (List.mem_cons_of_mem _ (List.mem_cons_of_mem _ (List.mem_cons_of_mem _ (List.mem_cons_of_mem _ (List.mem_cons_of_mem _ (List.mem_cons_of_mem _ (List.mem_cons_of_mem _ (List.mem_cons_self)))))))))))) (show (ρ3.1 60032).toInt = (ρ.1 60032).toInt by rw [ag 60032 (by decide)]) (show (ρ.1 60032).toInt = _ by omega) (by omega) (fun u hu => ag u (List.mem_append_left [60000, 60032] hu)) eV ((m4.2 24512 (by decide) (by decide)).1.trans (k4.2 24512 (by decide) (by decide)).1.symm) ((m4.2 2404 (by decide) (by decide)).1.trans (k4.2 2404 (by decide) (by decide)).1.symm) (fun j hj => by rw [ss, if_neg (fun q => hj q.symm)]) (fun j hj => by rw [ww, if_neg (fun q => hj q.symm)])
  exact hk_ ρ3 m1 ⟨m2.1, fcn (m2.2 _ (List.mem_cons_self)) (fcn x140 (fcn xx (fun f hf => m2.2 f (List.mem_cons_of_mem _ hf))))⟩ m3 m4)))
noncomputable def q_rdoS0 : sCut := ((fr 0 144 45 [(0, tr 60), (1, .arg 60000), (2, tr 63), (3, tr 64), (4, .arg 60032), (5, .arg 60096), (6, .arg 60033), (8, .arg 60064), (9, .long 0)] [.arg 60128, .arg 60160, tr 63], [fBot], 3), (fr 0 284 0 [(0, .int 0)] [], [fBot], 3), [zf98zd_20, zf98zd_12, zf98zd_13, zf98zd_14, zf98zd_21, zf98zd_16, zf98zd_17, zf98zd_18, zf98zd_19, zf98zd_29, zf98zd_30, zf98zd_2, zf98zd_3, zf98zd_4, zf98zd_31, zf98zd_32, zf98zd_7, zf98zd_8, zf98zd_9], [])
noncomputable def w_rdoS0 : List (sCut × List (Nat × sT) × List (Nat × sT × List (sT × sT))) := [(q_rdoLT, [(60064, .add (.arg 60064) (.int 1)), (60096, .arg 60096), (60033, .arg 60033)], [(24544, .arg 24544, [(.arg 60160, .arg 60128)]), (2436, .arg 2436, [(.add (.arg 60032) (.arg 60064), .int 0)])])]
theorem k_rdoS0 : cbody kR [] (cpl1 zWP c_rdo [q_rdoLT]) (cpl2 zWP c_rdo [q_rdoLT]) (cleafB kR zWP c_rdo w_rdoS0) 60 true false q_rdoS0.2.2.1 q_rdoS0.2.2.2 (cst zWP c_rdo.2.2.1.1 q_rdoS0.1) (cst zWP c_rdo.2.2.1.2 q_rdoS0.2.1) = true := by decide +kernel
theorem t_rdoS0 {X : pX} {ρ0 : sR} (hv : vok X ρ0) (hk_ : CUTOK X kR zWP c_rdo 3 ρ0 q_rdoLL) : CUTOK X kR zWP c_rdo 3 ρ0 q_rdoS0 := CUTOK_AT (fun ρ k1 hF hI k4 => AT_of (q := q_rdoS0) rfl rfl (SEM_runB kR_x kR_0 (Cs := []) (fun C hC => by cases hC) c_rdo_f (Q := w_rdoS0) hv 60 (b1 := true) (b2 := false) k_rdoS0 k1 hF hI k4 (fun p hp ρ3 m1 m2 m3 m4 m5 m6 => by
  rw [List.mem_singleton.mp hp] at m2 m3 m5 m6 ⊢
  have h140 : amapn (ρ.2.2.2.1 1761) (ρ.1 60000).toInt.toNat (ρ.1 60032).toInt.toNat (ρ.1 60064).toInt.toNat (ρ.2.2.1 24544) (ρ.2.2.1 2436) (ρ.1 60096).toInt = true := hF.2 _ (List.mem_cons_of_mem _ (List.mem_cons_of_mem _ (List.mem_cons_of_mem _ (List.mem_cons_of_mem _ (List.mem_cons_of_mem _ (List.mem_cons_of_mem _ (List.mem_cons_of_mem _ (List.mem_cons_of_mem _ (List.mem_cons_of_mem _ (List.mem_cons_self))))))))))
  have i0 : (0 : Int) ≤ (ρ.1 60064).toInt := ri_lf (x := ρ.1 60064) (y := 0) (hF.2 _ (List.mem_cons_of_mem _ (List.mem_cons_of_mem _ (List.mem_cons_of_mem _ (List.mem_cons_of_mem _ (List.mem_cons_of_mem _ (List.mem_cons_of_mem _ (List.mem_cons_of_mem _ (List.mem_cons_of_mem _ (List.mem_cons_of_mem _ (List.mem_cons_of_mem _ (List.mem_cons_of_mem _ (List.mem_cons_self)))))))))))))
  have i4 : (ρ.1 60064).toInt < 4 := ri_lt (x := ρ.1 60064) (y := 4) (hF.2 _ (List.mem_cons_of_mem _ (List.mem_cons_of_mem _ (List.mem_cons_of_mem _ (List.mem_cons_of_mem _ (List.mem_cons_of_mem _ (List.mem_cons_self)))))))
  have p0 : (90 : Int) ≤ (ρ.1 60000).toInt := ri_lf (x := ρ.1 60000) (y := 90) (hF.2 _ (List.mem_cons_of_mem _ (List.mem_cons_of_mem _ (List.mem_cons_of_mem _ (List.mem_cons_of_mem _ (List.mem_cons_of_mem _ (List.mem_cons_of_mem _ (List.mem_cons_of_mem _ (List.mem_cons_of_mem _ (List.mem_cons_of_mem _ (List.mem_cons_of_mem _ (List.mem_cons_of_mem _ (List.mem_cons_of_mem _ (List.mem_cons_of_mem _ (List.mem_cons_of_mem _ (List.mem_cons_self))))))))))))))))
  have p1 : (ρ.1 60000).toInt ≤ 105 := ri_lf (x := 105) (y := ρ.1 60000) (hF.2 _ (List.mem_cons_of_mem _ (List.mem_cons_of_mem _ (List.mem_cons_of_mem _ (List.mem_cons_of_mem _ (List.mem_cons_of_mem _ (List.mem_cons_of_mem _ (List.mem_cons_of_mem _ (List.mem_cons_of_mem _ (List.mem_cons_of_mem _ (List.mem_cons_of_mem _ (List.mem_cons_of_mem _ (List.mem_cons_of_mem _ (List.mem_cons_of_mem _ (List.mem_cons_of_mem _ (List.mem_cons_of_mem _ (List.mem_cons_self)))))))))))))))))
  have a0 : (0 : Int) ≤ (ρ.1 60032).toInt := ri_lf (x := ρ.1 60032) (y := 0) (hF.2 _ (List.mem_cons_of_mem _ (List.mem_cons_of_mem _ (List.mem_cons_of_mem _ (List.mem_cons_of_mem _ (List.mem_cons_of_mem _ (List.mem_cons_of_mem _ (List.mem_cons_of_mem _ (List.mem_cons_of_mem _ (List.mem_cons_of_mem _ (List.mem_cons_of_mem _ (List.mem_cons_of_mem _ (List.mem_cons_of_mem _ (List.mem_cons_of_mem _ (List.mem_cons_of_mem _ (List.mem_cons_of_mem _ (List.mem_cons_of_mem _ (List.mem_cons_self))))))))))))))))))
  have a1 : (ρ.1 60032).toInt ≤ 12 := ri_lf (x := 12) (y := ρ.1 60032) (hF.2 _ (List.mem_cons_of_mem _ (List.mem_cons_of_mem _ (List.mem_cons_of_mem _ (List.mem_cons_of_mem _ (List.mem_cons_of_mem _ (List.mem_cons_of_mem _ (List.mem_cons_of_mem _ (List.mem_cons_of_mem _ (List.mem_cons_of_mem _ (List.mem_cons_of_mem _ (List.mem_cons_of_mem _ (List.mem_cons_of_mem _ (List.mem_cons_of_mem _ (List.mem_cons_of_mem _ (List.mem_cons_of_mem _ (List.mem_cons_of_mem _ (List.mem_cons_of_mem _ (List.mem_cons_self)))))))))))))))))))
  obtain ⟨b0, b1⟩ := mp_b h140
  have el : (ρ.1 60032 + ρ.1 60064).toInt = (ρ.1 60032).toInt + (ρ.1 60064).toInt := s_add (by omega) (by omega)
  have ep : ρ.1 60032 + ρ.1 60064 = ρ.1 60160 := of_decide_eq_true (hF.2 _ (List.mem_cons_of_mem _ (List.mem_cons_self)))
  have hn : (ρ.1 60032 + ρ.1 60064).toNatClampNeg = (ρ.1 60032).toInt.toNat + (ρ.1 60064).toInt.toNat := by rw [s_nat, el]; omega
  have hr : mrow (ρ.2.2.2.1 1761) (ρ.1 60000).toInt.toNat (ρ.1 60064).toInt.toNat = 0 := (of_decide_eq_true (hF.2 _ (List.mem_cons_of_mem _ (List.mem_cons_of_mem _ (List.mem_cons_of_mem _ (List.mem_cons_of_mem _ (List.mem_cons_self))))))).symm
  have h9 : (ρ.1 60128).toInt = aslot (0 : Int32).toInt (0 : Int32).toInt := of_decide_eq_true (hF.2 _ (List.mem_cons_self))
  have h9 : (ρ.1 60128).toInt = mslot 0 := h9
  have t1 : ρ3.1 60064 = ρ.1 60064 + 1 := congrArg Prod.fst (m5 _ (List.mem_cons_self))
  have t2 : ρ3.1 60096 = ρ.1 60096 := congrArg Prod.fst (m5 _ (List.mem_cons_of_mem _ (List.mem_cons_self)))
  have e1 : (ρ3.1 60064).toInt.toNat = (ρ.1 60064).toInt.toNat + 1 := by
    have z1 : (1 : Int32).toInt = 1 := rfl
    rw [t1, s_add (by rw [z1]; omega) (by rw [z1]; omega), z1]
    omega
  have ss := fun j => ad_i (X := X) (ρ := ρ) (ρ3 := ρ3) (a := 24544) (p := .arg 60160) (t := .arg 60128) (m6 _ (List.mem_cons_self)) (by decide) rfl j
  have ww := fun j => ad_i (X := X) (ρ := ρ) (ρ3 := ρ3) (a := 2436) (p := .add (.arg 60032) (.arg 60064)) (t := .int 0) (m6 _ (List.mem_cons_of_mem _ (List.mem_cons_self))) (by decide) rfl j
  have ss : ∀ j, ρ3.2.2.1 24544 j = if (ρ.1 60160).toNatClampNeg = j then ρ.1 60128 else ρ.2.2.1 24544 j := ss
  have ww : ∀ j, ρ3.2.2.1 2436 j = if (ρ.1 60032 + ρ.1 60064).toNatClampNeg = j then 0 else ρ.2.2.1 2436 j := ww
  rw [← ep, hn] at ss
  rw [hn] at ww
  have ag : ∀ u : Nat, u ∈ ([2848, 5728, 5760, 5792, 5824, 5856, 5888, 5920, 5952, 2082, 2114, 2146, 2178, 6850, 6882, 6914, 6946, 2210, 2242, 2274, 2306, 7362, 7394, 7426, 7458, 2338, 2370, 2402, 2434, 7874, 7906, 7938, 7970, 6240, 6272, 6304, 6336, 21216, 21248, 21280, 21312, 1570, 1602, 6466, 6498, 60000, 60032] : List Nat) → ρ3.1 u = ρ.1 u := fun u hu => by
    have hu6 := List.all_eq_true.mp rd_s u hu
    simp only [Bool.and_eq_true, Bool.not_eq_true', decide_eq_true_eq] at hu6
    have q : u ∉ ([60064, 60096, 60128, 60160, 60033, 60065] : List Nat) := fun r => by rw [List.contains_iff_mem.mpr r] at hu6; cases hu6.2
    exact (m4.1 u hu6.1 q).1.trans (k4.1 u hu6.1 q).1.symm
  have eV : ρ3.2.2.2.1 1761 = ρ.2.2.2.1 1761 := (m4.2 1761 (by decide) (by decide)).2.trans (k4.2 1761 (by decide) (by decide)).2.symm
  have x140 : sc X ρ3 (140, .add (.elem (.arg 1761) (.int 0)) (.add (.arg 60000) (.add (.elem (.arg 24544) (.int 0)) (.add (.elem (.arg 2436) (.int 0)) (.add (.arg 60032) (.arg 60096))))), .arg 60064) = true := by
    show amapn (ρ3.2.2.2.1 1761) (ρ3.1 60000).toInt.toNat (ρ3.1 60032).toInt.toNat (ρ3.1 60064).toInt.toNat (ρ3.2.2.1 24544) (ρ3.2.2.1 2436) (ρ3.1 60096).toInt = true
    rw [eV, ag 60000 (by decide), ag 60032 (by decide), e1, t2]
    refine mp_1 h140 (fun j hj => ?_) (fun j hj => ?_) ?_ ?_ ?_
    · rw [ss, if_neg (by omega)]
    · rw [ww, if_neg (by omega)]
    · rw [ss, if_pos rfl, hr]; exact h9
    · rw [ww, if_pos rfl, hr]; exact rfl
    · rw [hr]; exact (Int.add_zero _).symm
  have xx : sc X ρ3 (142, .add (.elem (.arg 1761) (.int 0)) (.add (.arg 2848) (.add (.elem (.arg 24512) (.int 0)) (.add (.elem (.arg 2404) (.int 0)) (.add (.elem (.arg 24544) (.int 0)) (.add (.elem (.arg 2436) (.int 0)) (.add (.arg 5728) (.add (.arg 5760) (.add (.arg 5792) (.add (.arg 5824) (.add (.arg 5856) (.add (.arg 5888) (.add (.arg 5920) (.add (.arg 5952) (.add (.arg 2082) (.add (.arg 2114) (.add (.arg 2146) (.add (.arg 2178) (.add (.arg 6850) (.add (.arg 6882) (.add (.arg 6914) (.add (.arg 6946) (.add (.arg 2210) (.add (.arg 2242) (.add (.arg 2274) (.add (.arg 2306) (.add (.arg 7362) (.add (.arg 7394) (.add (.arg 7426) (.add (.arg 7458) (.add (.arg 2338) (.add (.arg 2370) (.add (.arg 2402) (.add (.arg 2434) (.add (.arg 7874) (.add (.arg 7906) (.add (.arg 7938) (.add (.arg 7970) (.add (.arg 6240) (.add (.arg 6272) (.add (.arg 6304) (.add (.arg 6336) (.add (.arg 21216) (.add (.arg 21248) (.add (.arg 21280) (.add (.arg 21312) (.add (.arg 1570) (.add (.arg 1602) (.add (.arg 6466) (.arg 6498))))))))))))))))))))))))))))))))))))))))))))))))), .arg 60032) = true := pu_o (a := (ρ.1 60032).toInt.toNat) (n := (ρ.1 60064).toInt.toNat) (hF.2 _ (List.mem_cons_of_mem _ (List.mem_cons_of_mem _ (List.mem_cons_of_mem _ (List.mem_cons_of_mem _ (List.mem_cons_of_mem _ (List.mem_cons_of_mem _ (List.mem_cons_of_mem _ (List.mem_cons_of_mem _ (List.mem_cons_of_mem _ (List.mem_cons_of_mem _ (List.mem_cons_self)))))))))))) (show (ρ3.1 60032).toInt = (ρ.1 60032).toInt by rw [ag 60032 (by decide)]) (show (ρ.1 60032).toInt = _ by omega) (by omega) (fun u hu => ag u (List.mem_append_left [60000, 60032] hu)) eV ((m4.2 24512 (by decide) (by decide)).1.trans (k4.2 24512 (by decide) (by decide)).1.symm) ((m4.2 2404 (by decide) (by decide)).1.trans (k4.2 2404 (by decide) (by decide)).1.symm) (fun j hj => by rw [ss, if_neg (fun q => hj q.symm)]) (fun j hj => by rw [ww, if_neg (fun q => hj q.symm)])
  exact hk_ ρ3 m1 ⟨m2.1, fcn (m2.2 _ (List.mem_cons_self)) (fcn x140 (fcn xx (fun f hf => m2.2 f (List.mem_cons_of_mem _ hf))))⟩ m3 m4)))
noncomputable def q_rdoLE : sCut := ((fr 0 144 10 [(0, tr 60), (1, .arg 60000), (2, tr 63), (3, tr 64), (4, .arg 60032), (5, .arg 60096), (6, .arg 60033), (8, .arg 60064)] [], [fBot], 3), (fr 0 284 0 [(0, .int 0)] [], [fBot], 3), [zf98zd_22, zf98zd_29, zf98zd_30, zf98zd_2, zf98zd_3, zf98zd_4, zf98zd_31, zf98zd_32, zf98zd_7, zf98zd_8, zf98zd_9], [])
noncomputable def q_rdoLEe : sCut := ((fr 0 144 10 [(0, tr 60), (1, .arg 60000), (2, tr 63), (3, tr 64), (4, .arg 60032), (5, .arg 60096), (6, .arg 60033), (8, .arg 60064)] [], [fBot], 3), (fr 0 284 0 [(0, .int 0)] [], [fBot], 3), [zf98zd_23, ((140, .add (.elem (.arg 1761) (.int 0)) (.add (.arg 60000) (.add (.elem (.arg 24544) (.int 0)) (.add (.elem (.arg 2436) (.int 0)) (.add (.arg 60032) (.arg 60096))))), .int 4), true), zf98zd_22, zf98zd_29, zf98zd_30, zf98zd_2, zf98zd_3, zf98zd_4, zf98zd_31, zf98zd_32, zf98zd_7, zf98zd_8, zf98zd_9], [])
theorem k_rdoLEe : cbody kR [] (cpl1 zWP c_rdo []) (cpl2 zWP c_rdo []) (cleaf kR zWP c_rdo []) 60 true true q_rdoLEe.2.2.1 q_rdoLEe.2.2.2 (cst zWP c_rdo.2.2.1.1 q_rdoLEe.1) (cst zWP c_rdo.2.2.1.2 q_rdoLEe.2.1) = true := by decide +kernel
theorem t_rdoLEe {X : pX} {ρ0 : sR} (hv : vok X ρ0) (hk_ : CUTOK X kR zWP c_rdo 3 ρ0 q_rdoLL) : CUTOK X kR zWP c_rdo 3 ρ0 q_rdoLEe := CUT_run kR_x kR_0 (Cs := []) (fun C hC => by cases hC) c_rdo_f (Q := []) hv (fun q hq => by cases hq) 60 (b1 := true) (b2 := true) k_rdoLEe
noncomputable def q_rdoLEs1 : sCut := ((fr 0 144 10 [(0, tr 60), (1, .arg 60000), (2, tr 63), (3, tr 64), (4, .arg 60032), (5, .arg 60096), (6, .arg 60033), (8, .arg 60064)] [], [fBot], 3), (fr 0 284 0 [(0, .int 0)] [], [fBot], 3), [zf98zd_24, zf98zd_25, zf98zd_26, zf98zd_27, zf98zd_16, zf98zd_17, zf98zd_18, zf98zd_19, zf98zd_22, zf98zd_29, zf98zd_30, zf98zd_2, zf98zd_3, zf98zd_4, zf98zd_31, zf98zd_32, zf98zd_7, zf98zd_8, zf98zd_9], [])
theorem k_rdoLEs1 : cbody kR [(zWP, c_sloc)] (cpl1 zWP c_rdo [q_rdoS1]) (cpl2 zWP c_rdo [q_rdoS1]) (cleaf kR zWP c_rdo [q_rdoS1]) 60 true false q_rdoLEs1.2.2.1 q_rdoLEs1.2.2.2 (cst zWP c_rdo.2.2.1.1 q_rdoLEs1.1) (cst zWP c_rdo.2.2.1.2 q_rdoLEs1.2.1) = true := by decide +kernel
theorem t_rdoLEs1 {X : pX} {ρ0 : sR} (hv : vok X ρ0) (hk_ : CUTOK X kR zWP c_rdo 3 ρ0 q_rdoLL) : CUTOK X kR zWP c_rdo 3 ρ0 q_rdoLEs1 := CUT_run kR_x kR_0 (Cs := [(zWP, c_sloc)]) (fun C hC => by rw [List.mem_singleton.mp hC]; exact s_sloc) c_rdo_f (Q := [q_rdoS1]) hv (fun q hq => by
    simp only [List.mem_cons, List.not_mem_nil, or_false] at hq
    rw [hq]; exact t_rdoS1 hv hk_) 60 (b1 := true) (b2 := false) k_rdoLEs1
noncomputable def q_rdoLEs0 : sCut := ((fr 0 144 10 [(0, tr 60), (1, .arg 60000), (2, tr 63), (3, tr 64), (4, .arg 60032), (5, .arg 60096), (6, .arg 60033), (8, .arg 60064)] [], [fBot], 3), (fr 0 284 0 [(0, .int 0)] [], [fBot], 3), [zf98zd_21, zf98zd_28, zf98zd_16, zf98zd_17, zf98zd_18, zf98zd_19, zf98zd_22, zf98zd_29, zf98zd_30, zf98zd_2, zf98zd_3, zf98zd_4, zf98zd_31, zf98zd_32, zf98zd_7, zf98zd_8, zf98zd_9], [])
theorem k_rdoLEs0 : cbody kR [(zWP, c_sloc)] (cpl1 zWP c_rdo [q_rdoS0]) (cpl2 zWP c_rdo [q_rdoS0]) (cleaf kR zWP c_rdo [q_rdoS0]) 60 true false q_rdoLEs0.2.2.1 q_rdoLEs0.2.2.2 (cst zWP c_rdo.2.2.1.1 q_rdoLEs0.1) (cst zWP c_rdo.2.2.1.2 q_rdoLEs0.2.1) = true := by decide +kernel
theorem t_rdoLEs0 {X : pX} {ρ0 : sR} (hv : vok X ρ0) (hk_ : CUTOK X kR zWP c_rdo 3 ρ0 q_rdoLL) : CUTOK X kR zWP c_rdo 3 ρ0 q_rdoLEs0 := CUT_run kR_x kR_0 (Cs := [(zWP, c_sloc)]) (fun C hC => by rw [List.mem_singleton.mp hC]; exact s_sloc) c_rdo_f (Q := [q_rdoS0]) hv (fun q hq => by
    simp only [List.mem_cons, List.not_mem_nil, or_false] at hq
    rw [hq]; exact t_rdoS0 hv hk_) 60 (b1 := true) (b2 := false) k_rdoLEs0
theorem t_rdoLE {X : pX} {ρ0 : sR} (hv : vok X ρ0) (hk_ : CUTOK X kR zWP c_rdo 3 ρ0 q_rdoLL) : CUTOK X kR zWP c_rdo 3 ρ0 q_rdoLE := fun ρ k1 hF hI k4 => by
  have i0 : (0 : Int) ≤ (ρ.1 60064).toInt := ri_lf (x := ρ.1 60064) (y := 0) (hF.2 _ (List.mem_cons_of_mem _ (List.mem_cons_of_mem _ (List.mem_cons_of_mem _ (List.mem_cons_self)))))
  have i4 : (ρ.1 60064).toInt ≤ 4 := ri_lf (x := 4) (y := ρ.1 60064) (hF.2 _ (List.mem_cons_of_mem _ (List.mem_cons_of_mem _ (List.mem_cons_of_mem _ (List.mem_cons_of_mem _ (List.mem_cons_self))))))
  have p0 : (90 : Int) ≤ (ρ.1 60000).toInt := ri_lf (x := ρ.1 60000) (y := 90) (hF.2 _ (List.mem_cons_of_mem _ (List.mem_cons_of_mem _ (List.mem_cons_of_mem _ (List.mem_cons_of_mem _ (List.mem_cons_of_mem _ (List.mem_cons_of_mem _ (List.mem_cons_self))))))))
  have p1 : (ρ.1 60000).toInt ≤ 105 := ri_lf (x := 105) (y := ρ.1 60000) (hF.2 _ (List.mem_cons_of_mem _ (List.mem_cons_of_mem _ (List.mem_cons_of_mem _ (List.mem_cons_of_mem _ (List.mem_cons_of_mem _ (List.mem_cons_of_mem _ (List.mem_cons_of_mem _ (List.mem_cons_self)))))))))
  have eg : (4 : Int32) - ρ.1 60064 = ρ.1 64032 := of_decide_eq_true (hF.2 _ (List.mem_cons_self))
  by_cases h4 : (ρ.1 60064).toInt = 4
  · have h4 : ρ.1 60064 = 4 := Int32.toInt_inj.mp h4
    have hn : sc X ρ (140, .add (.elem (.arg 1761) (.int 0)) (.add (.arg 60000) (.add (.elem (.arg 24544) (.int 0)) (.add (.elem (.arg 2436) (.int 0)) (.add (.arg 60032) (.arg 60096))))), .int 4) = true := by
      have := hF.2 _ (List.mem_cons_of_mem _ (List.mem_cons_self))
      show amapn (ρ.2.2.2.1 1761) (ρ.1 60000).toInt.toNat (ρ.1 60032).toInt.toNat (4 : Int32).toInt.toNat (ρ.2.2.1 24544) (ρ.2.2.1 2436) (ρ.1 60096).toInt = true
      rw [← h4]
      exact this
    exact t_rdoLEe hv hk_ ρ k1 ⟨hF.1, fcn (decide_eq_true h4) (fcn (hn) (hF.2))⟩ hI k4
  have z1 : (1 : Int32).toInt = 1 := rfl
  have z0 : (0 : Int32).toInt = 0 := rfl
  have z4 : (4 : Int32).toInt = 4 := rfl
  have e1 : (ρ.1 60064 + 1).toInt = (ρ.1 60064).toInt + 1 := s_add (by rw [z1]; omega) (by rw [z1]; omega)
  have n1 : sc X ρ (2, .sub (.int 4) (.add (.arg 60064) (.int 1)), .arg 64032) = true := decide_eq_true (show (4 : Int32) - (ρ.1 60064 + 1) < ρ.1 64032 by
    rw [← eg, Int32.lt_iff_toInt_lt, s_sub (by rw [e1, z4]; omega) (by rw [e1, z4]; omega), s_sub (by rw [z4]; omega) (by rw [z4]; omega), e1]
    omega)
  have n2 := di_lf (x := ρ.1 60064 + 1) (y := 0) (by rw [e1, z0]; omega)
  have n3 := di_lf (x := 4) (y := ρ.1 60064 + 1) (by rw [e1, z4]; omega)
  have n4 := di_lt (x := ρ.1 60064) (y := 4) (by rw [z4]; omega)
  have en := rd_n.mp (hF.2 _ (List.mem_cons_of_mem _ (List.mem_cons_of_mem _ (List.mem_cons_of_mem _ (List.mem_cons_of_mem _ (List.mem_cons_of_mem _ (List.mem_cons_self)))))))
  by_cases hc : sc X ρ (8, .op1 .i2l (.arg 60064), .arg 60033) = true
  · have ei : (ρ.1 60000 + ρ.1 60064 + 1).toNatClampNeg = (ρ.1 60000).toInt.toNat + 1 + (ρ.1 60064).toInt.toNat := by
      have e2 : (ρ.1 60000 + ρ.1 60064).toInt = (ρ.1 60000).toInt + (ρ.1 60064).toInt := s_add (by omega) (by omega)
      rw [s_nat, s_add (by rw [e2, z1]; omega) (by rw [e2, z1]; omega), e2, z1]
      omega
    have hb := rd_b (hF.2 _ (List.mem_cons_of_mem _ (List.mem_cons_of_mem _ (List.mem_cons_of_mem _ (List.mem_cons_of_mem _ (List.mem_cons_of_mem _ (List.mem_cons_of_mem _ (List.mem_cons_of_mem _ (List.mem_cons_of_mem _ (List.mem_cons_of_mem _ (List.mem_cons_of_mem _ (List.mem_cons_self)))))))))))) (m := (ρ.1 60000).toInt.toNat) (i := (ρ.1 60064).toInt.toNat) (by omega) (by omega)
    rw [← ei] at hb
    have u1 := us_16 hb.1 hb.2
    have cm : (ρ.1 60064).toInt < (ρ.2.1 60033).toInt := by have := rl_lt (x := (ρ.1 60064).toInt64) (y := ρ.2.1 60033) hc; rwa [Int32.toInt_toInt64] at this
    have h6 : sc X ρ (146, .add (.elem (.arg 1761) (.int 0)) (.add (.arg 60000) (.arg 60064)), .elem (.arg 1761) (.add (.add (.arg 60000) (.arg 60064)) (.int 1))) = true := decide_eq_true (show (ρ.2.2.2.1 1761 (ρ.1 60000 + ρ.1 60064 + 1).toNatClampNeg).toInt = mrow (ρ.2.2.2.1 1761) (ρ.1 60000).toInt.toNat (ρ.1 60064).toInt.toNat by
      unfold mrow
      rw [if_pos (by omega), ei])
    exact t_rdoLEs1 hv hk_ ρ k1 ⟨hF.1, fcn (h6) (fcn (di_lf (x := (s2 .lushr (0, ρ.2.2.2.1 1761 (ρ.1 60000 + ρ.1 60064 + 1).toNatClampNeg) (16, 0)).2.toInt32) (y := 0) (by rw [u1.1, z0]; omega)) (fcn (di_lf (x := 65535) (y := (s2 .lushr (0, ρ.2.2.2.1 1761 (ρ.1 60000 + ρ.1 60064 + 1).toNatClampNeg) (16, 0)).2.toInt32) (by rw [u1.1, show (65535 : Int32).toInt = 65535 from rfl]; omega)) (fcn (hc) (fcn (n4) (fcn (n1) (fcn (n2) (fcn (n3) (hF.2))))))))⟩ hI k4
  · have hc := Bool.not_eq_true _ ▸ hc
    have cm : ¬ (ρ.1 60064).toInt < (ρ.2.1 60033).toInt := by have := rl_lf (x := (ρ.1 60064).toInt64) (y := ρ.2.1 60033) hc; rw [Int32.toInt_toInt64] at this; omega
    have h6 : sc X ρ (146, .add (.elem (.arg 1761) (.int 0)) (.add (.arg 60000) (.arg 60064)), .long 0) = true := decide_eq_true (show (0 : Int64).toInt = mrow (ρ.2.2.2.1 1761) (ρ.1 60000).toInt.toNat (ρ.1 60064).toInt.toNat by
      unfold mrow
      rw [if_neg (by omega)]
      rfl)
    exact t_rdoLEs0 hv hk_ ρ k1 ⟨hF.1, fcn (h6) (fcn (hc) (fcn (n4) (fcn (n1) (fcn (n2) (fcn (n3) (hF.2))))))⟩ hI k4
theorem t_rdoL {X : pX} {ρ0 : sR} (hv : vok X ρ0) : CUTOK X kR zWP c_rdo 3 ρ0 q_rdoL := CUT_again (g := 64032) (mt := .sub (.int 4) (.arg 60064)) kR_x (by decide +kernel) (by decide) (by decide) (by decide) (by decide +kernel) (by decide +kernel) (by decide +kernel) (by decide +kernel) (by decide +kernel) (fun ρ0 hv hk => t_rdoLE hv hk) ρ0 hv
noncomputable def q_rdo0T : sCut := ((fr 0 144 10 [(0, tr 60), (1, .arg 60000), (2, tr 63), (3, tr 64), (4, .arg 60032), (5, .arg 60096), (6, .arg 60033), (8, .arg 60064)] [], [fBot], 3), (fr 0 284 0 [(0, .int 0)] [], [fBot], 3), [zf98zd_2, zf98zd_3, zf98zd_31, zf98zd_32, zf98zd_7, zf98zd_8, zf98zd_9, zf98zd_30], [])
noncomputable def q_rdo0 : sCut := ((fr 0 144 0 [(0, tr 60), (1, .arg 60000), (2, tr 63), (3, tr 64), (4, .arg 60032)] [], [fBot], 3), (fr 0 284 0 [(0, .int 0)] [], [fBot], 3), [zf98zd_9, zf98zd_30, zf98zd_31, zf98zd_32, zf98zd_7, zf98zd_8], [])
noncomputable def w_rdo0 : List (sCut × List (Nat × sT) × List (Nat × sT × List (sT × sT))) := [(q_rdo0T, [(60064, .int 0), (60096, .int 0), (60033, .elem (.arg 1761) (.arg 60000))], [])]
theorem k_rdo0 : cbody kR [] (cpl1 zWP c_rdo [q_rdo0T]) (cpl2 zWP c_rdo [q_rdo0T]) (cleafB kR zWP c_rdo w_rdo0) 40 true false q_rdo0.2.2.1 q_rdo0.2.2.2 (cst zWP c_rdo.2.2.1.1 q_rdo0.1) (cst zWP c_rdo.2.2.1.2 q_rdo0.2.1) = true := by decide +kernel
theorem t_rdo0 {X : pX} {ρ0 : sR} (hv : vok X ρ0) : CUTOK X kR zWP c_rdo 3 ρ0 q_rdo0 := CUTOK_AT (fun ρ k1 hF hI k4 => AT_of (q := q_rdo0) rfl rfl (SEM_runB kR_x kR_0 (Cs := []) (fun C hC => by cases hC) c_rdo_f (Q := w_rdo0) hv 40 (b1 := true) (b2 := false) k_rdo0 k1 hF hI k4 (fun p hp ρ3 m1 m2 m3 m4 m5 m6 => by
  rw [List.mem_singleton.mp hp] at m2 m3 m5 m6 ⊢
  have t1 : ρ3.1 60064 = 0 := congrArg Prod.fst (m5 _ (List.mem_cons_self))
  have t2 : ρ3.1 60096 = 0 := congrArg Prod.fst (m5 _ (List.mem_cons_of_mem _ (List.mem_cons_self)))
  have t3 : ρ3.2.1 60033 = ρ.2.2.2.1 1761 (ρ.1 60000).toNatClampNeg := congrArg Prod.snd (m5 _ (List.mem_cons_of_mem _ (List.mem_cons_of_mem _ (List.mem_cons_self))))
  have eV : ρ3.2.2.2.1 1761 = ρ.2.2.2.1 1761 := (m4.2 1761 (by decide) (by decide)).2.trans (k4.2 1761 (by decide) (by decide)).2.symm
  have e0 : ρ3.1 60000 = ρ.1 60000 := (m4.1 60000 (by decide) (by decide)).1.trans (k4.1 60000 (by decide) (by decide)).1.symm
  have x119 := (rd_n (X := X)).mpr (show (ρ3.2.1 60033).toInt = (ρ3.2.2.2.1 1761 (ρ3.1 60000).toInt.toNat).toInt by rw [t3, eV, e0, s_nat])
  have x140 : sc X ρ3 (140, .add (.elem (.arg 1761) (.int 0)) (.add (.arg 60000) (.add (.elem (.arg 24544) (.int 0)) (.add (.elem (.arg 2436) (.int 0)) (.add (.arg 60032) (.arg 60096))))), .arg 60064) = true := by
    show amapn (ρ3.2.2.2.1 1761) (ρ3.1 60000).toInt.toNat (ρ3.1 60032).toInt.toNat (ρ3.1 60064).toInt.toNat (ρ3.2.2.1 24544) (ρ3.2.2.1 2436) (ρ3.1 60096).toInt = true
    rw [t1, t2]
    exact mp_0
  exact t_rdoL hv ρ3 m1 ⟨m2.1, fcn (x140) (fcn (m2.2 _ (List.mem_cons_of_mem _ (List.mem_cons_of_mem _ (List.mem_cons_of_mem _ (List.mem_cons_of_mem _ (List.mem_cons_of_mem _ (List.mem_cons_of_mem _ (List.mem_cons_of_mem _ (List.mem_cons_self))))))))) (fcn (m2.2 _ (List.mem_cons_self)) (fcn (m2.2 _ (List.mem_cons_of_mem _ (List.mem_cons_self))) (fcn (x119) (fcn (m2.2 _ (List.mem_cons_of_mem _ (List.mem_cons_of_mem _ (List.mem_cons_self)))) (fcn (m2.2 _ (List.mem_cons_of_mem _ (List.mem_cons_of_mem _ (List.mem_cons_of_mem _ (List.mem_cons_self))))) (fcn (m2.2 _ (List.mem_cons_of_mem _ (List.mem_cons_of_mem _ (List.mem_cons_of_mem _ (List.mem_cons_of_mem _ (List.mem_cons_self)))))) (fcn (m2.2 _ (List.mem_cons_of_mem _ (List.mem_cons_of_mem _ (List.mem_cons_of_mem _ (List.mem_cons_of_mem _ (List.mem_cons_of_mem _ (List.mem_cons_self))))))) (fcn (m2.2 _ (List.mem_cons_of_mem _ (List.mem_cons_of_mem _ (List.mem_cons_of_mem _ (List.mem_cons_of_mem _ (List.mem_cons_of_mem _ (List.mem_cons_of_mem _ (List.mem_cons_self)))))))) (fun f hf => by cases hf))))))))))⟩ m3 m4)))
theorem e_rdo : frun kR [] (cpl1 zWP c_rdo [q_rdo0]) (cpl2 zWP c_rdo [q_rdo0]) (cleaf kR zWP c_rdo [q_rdo0]) 10 65536 (isatP (c_rdo.2.2.2.1) c_rdo.2.2.2.2.2.2.2.1) c_rdo.2.2.2.2.2.2.2.1 (sin0 mt_all c_rdo.1.1 3 c_rdo.2.1.1 (foot zWP c_rdo.2.2.1.1)) (sin0 mt_all c_rdo.1.2.1 3 c_rdo.2.1.2 (foot zWP c_rdo.2.2.1.2)) = true := by decide +kernel
theorem s_rdo {X : pX} : SREL X pF pdfl mt_all kR zWP c_rdo := SREL_QC kR_x kR_0 (Cs := []) (fun C hC => by cases hC) (d := 3) rfl c_rdo_f (Q := [q_rdo0]) (fun ρ0 hv => fun q hq => by
    simp only [List.mem_cons, List.not_mem_nil, or_false] at hq
    rw [hq]; exact t_rdo0 hv) (QC_run 10 e_rdo)
