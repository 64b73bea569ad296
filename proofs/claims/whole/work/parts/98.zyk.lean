set_option maxRecDepth 20000
theorem nb_a {p q : Int64} (h1 : 0 ≤ p.toInt) (h2 : p.toInt ≤ 20000000000) (h3 : 0 ≤ q.toInt) (h4 : q.toInt ≤ 20000000000) : (p + q).toInt = p.toInt + q.toInt := by
  rw [Int64.toInt_add]
  exact Int.bmod_eq_of_le (by omega) (by omega)
theorem nb_k {v : Int32} {k : Int64} {n : Int} (hk : k.toInt = n) (h0 : 0 ≤ n) (h1 : n ≤ 16777216) (hv : 0 ≤ v.toInt ∧ v.toInt ≤ 255) : (v.toInt64 * k).toInt = v.toInt * n ∧ 0 ≤ v.toInt * n ∧ v.toInt * n ≤ 255 * 16777216 := by
  have q1 : 0 ≤ v.toInt * n := Int.mul_nonneg hv.1 h0
  have q2 : v.toInt * n ≤ 255 * 16777216 := Int.mul_le_mul hv.2 h1 h0 (by decide)
  rw [Int64.toInt_mul, Int32.toInt_toInt64, hk]
  exact ⟨Int.bmod_eq_of_le (by omega) (by omega), q1, q2⟩
theorem nb_s {x p q r : Int64} {a b c d : Int} (hx : x.toInt = a) (hp : p.toInt = b) (hq : q.toInt = c) (hr : r.toInt = d) (ba : 0 ≤ a ∧ a ≤ 255) (bb : 0 ≤ b ∧ b ≤ 255 * 16777216) (bc : 0 ≤ c ∧ c ≤ 255 * 16777216) (bd : 0 ≤ d ∧ d ≤ 255 * 16777216) : (x + p + q + r).toInt = a + b + c + d := by
  have s1 := nb_a (p := x) (q := p) (by omega) (by omega) (by omega) (by omega)
  have s2 := nb_a (p := x + p) (q := q) (by omega) (by omega) (by omega) (by omega)
  have s3 := nb_a (p := x + p + q) (q := r) (by omega) (by omega) (by omega) (by omega)
  omega
theorem nb_c {X : pX} {ρ : sR} {t2 t3 t4 t5 : sT} {k1 k2 k3 : Int64} (e1 : k1.toInt = 256) (e2 : k2.toInt = 65536) (e3 : k3.toInt = 16777216) (hx : 0 ≤ (sd X ρ t2).1.toInt ∧ (sd X ρ t2).1.toInt ≤ 255) (hy : 0 ≤ (sd X ρ t3).1.toInt ∧ (sd X ρ t3).1.toInt ≤ 255) (hz : 0 ≤ (sd X ρ t4).1.toInt ∧ (sd X ρ t4).1.toInt ≤ 255) (hw : 0 ≤ (sd X ρ t5).1.toInt ∧ (sd X ρ t5).1.toInt ≤ 255) : (sd X ρ (.op2 .ladd (.op2 .ladd (.op2 .ladd (.op1 .i2l t2) (.op2 .lmul (.op1 .i2l t3) (.long k1))) (.op2 .lmul (.op1 .i2l t4) (.long k2))) (.op2 .lmul (.op1 .i2l t5) (.long k3)))).2.toInt = (sd X ρ t2).1.toInt + 256 * (sd X ρ t3).1.toInt + 65536 * (sd X ρ t4).1.toInt + 16777216 * (sd X ρ t5).1.toInt := by
  obtain ⟨y1, y2, y3⟩ := nb_k e1 (by decide) (by decide) hy
  obtain ⟨z1, z2, z3⟩ := nb_k e2 (by decide) (by decide) hz
  obtain ⟨w1, w2, w3⟩ := nb_k e3 (by decide) (by decide) hw
  show ((sd X ρ t2).1.toInt64 + (sd X ρ t3).1.toInt64 * k1 + (sd X ρ t4).1.toInt64 * k2 + (sd X ρ t5).1.toInt64 * k3).toInt = _
  rw [nb_s (Int32.toInt_toInt64 _) y1 z1 w1 hx ⟨y2, y3⟩ ⟨z2, z3⟩ ⟨w2, w3⟩, Int.mul_comm 256, Int.mul_comm 65536, Int.mul_comm 16777216]
theorem l_nat {x : Int32} (hx : 0 ≤ x.toInt ∧ x.toInt ≤ 255) : x.toInt64.toBitVec.toNat = x.toInt.toNat := by
  have e : x.toInt64.toInt = x.toInt := Int32.toInt_toInt64 _
  have q : x.toInt64.toInt = x.toInt64.toBitVec.toInt := rfl
  rw [q, BitVec.toInt_eq_toNat_cond] at e
  have := x.toInt64.toBitVec.isLt
  split at e <;> omega
theorem nb_o {x y z w : BitVec 64} {a b c d : Nat} (ex : x.toNat = a) (ey : y.toNat = b) (ez : z.toNat = c) (ew : w.toNat = d) (ha : a ≤ 255) (hb : b ≤ 255) (hc : c ≤ 255) (hd : d ≤ 255) : (((x ||| (y <<< 8)) ||| (z <<< 16)) ||| (w <<< 24)).toNat = a + 256 * b + 65536 * c + 16777216 * d := by
  rw [BitVec.toNat_or, BitVec.toNat_or, BitVec.toNat_or, BitVec.toNat_shiftLeft, BitVec.toNat_shiftLeft, BitVec.toNat_shiftLeft, ex, ey, ez, ew]
  rw [Nat.mod_eq_of_lt (by rw [Nat.shiftLeft_eq]; omega), Nat.mod_eq_of_lt (by rw [Nat.shiftLeft_eq]; omega), Nat.mod_eq_of_lt (by rw [Nat.shiftLeft_eq]; omega)]
  rw [Nat.or_comm a, ← Nat.shiftLeft_add_eq_or_of_lt (by omega), Nat.or_comm _ (c <<< 16), ← Nat.shiftLeft_add_eq_or_of_lt (by rw [Nat.shiftLeft_eq]; omega), Nat.or_comm _ (d <<< 24), ← Nat.shiftLeft_add_eq_or_of_lt (by rw [Nat.shiftLeft_eq, Nat.shiftLeft_eq]; omega)]
  rw [Nat.shiftLeft_eq, Nat.shiftLeft_eq, Nat.shiftLeft_eq]
  omega
theorem nb_m {X : pX} {ρ : sR} {t2 t3 t4 t5 : sT} {k1 k2 k3 : Int32} (e1 : ∀ y : Int64, (y <<< (k1.toInt64 &&& 63)).toBitVec = y.toBitVec <<< 8) (e2 : ∀ y : Int64, (y <<< (k2.toInt64 &&& 63)).toBitVec = y.toBitVec <<< 16) (e3 : ∀ y : Int64, (y <<< (k3.toInt64 &&& 63)).toBitVec = y.toBitVec <<< 24) (hx : 0 ≤ (sd X ρ t2).1.toInt ∧ (sd X ρ t2).1.toInt ≤ 255) (hy : 0 ≤ (sd X ρ t3).1.toInt ∧ (sd X ρ t3).1.toInt ≤ 255) (hz : 0 ≤ (sd X ρ t4).1.toInt ∧ (sd X ρ t4).1.toInt ≤ 255) (hw : 0 ≤ (sd X ρ t5).1.toInt ∧ (sd X ρ t5).1.toInt ≤ 255) : (sd X ρ (.op2 .lor (.op2 .lor (.op2 .lor (.op1 .i2l t2) (.op2 .lshl (.op1 .i2l t3) (.int k1))) (.op2 .lshl (.op1 .i2l t4) (.int k2))) (.op2 .lshl (.op1 .i2l t5) (.int k3)))).2.toInt = (sd X ρ t2).1.toInt + 256 * (sd X ρ t3).1.toInt + 65536 * (sd X ρ t4).1.toInt + 16777216 * (sd X ρ t5).1.toInt := by
  show ((sd X ρ t2).1.toInt64 ||| (sd X ρ t3).1.toInt64 <<< (k1.toInt64 &&& 63) ||| (sd X ρ t4).1.toInt64 <<< (k2.toInt64 &&& 63) ||| (sd X ρ t5).1.toInt64 <<< (k3.toInt64 &&& 63)).toBitVec.toInt = _
  rw [Int64.toBitVec_or, Int64.toBitVec_or, Int64.toBitVec_or, e1, e2, e3]
  have n := nb_o (l_nat hx) (l_nat hy) (l_nat hz) (l_nat hw) (by omega) (by omega) (by omega) (by omega)
  rw [BitVec.toInt_eq_toNat_cond, n]
  split <;> omega
theorem sh_8 (y : Int64) : (y <<< ((8 : Int32).toInt64 &&& 63)).toBitVec = y.toBitVec <<< 8 := rfl
theorem sh_16 (y : Int64) : (y <<< ((16 : Int32).toInt64 &&& 63)).toBitVec = y.toBitVec <<< 16 := rfl
theorem sh_24 (y : Int64) : (y <<< ((24 : Int32).toInt64 &&& 63)).toBitVec = y.toBitVec <<< 24 := rfl
theorem sc8_t {X : pX} {ρ : sR} {x y : sT} (h : (sd X ρ x).2.toInt < (sd X ρ y).2.toInt) : sc X ρ (8, x, y) = true := dl_lt h
theorem sc8_f {X : pX} {ρ : sR} {x y : sT} (h : (sd X ρ y).2.toInt ≤ (sd X ρ x).2.toInt) : sc X ρ (8, x, y) = false := dl_lf h
theorem k_256 : (256 : Int64).toInt = 256 := rfl
theorem k_65536 : (65536 : Int64).toInt = 65536 := rfl
theorem k_16m : (16777216 : Int64).toInt = 16777216 := rfl
theorem nbc_0 {X : pX} {ρ : sR} (hv : vok X ρ) : (sd X ρ (.op2 .ladd (.op2 .ladd (.op2 .ladd (.op1 .i2l (.elem (.arg 1380) (.int 2))) (.op2 .lmul (.op1 .i2l (.elem (.arg 1380) (.int 3))) (.long 256))) (.op2 .lmul (.op1 .i2l (.elem (.arg 1380) (.int 4))) (.long 65536))) (.op2 .lmul (.op1 .i2l (.elem (.arg 1380) (.int 5))) (.long 16777216)))).2.toInt = abno (ρ.2.2.1 1380) := by
  have b2 : 0 ≤ (sd X ρ (.elem (.arg 1380) (.int 2))).1.toInt ∧ (sd X ρ (.elem (.arg 1380) (.int 2))).1.toInt ≤ 255 := hv.2 1380 (.int 2) (0, 255) rfl
  have b3 : 0 ≤ (sd X ρ (.elem (.arg 1380) (.int 3))).1.toInt ∧ (sd X ρ (.elem (.arg 1380) (.int 3))).1.toInt ≤ 255 := hv.2 1380 (.int 3) (0, 255) rfl
  have b4 : 0 ≤ (sd X ρ (.elem (.arg 1380) (.int 4))).1.toInt ∧ (sd X ρ (.elem (.arg 1380) (.int 4))).1.toInt ≤ 255 := hv.2 1380 (.int 4) (0, 255) rfl
  have b5 : 0 ≤ (sd X ρ (.elem (.arg 1380) (.int 5))).1.toInt ∧ (sd X ρ (.elem (.arg 1380) (.int 5))).1.toInt ≤ 255 := hv.2 1380 (.int 5) (0, 255) rfl
  exact nb_c k_256 k_65536 k_16m b2 b3 b4 b5
theorem nbc_1 {X : pX} {ρ : sR} (hv : vok X ρ) : (sd X ρ (.op2 .ladd (.op2 .ladd (.op2 .ladd (.op1 .i2l (.elem (.arg 1412) (.int 2))) (.op2 .lmul (.op1 .i2l (.elem (.arg 1412) (.int 3))) (.long 256))) (.op2 .lmul (.op1 .i2l (.elem (.arg 1412) (.int 4))) (.long 65536))) (.op2 .lmul (.op1 .i2l (.elem (.arg 1412) (.int 5))) (.long 16777216)))).2.toInt = abno (ρ.2.2.1 1412) := by
  have b2 : 0 ≤ (sd X ρ (.elem (.arg 1412) (.int 2))).1.toInt ∧ (sd X ρ (.elem (.arg 1412) (.int 2))).1.toInt ≤ 255 := hv.2 1412 (.int 2) (0, 255) rfl
  have b3 : 0 ≤ (sd X ρ (.elem (.arg 1412) (.int 3))).1.toInt ∧ (sd X ρ (.elem (.arg 1412) (.int 3))).1.toInt ≤ 255 := hv.2 1412 (.int 3) (0, 255) rfl
  have b4 : 0 ≤ (sd X ρ (.elem (.arg 1412) (.int 4))).1.toInt ∧ (sd X ρ (.elem (.arg 1412) (.int 4))).1.toInt ≤ 255 := hv.2 1412 (.int 4) (0, 255) rfl
  have b5 : 0 ≤ (sd X ρ (.elem (.arg 1412) (.int 5))).1.toInt ∧ (sd X ρ (.elem (.arg 1412) (.int 5))).1.toInt ≤ 255 := hv.2 1412 (.int 5) (0, 255) rfl
  exact nb_c k_256 k_65536 k_16m b2 b3 b4 b5
theorem nbm_0 {X : pX} {ρ : sR} (hv : vok X ρ) : (sd X ρ (.op2 .lor (.op2 .lor (.op2 .lor (.op1 .i2l (.elem (.arg 1380) (.int 2))) (.op2 .lshl (.op1 .i2l (.elem (.arg 1380) (.int 3))) (.int 8))) (.op2 .lshl (.op1 .i2l (.elem (.arg 1380) (.int 4))) (.int 16))) (.op2 .lshl (.op1 .i2l (.elem (.arg 1380) (.int 5))) (.int 24)))).2.toInt = abno (ρ.2.2.1 1380) := by
  have b2 : 0 ≤ (sd X ρ (.elem (.arg 1380) (.int 2))).1.toInt ∧ (sd X ρ (.elem (.arg 1380) (.int 2))).1.toInt ≤ 255 := hv.2 1380 (.int 2) (0, 255) rfl
  have b3 : 0 ≤ (sd X ρ (.elem (.arg 1380) (.int 3))).1.toInt ∧ (sd X ρ (.elem (.arg 1380) (.int 3))).1.toInt ≤ 255 := hv.2 1380 (.int 3) (0, 255) rfl
  have b4 : 0 ≤ (sd X ρ (.elem (.arg 1380) (.int 4))).1.toInt ∧ (sd X ρ (.elem (.arg 1380) (.int 4))).1.toInt ≤ 255 := hv.2 1380 (.int 4) (0, 255) rfl
  have b5 : 0 ≤ (sd X ρ (.elem (.arg 1380) (.int 5))).1.toInt ∧ (sd X ρ (.elem (.arg 1380) (.int 5))).1.toInt ≤ 255 := hv.2 1380 (.int 5) (0, 255) rfl
  exact nb_m sh_8 sh_16 sh_24 b2 b3 b4 b5
theorem nbm_1 {X : pX} {ρ : sR} (hv : vok X ρ) : (sd X ρ (.op2 .lor (.op2 .lor (.op2 .lor (.op1 .i2l (.elem (.arg 1412) (.int 2))) (.op2 .lshl (.op1 .i2l (.elem (.arg 1412) (.int 3))) (.int 8))) (.op2 .lshl (.op1 .i2l (.elem (.arg 1412) (.int 4))) (.int 16))) (.op2 .lshl (.op1 .i2l (.elem (.arg 1412) (.int 5))) (.int 24)))).2.toInt = abno (ρ.2.2.1 1412) := by
  have b2 : 0 ≤ (sd X ρ (.elem (.arg 1412) (.int 2))).1.toInt ∧ (sd X ρ (.elem (.arg 1412) (.int 2))).1.toInt ≤ 255 := hv.2 1412 (.int 2) (0, 255) rfl
  have b3 : 0 ≤ (sd X ρ (.elem (.arg 1412) (.int 3))).1.toInt ∧ (sd X ρ (.elem (.arg 1412) (.int 3))).1.toInt ≤ 255 := hv.2 1412 (.int 3) (0, 255) rfl
  have b4 : 0 ≤ (sd X ρ (.elem (.arg 1412) (.int 4))).1.toInt ∧ (sd X ρ (.elem (.arg 1412) (.int 4))).1.toInt ≤ 255 := hv.2 1412 (.int 4) (0, 255) rfl
  have b5 : 0 ≤ (sd X ρ (.elem (.arg 1412) (.int 5))).1.toInt ∧ (sd X ρ (.elem (.arg 1412) (.int 5))).1.toInt ≤ 255 := hv.2 1412 (.int 5) (0, 255) rfl
  exact nb_m sh_8 sh_16 sh_24 b2 b3 b4 b5
/-! ===== which bank counts, the class alone ===== -/
noncomputable def c_btc0 : sC := ((90, 284, 8), ([tr 75], [.int 0]), ([75, 76, 77, 78], []), [((150, .add (.elem (.arg 1380) (.int 0)) (.elem (.arg 1412) (.int 0)), .arg 60064), true)], ([60096, 60002, 60000, 60032], []), (some (.arg 60096), some (.int 0)), [((0, .arg 60096, .arg 60064), true)], ([], []))
theorem c_btc0_f : cfine zWP 65536 c_btc0 = true := by decide +kernel
noncomputable def zf98zyk_0 : sQ × Bool := ((150, .add (.elem (.arg 1380) (.int 0)) (.elem (.arg 1412) (.int 0)), .arg 60064), true)
noncomputable def q_btc : sCut := ((fr 0 90 0 [(0, tr 75)] [], [fBot], 7), (fr 0 284 0 [(0, .int 0)] [], [fBot], 7), [zf98zyk_0], [])
noncomputable def zf98zyk_1 : sQ × Bool := ((115, .elem (.arg 1380) (.int 0), .int 0), true)
noncomputable def zf98zyk_2 : sQ × Bool := ((115, .elem (.arg 1412) (.int 0), .int 0), true)
noncomputable def zf98zyk_3 : sQ × Bool := ((0, .arg 60064, .int (-1)), true)
noncomputable def q_btcnn : sCut := ((fr 0 90 0 [(0, tr 75)] [], [fBot], 7), (fr 0 284 0 [(0, .int 0)] [], [fBot], 7), [zf98zyk_1, zf98zyk_2, zf98zyk_3, zf98zyk_0], [])
theorem k_btcnn : cbody kR [(zWP, c_cc0), (zWP, c_cc1)] (cpl1 zWP c_btc0 []) (cpl2 zWP c_btc0 []) (cleaf kR zWP c_btc0 []) 150 true true q_btcnn.2.2.1 q_btcnn.2.2.2 (cst zWP c_btc0.2.2.1.1 q_btcnn.1) (cst zWP c_btc0.2.2.1.2 q_btcnn.2.1) = true := by decide +kernel
theorem t_btcnn {X : pX} {ρ0 : sR} (hv : vok X ρ0) : CUTOK X kR zWP c_btc0 7 ρ0 q_btcnn := CUT_run kR_x kR_0 (Cs := [(zWP, c_cc0), (zWP, c_cc1)]) (fun C hC => by
    simp only [List.mem_cons, List.not_mem_nil, or_false] at hC
    rcases hC with hC | hC
    · rw [hC]; exact s_cc0
    · rw [hC]; exact s_cc1) c_btc0_f (Q := []) hv (fun q hq => by cases hq) 150 (b1 := true) (b2 := true) k_btcnn
noncomputable def zf98zyk_4 : sQ × Bool := ((115, .elem (.arg 1412) (.int 0), .int 1), true)
noncomputable def zf98zyk_5 : sQ × Bool := ((0, .arg 60064, .int 1), true)
noncomputable def q_btcny : sCut := ((fr 0 90 0 [(0, tr 75)] [], [fBot], 7), (fr 0 284 0 [(0, .int 0)] [], [fBot], 7), [zf98zyk_1, zf98zyk_4, zf98zyk_5, zf98zyk_0], [])
theorem k_btcny : cbody kR [(zWP, c_cc0), (zWP, c_cc1)] (cpl1 zWP c_btc0 []) (cpl2 zWP c_btc0 []) (cleaf kR zWP c_btc0 []) 150 true true q_btcny.2.2.1 q_btcny.2.2.2 (cst zWP c_btc0.2.2.1.1 q_btcny.1) (cst zWP c_btc0.2.2.1.2 q_btcny.2.1) = true := by decide +kernel
theorem t_btcny {X : pX} {ρ0 : sR} (hv : vok X ρ0) : CUTOK X kR zWP c_btc0 7 ρ0 q_btcny := CUT_run kR_x kR_0 (Cs := [(zWP, c_cc0), (zWP, c_cc1)]) (fun C hC => by
    simp only [List.mem_cons, List.not_mem_nil, or_false] at hC
    rcases hC with hC | hC
    · rw [hC]; exact s_cc0
    · rw [hC]; exact s_cc1) c_btc0_f (Q := []) hv (fun q hq => by cases hq) 150 (b1 := true) (b2 := true) k_btcny
noncomputable def zf98zyk_6 : sQ × Bool := ((115, .elem (.arg 1380) (.int 0), .int 1), true)
noncomputable def zf98zyk_7 : sQ × Bool := ((0, .arg 60064, .int 0), true)
noncomputable def q_btcyn : sCut := ((fr 0 90 0 [(0, tr 75)] [], [fBot], 7), (fr 0 284 0 [(0, .int 0)] [], [fBot], 7), [zf98zyk_6, zf98zyk_2, zf98zyk_7, zf98zyk_0], [])
theorem k_btcyn : cbody kR [(zWP, c_cc0), (zWP, c_cc1)] (cpl1 zWP c_btc0 []) (cpl2 zWP c_btc0 []) (cleaf kR zWP c_btc0 []) 150 true true q_btcyn.2.2.1 q_btcyn.2.2.2 (cst zWP c_btc0.2.2.1.1 q_btcyn.1) (cst zWP c_btc0.2.2.1.2 q_btcyn.2.1) = true := by decide +kernel
theorem t_btcyn {X : pX} {ρ0 : sR} (hv : vok X ρ0) : CUTOK X kR zWP c_btc0 7 ρ0 q_btcyn := CUT_run kR_x kR_0 (Cs := [(zWP, c_cc0), (zWP, c_cc1)]) (fun C hC => by
    simp only [List.mem_cons, List.not_mem_nil, or_false] at hC
    rcases hC with hC | hC
    · rw [hC]; exact s_cc0
    · rw [hC]; exact s_cc1) c_btc0_f (Q := []) hv (fun q hq => by cases hq) 150 (b1 := true) (b2 := true) k_btcyn
noncomputable def q_btcy1 : sCut := ((fr 0 90 0 [(0, tr 75)] [], [fBot], 7), (fr 0 284 0 [(0, .int 0)] [], [fBot], 7), [zf98zyk_6, zf98zyk_4, ((8, .op2 .ladd (.op2 .ladd (.op2 .ladd (.op1 .i2l (.elem (.arg 1380) (.int 2))) (.op2 .lmul (.op1 .i2l (.elem (.arg 1380) (.int 3))) (.long 256))) (.op2 .lmul (.op1 .i2l (.elem (.arg 1380) (.int 4))) (.long 65536))) (.op2 .lmul (.op1 .i2l (.elem (.arg 1380) (.int 5))) (.long 16777216)), .op2 .ladd (.op2 .ladd (.op2 .ladd (.op1 .i2l (.elem (.arg 1412) (.int 2))) (.op2 .lmul (.op1 .i2l (.elem (.arg 1412) (.int 3))) (.long 256))) (.op2 .lmul (.op1 .i2l (.elem (.arg 1412) (.int 4))) (.long 65536))) (.op2 .lmul (.op1 .i2l (.elem (.arg 1412) (.int 5))) (.long 16777216))), true), zf98zyk_5, zf98zyk_0], [])
theorem k_btcy1 : cbody kR [(zWP, c_cc0), (zWP, c_cc1)] (cpl1 zWP c_btc0 []) (cpl2 zWP c_btc0 []) (cleaf kR zWP c_btc0 []) 150 true true q_btcy1.2.2.1 q_btcy1.2.2.2 (cst zWP c_btc0.2.2.1.1 q_btcy1.1) (cst zWP c_btc0.2.2.1.2 q_btcy1.2.1) = true := by decide +kernel
theorem t_btcy1 {X : pX} {ρ0 : sR} (hv : vok X ρ0) : CUTOK X kR zWP c_btc0 7 ρ0 q_btcy1 := CUT_run kR_x kR_0 (Cs := [(zWP, c_cc0), (zWP, c_cc1)]) (fun C hC => by
    simp only [List.mem_cons, List.not_mem_nil, or_false] at hC
    rcases hC with hC | hC
    · rw [hC]; exact s_cc0
    · rw [hC]; exact s_cc1) c_btc0_f (Q := []) hv (fun q hq => by cases hq) 150 (b1 := true) (b2 := true) k_btcy1
noncomputable def q_btcy0 : sCut := ((fr 0 90 0 [(0, tr 75)] [], [fBot], 7), (fr 0 284 0 [(0, .int 0)] [], [fBot], 7), [zf98zyk_6, zf98zyk_4, ((8, .op2 .ladd (.op2 .ladd (.op2 .ladd (.op1 .i2l (.elem (.arg 1380) (.int 2))) (.op2 .lmul (.op1 .i2l (.elem (.arg 1380) (.int 3))) (.long 256))) (.op2 .lmul (.op1 .i2l (.elem (.arg 1380) (.int 4))) (.long 65536))) (.op2 .lmul (.op1 .i2l (.elem (.arg 1380) (.int 5))) (.long 16777216)), .op2 .ladd (.op2 .ladd (.op2 .ladd (.op1 .i2l (.elem (.arg 1412) (.int 2))) (.op2 .lmul (.op1 .i2l (.elem (.arg 1412) (.int 3))) (.long 256))) (.op2 .lmul (.op1 .i2l (.elem (.arg 1412) (.int 4))) (.long 65536))) (.op2 .lmul (.op1 .i2l (.elem (.arg 1412) (.int 5))) (.long 16777216))), false), zf98zyk_7, zf98zyk_0], [])
theorem k_btcy0 : cbody kR [(zWP, c_cc0), (zWP, c_cc1)] (cpl1 zWP c_btc0 []) (cpl2 zWP c_btc0 []) (cleaf kR zWP c_btc0 []) 150 true true q_btcy0.2.2.1 q_btcy0.2.2.2 (cst zWP c_btc0.2.2.1.1 q_btcy0.1) (cst zWP c_btc0.2.2.1.2 q_btcy0.2.1) = true := by decide +kernel
theorem t_btcy0 {X : pX} {ρ0 : sR} (hv : vok X ρ0) : CUTOK X kR zWP c_btc0 7 ρ0 q_btcy0 := CUT_run kR_x kR_0 (Cs := [(zWP, c_cc0), (zWP, c_cc1)]) (fun C hC => by
    simp only [List.mem_cons, List.not_mem_nil, or_false] at hC
    rcases hC with hC | hC
    · rw [hC]; exact s_cc0
    · rw [hC]; exact s_cc1) c_btc0_f (Q := []) hv (fun q hq => by cases hq) 150 (b1 := true) (b2 := true) k_btcy0
theorem t_btc {X : pX} {ρ0 : sR} (hv : vok X ρ0) : CUTOK X kR zWP c_btc0 7 ρ0 q_btc := fun ρ k1 hF hI k4 => by
  have hL : (ρ.1 60064).toInt = abest (ρ.2.2.1 1380) (ρ.2.2.1 1412) := of_decide_eq_true (hF.2 _ (List.mem_cons_self))
  unfold abest at hL
  have n0 := nbc_0 (X := X) hF.1
  have n1 := nbc_1 (X := X) hF.1
  have z : ∀ (b : Nat) (v : Bool) (n : Int32), b % 2 = 0 → acounts (ρ.2.2.1 b) = v → n.toInt = (if v = true then 1 else 0) → sc X ρ (115, .elem (.arg b) (.int 0), .int n) = true := fun b v n hb h e => by
    show apred 115 [(aarr ρ (.elem (.arg b) (.int 0)), _)] n.toInt = true
    rw [aar_b hb]
    show decide (n.toInt = if acounts (ρ.2.2.1 b) = true then 1 else 0) = true
    rw [h, e]
    exact decide_eq_true rfl
  by_cases h0 : acounts (ρ.2.2.1 1380) = true
  · rw [if_pos h0] at hL
    by_cases h1 : acounts (ρ.2.2.1 1412) = true
    · rw [if_pos h1] at hL
      by_cases hn : abno (ρ.2.2.1 1380) < abno (ρ.2.2.1 1412)
      · rw [if_pos hn] at hL
        exact t_btcy1 hv ρ k1 ⟨hF.1, fcn (z 1380 true 1 rfl h0 rfl) (fcn (z 1412 true 1 rfl h1 rfl) (fcn (sc8_t (by rw [n0, n1]; exact hn)) (fcn (di_et (x := ρ.1 60064) (y := 1) hL) (hF.2))))⟩ hI k4
      · rw [if_neg hn] at hL
        exact t_btcy0 hv ρ k1 ⟨hF.1, fcn (z 1380 true 1 rfl h0 rfl) (fcn (z 1412 true 1 rfl h1 rfl) (fcn (sc8_f (by rw [n0, n1]; exact Int.not_lt.mp hn)) (fcn (di_et (x := ρ.1 60064) (y := 0) hL) (hF.2))))⟩ hI k4
    · rw [if_neg h1] at hL
      exact t_btcyn hv ρ k1 ⟨hF.1, fcn (z 1380 true 1 rfl h0 rfl) (fcn (z 1412 false 0 rfl (Bool.not_eq_true _ ▸ h1) rfl) (fcn (di_et (x := ρ.1 60064) (y := 0) hL) (hF.2)))⟩ hI k4
  · rw [if_neg h0] at hL
    have h0 := Bool.not_eq_true _ ▸ h0
    by_cases h1 : acounts (ρ.2.2.1 1412) = true
    · rw [if_pos h1] at hL
      exact t_btcny hv ρ k1 ⟨hF.1, fcn (z 1380 false 0 rfl h0 rfl) (fcn (z 1412 true 1 rfl h1 rfl) (fcn (di_et (x := ρ.1 60064) (y := 1) hL) (hF.2)))⟩ hI k4
    · rw [if_neg h1] at hL
      exact t_btcnn hv ρ k1 ⟨hF.1, fcn (z 1380 false 0 rfl h0 rfl) (fcn (z 1412 false 0 rfl (Bool.not_eq_true _ ▸ h1) rfl) (fcn (di_et (x := ρ.1 60064) (y := -1) hL) (hF.2)))⟩ hI k4
theorem e_btc : frun kR [] (cpl1 zWP c_btc0 [q_btc]) (cpl2 zWP c_btc0 [q_btc]) (cleaf kR zWP c_btc0 [q_btc]) 10 65536 (isatP (c_btc0.2.2.2.1) c_btc0.2.2.2.2.2.2.2.1) c_btc0.2.2.2.2.2.2.2.1 (sin0 mt_all c_btc0.1.1 7 c_btc0.2.1.1 (foot zWP c_btc0.2.2.1.1)) (sin0 mt_all c_btc0.1.2.1 7 c_btc0.2.1.2 (foot zWP c_btc0.2.2.1.2)) = true := by decide +kernel
theorem s_btc0 {X : pX} : SREL X pF pdfl mt_all kR zWP c_btc0 := SREL_QC kR_x kR_0 (Cs := []) (fun C hC => by cases hC) (d := 7) rfl c_btc0_f (Q := [q_btc]) (fun ρ0 hv => fun q hq => by
    simp only [List.mem_cons, List.not_mem_nil, or_false] at hq
    rw [hq]; exact t_btc hv) (QC_run 10 e_btc)
noncomputable def c_btc : sC := (c_btc0.1, c_btc0.2.1, c_btc0.2.2.1, c_btc0.2.2.2.1, c_btc0.2.2.2.2.1, (some (.arg 60064), some (.int 0)), [], c_btc0.2.2.2.2.2.2.2)
theorem s_btc {X : pX} : SREL X pF pdfl mt_all kR zWP c_btc := SREL_ans s_btc0 (fun ρ hF => hF) (fun ρ ρ' hF hA hG => ⟨⟨by
  have e : ρ'.1 60096 = ρ'.1 60064 := of_decide_eq_true (hG.2 _ List.mem_cons_self)
  show some (sv X ρ' (.arg 60064)) = some (sv X ρ' (.arg 60096))
  rw [sv_int rfl, sv_int rfl]
  show some (Value.int (ρ'.1 60064)) = some (Value.int (ρ'.1 60096))
  rw [e], rfl⟩, ⟨hG.1, fun f hf => by cases hf⟩⟩)
/-! ===== which bank counts, the model alone ===== -/
noncomputable def c_btm0 : sC := ((425, 292, 8), ([.long 0], [tr 219, .arg 1308]), ([], [219, 325, 223, 222]), [((150, .add (.elem (.arg 1380) (.int 0)) (.elem (.arg 1412) (.int 0)), .arg 60064), true)], ([60096, 60002, 60000, 60032], []), (some (.long 0), some (.arg 60096)), [((0, .arg 60096, .arg 60064), true)], ([], []))
theorem c_btm0_f : cfine zWP 65536 c_btm0 = true := by decide +kernel
noncomputable def q_btm : sCut := ((fr 0 425 0 [(0, .long 0)] [], [fBot], 7), (fr 0 292 0 [(0, tr 219), (1, .arg 1308)] [], [fBot], 7), [zf98zyk_0], [])
noncomputable def q_btmnn : sCut := ((fr 0 425 0 [(0, .long 0)] [], [fBot], 7), (fr 0 292 0 [(0, tr 219), (1, .arg 1308)] [], [fBot], 7), [zf98zyk_1, zf98zyk_2, zf98zyk_3, zf98zyk_0], [])
theorem k_btmnn : cbody kR [(zWP, c_cm0), (zWP, c_cm1)] (cpl1 zWP c_btm0 []) (cpl2 zWP c_btm0 []) (cleaf kR zWP c_btm0 []) 150 true true q_btmnn.2.2.1 q_btmnn.2.2.2 (cst zWP c_btm0.2.2.1.1 q_btmnn.1) (cst zWP c_btm0.2.2.1.2 q_btmnn.2.1) = true := by decide +kernel
theorem t_btmnn {X : pX} {ρ0 : sR} (hv : vok X ρ0) : CUTOK X kR zWP c_btm0 7 ρ0 q_btmnn := CUT_run kR_x kR_0 (Cs := [(zWP, c_cm0), (zWP, c_cm1)]) (fun C hC => by
    simp only [List.mem_cons, List.not_mem_nil, or_false] at hC
    rcases hC with hC | hC
    · rw [hC]; exact s_cm0
    · rw [hC]; exact s_cm1) c_btm0_f (Q := []) hv (fun q hq => by cases hq) 150 (b1 := true) (b2 := true) k_btmnn
noncomputable def q_btmny : sCut := ((fr 0 425 0 [(0, .long 0)] [], [fBot], 7), (fr 0 292 0 [(0, tr 219), (1, .arg 1308)] [], [fBot], 7), [zf98zyk_1, zf98zyk_4, zf98zyk_5, zf98zyk_0], [])
theorem k_btmny : cbody kR [(zWP, c_cm0), (zWP, c_cm1)] (cpl1 zWP c_btm0 []) (cpl2 zWP c_btm0 []) (cleaf kR zWP c_btm0 []) 150 true true q_btmny.2.2.1 q_btmny.2.2.2 (cst zWP c_btm0.2.2.1.1 q_btmny.1) (cst zWP c_btm0.2.2.1.2 q_btmny.2.1) = true := by decide +kernel
theorem t_btmny {X : pX} {ρ0 : sR} (hv : vok X ρ0) : CUTOK X kR zWP c_btm0 7 ρ0 q_btmny := CUT_run kR_x kR_0 (Cs := [(zWP, c_cm0), (zWP, c_cm1)]) (fun C hC => by
    simp only [List.mem_cons, List.not_mem_nil, or_false] at hC
    rcases hC with hC | hC
    · rw [hC]; exact s_cm0
    · rw [hC]; exact s_cm1) c_btm0_f (Q := []) hv (fun q hq => by cases hq) 150 (b1 := true) (b2 := true) k_btmny
noncomputable def q_btmyn : sCut := ((fr 0 425 0 [(0, .long 0)] [], [fBot], 7), (fr 0 292 0 [(0, tr 219), (1, .arg 1308)] [], [fBot], 7), [zf98zyk_6, zf98zyk_2, zf98zyk_7, zf98zyk_0], [])
theorem k_btmyn : cbody kR [(zWP, c_cm0), (zWP, c_cm1)] (cpl1 zWP c_btm0 []) (cpl2 zWP c_btm0 []) (cleaf kR zWP c_btm0 []) 150 true true q_btmyn.2.2.1 q_btmyn.2.2.2 (cst zWP c_btm0.2.2.1.1 q_btmyn.1) (cst zWP c_btm0.2.2.1.2 q_btmyn.2.1) = true := by decide +kernel
theorem t_btmyn {X : pX} {ρ0 : sR} (hv : vok X ρ0) : CUTOK X kR zWP c_btm0 7 ρ0 q_btmyn := CUT_run kR_x kR_0 (Cs := [(zWP, c_cm0), (zWP, c_cm1)]) (fun C hC => by
    simp only [List.mem_cons, List.not_mem_nil, or_false] at hC
    rcases hC with hC | hC
    · rw [hC]; exact s_cm0
    · rw [hC]; exact s_cm1) c_btm0_f (Q := []) hv (fun q hq => by cases hq) 150 (b1 := true) (b2 := true) k_btmyn
noncomputable def q_btmy1 : sCut := ((fr 0 425 0 [(0, .long 0)] [], [fBot], 7), (fr 0 292 0 [(0, tr 219), (1, .arg 1308)] [], [fBot], 7), [zf98zyk_6, zf98zyk_4, ((8, .op2 .lor (.op2 .lor (.op2 .lor (.op1 .i2l (.elem (.arg 1380) (.int 2))) (.op2 .lshl (.op1 .i2l (.elem (.arg 1380) (.int 3))) (.int 8))) (.op2 .lshl (.op1 .i2l (.elem (.arg 1380) (.int 4))) (.int 16))) (.op2 .lshl (.op1 .i2l (.elem (.arg 1380) (.int 5))) (.int 24)), .op2 .lor (.op2 .lor (.op2 .lor (.op1 .i2l (.elem (.arg 1412) (.int 2))) (.op2 .lshl (.op1 .i2l (.elem (.arg 1412) (.int 3))) (.int 8))) (.op2 .lshl (.op1 .i2l (.elem (.arg 1412) (.int 4))) (.int 16))) (.op2 .lshl (.op1 .i2l (.elem (.arg 1412) (.int 5))) (.int 24))), true), zf98zyk_5, zf98zyk_0], [])
theorem k_btmy1 : cbody kR [(zWP, c_cm0), (zWP, c_cm1)] (cpl1 zWP c_btm0 []) (cpl2 zWP c_btm0 []) (cleaf kR zWP c_btm0 []) 150 true true q_btmy1.2.2.1 q_btmy1.2.2.2 (cst zWP c_btm0.2.2.1.1 q_btmy1.1) (cst zWP c_btm0.2.2.1.2 q_btmy1.2.1) = true := by decide +kernel
theorem t_btmy1 {X : pX} {ρ0 : sR} (hv : vok X ρ0) : CUTOK X kR zWP c_btm0 7 ρ0 q_btmy1 := CUT_run kR_x kR_0 (Cs := [(zWP, c_cm0), (zWP, c_cm1)]) (fun C hC => by
    simp only [List.mem_cons, List.not_mem_nil, or_false] at hC
    rcases hC with hC | hC
    · rw [hC]; exact s_cm0
    · rw [hC]; exact s_cm1) c_btm0_f (Q := []) hv (fun q hq => by cases hq) 150 (b1 := true) (b2 := true) k_btmy1
noncomputable def q_btmy0 : sCut := ((fr 0 425 0 [(0, .long 0)] [], [fBot], 7), (fr 0 292 0 [(0, tr 219), (1, .arg 1308)] [], [fBot], 7), [zf98zyk_6, zf98zyk_4, ((8, .op2 .lor (.op2 .lor (.op2 .lor (.op1 .i2l (.elem (.arg 1380) (.int 2))) (.op2 .lshl (.op1 .i2l (.elem (.arg 1380) (.int 3))) (.int 8))) (.op2 .lshl (.op1 .i2l (.elem (.arg 1380) (.int 4))) (.int 16))) (.op2 .lshl (.op1 .i2l (.elem (.arg 1380) (.int 5))) (.int 24)), .op2 .lor (.op2 .lor (.op2 .lor (.op1 .i2l (.elem (.arg 1412) (.int 2))) (.op2 .lshl (.op1 .i2l (.elem (.arg 1412) (.int 3))) (.int 8))) (.op2 .lshl (.op1 .i2l (.elem (.arg 1412) (.int 4))) (.int 16))) (.op2 .lshl (.op1 .i2l (.elem (.arg 1412) (.int 5))) (.int 24))), false), zf98zyk_7, zf98zyk_0], [])
theorem k_btmy0 : cbody kR [(zWP, c_cm0), (zWP, c_cm1)] (cpl1 zWP c_btm0 []) (cpl2 zWP c_btm0 []) (cleaf kR zWP c_btm0 []) 150 true true q_btmy0.2.2.1 q_btmy0.2.2.2 (cst zWP c_btm0.2.2.1.1 q_btmy0.1) (cst zWP c_btm0.2.2.1.2 q_btmy0.2.1) = true := by decide +kernel
theorem t_btmy0 {X : pX} {ρ0 : sR} (hv : vok X ρ0) : CUTOK X kR zWP c_btm0 7 ρ0 q_btmy0 := CUT_run kR_x kR_0 (Cs := [(zWP, c_cm0), (zWP, c_cm1)]) (fun C hC => by
    simp only [List.mem_cons, List.not_mem_nil, or_false] at hC
    rcases hC with hC | hC
    · rw [hC]; exact s_cm0
    · rw [hC]; exact s_cm1) c_btm0_f (Q := []) hv (fun q hq => by cases hq) 150 (b1 := true) (b2 := true) k_btmy0
theorem t_btm {X : pX} {ρ0 : sR} (hv : vok X ρ0) : CUTOK X kR zWP c_btm0 7 ρ0 q_btm := fun ρ k1 hF hI k4 => by
  have hL : (ρ.1 60064).toInt = abest (ρ.2.2.1 1380) (ρ.2.2.1 1412) := of_decide_eq_true (hF.2 _ (List.mem_cons_self))
  unfold abest at hL
  have n0 := nbm_0 (X := X) hF.1
  have n1 := nbm_1 (X := X) hF.1
  have z : ∀ (b : Nat) (v : Bool) (n : Int32), b % 2 = 0 → acounts (ρ.2.2.1 b) = v → n.toInt = (if v = true then 1 else 0) → sc X ρ (115, .elem (.arg b) (.int 0), .int n) = true := fun b v n hb h e => by
    show apred 115 [(aarr ρ (.elem (.arg b) (.int 0)), _)] n.toInt = true
    rw [aar_b hb]
    show decide (n.toInt = if acounts (ρ.2.2.1 b) = true then 1 else 0) = true
    rw [h, e]
    exact decide_eq_true rfl
  by_cases h0 : acounts (ρ.2.2.1 1380) = true
  · rw [if_pos h0] at hL
    by_cases h1 : acounts (ρ.2.2.1 1412) = true
    · rw [if_pos h1] at hL
      by_cases hn : abno (ρ.2.2.1 1380) < abno (ρ.2.2.1 1412)
      · rw [if_pos hn] at hL
        exact t_btmy1 hv ρ k1 ⟨hF.1, fcn (z 1380 true 1 rfl h0 rfl) (fcn (z 1412 true 1 rfl h1 rfl) (fcn (sc8_t (by rw [n0, n1]; exact hn)) (fcn (di_et (x := ρ.1 60064) (y := 1) hL) (hF.2))))⟩ hI k4
      · rw [if_neg hn] at hL
        exact t_btmy0 hv ρ k1 ⟨hF.1, fcn (z 1380 true 1 rfl h0 rfl) (fcn (z 1412 true 1 rfl h1 rfl) (fcn (sc8_f (by rw [n0, n1]; exact Int.not_lt.mp hn)) (fcn (di_et (x := ρ.1 60064) (y := 0) hL) (hF.2))))⟩ hI k4
    · rw [if_neg h1] at hL
      exact t_btmyn hv ρ k1 ⟨hF.1, fcn (z 1380 true 1 rfl h0 rfl) (fcn (z 1412 false 0 rfl (Bool.not_eq_true _ ▸ h1) rfl) (fcn (di_et (x := ρ.1 60064) (y := 0) hL) (hF.2)))⟩ hI k4
  · rw [if_neg h0] at hL
    have h0 := Bool.not_eq_true _ ▸ h0
    by_cases h1 : acounts (ρ.2.2.1 1412) = true
    · rw [if_pos h1] at hL
      exact t_btmny hv ρ k1 ⟨hF.1, fcn (z 1380 false 0 rfl h0 rfl) (fcn (z 1412 true 1 rfl h1 rfl) (fcn (di_et (x := ρ.1 60064) (y := 1) hL) (hF.2)))⟩ hI k4
    · rw [if_neg h1] at hL
      exact t_btmnn hv ρ k1 ⟨hF.1, fcn (z 1380 false 0 rfl h0 rfl) (fcn (z 1412 false 0 rfl (Bool.not_eq_true _ ▸ h1) rfl) (fcn (di_et (x := ρ.1 60064) (y := -1) hL) (hF.2)))⟩ hI k4
theorem e_btm : frun kR [] (cpl1 zWP c_btm0 [q_btm]) (cpl2 zWP c_btm0 [q_btm]) (cleaf kR zWP c_btm0 [q_btm]) 10 65536 (isatP (c_btm0.2.2.2.1) c_btm0.2.2.2.2.2.2.2.1) c_btm0.2.2.2.2.2.2.2.1 (sin0 mt_all c_btm0.1.1 7 c_btm0.2.1.1 (foot zWP c_btm0.2.2.1.1)) (sin0 mt_all c_btm0.1.2.1 7 c_btm0.2.1.2 (foot zWP c_btm0.2.2.1.2)) = true := by decide +kernel
theorem s_btm0 {X : pX} : SREL X pF pdfl mt_all kR zWP c_btm0 := SREL_QC kR_x kR_0 (Cs := []) (fun C hC => by cases hC) (d := 7) rfl c_btm0_f (Q := [q_btm]) (fun ρ0 hv => fun q hq => by
    simp only [List.mem_cons, List.not_mem_nil, or_false] at hq
    rw [hq]; exact t_btm hv) (QC_run 10 e_btm)
noncomputable def c_btm : sC := (c_btm0.1, c_btm0.2.1, c_btm0.2.2.1, c_btm0.2.2.2.1, c_btm0.2.2.2.2.1, (some (.long 0), some (.arg 60064)), [], c_btm0.2.2.2.2.2.2.2)
theorem s_btm {X : pX} : SREL X pF pdfl mt_all kR zWP c_btm := SREL_ans s_btm0 (fun ρ hF => hF) (fun ρ ρ' hF hA hG => ⟨⟨rfl, by
  have e : ρ'.1 60096 = ρ'.1 60064 := of_decide_eq_true (hG.2 _ List.mem_cons_self)
  show some (sv X ρ' (.arg 60064)) = some (sv X ρ' (.arg 60096))
  rw [sv_int rfl, sv_int rfl]
  show some (Value.int (ρ'.1 60064)) = some (Value.int (ρ'.1 60096))
  rw [e]⟩, ⟨hG.1, fun f hf => by cases hf⟩⟩)
