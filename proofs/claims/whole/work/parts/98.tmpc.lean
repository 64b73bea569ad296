set_option maxRecDepth 20000
/-! ===== what a row of a map may name ===== -/
theorem mv_n {v : Int64} (h : 0 ≤ v.toInt) : v.toInt = (v.toBitVec.toNat : Int) ∧ v.toBitVec.toNat < 9223372036854775808 := by
  have e : v.toInt = v.toBitVec.toInt := rfl
  have b := v.toBitVec.isLt
  rw [e, BitVec.toInt_eq_toNat_cond] at h ⊢
  split at h
  · next q => rw [if_pos q]; exact ⟨rfl, by omega⟩
  · omega
theorem mv_i {x : Int64} {n : Nat} (h : x.toBitVec.toNat = n) (hn : n < 9223372036854775808) : x.toInt = n := by
  have e : x.toInt = x.toBitVec.toInt := rfl
  rw [e, BitVec.toInt_eq_toNat_of_lt (by omega), h]
theorem mv_8 {v : Int64} (h : 0 ≤ v.toInt) : (s2 .lushr (0, v) (8, 0)).2.toInt = v.toInt / 256 := by
  obtain ⟨e, b⟩ := mv_n h
  have q : (s2 .lushr (0, v) (8, 0)).2.toBitVec = v.toBitVec >>> 8 := rfl
  have := mv_i (x := (s2 .lushr (0, v) (8, 0)).2) (n := v.toBitVec.toNat / 256) (by rw [q, BitVec.toNat_ushiftRight, Nat.shiftRight_eq_div_pow]) (by omega)
  rw [this, e]
  omega
theorem mv_a {x m : Int64} {k : Nat} (h : 0 ≤ x.toInt) (hm : m.toBitVec.toNat = 2 ^ k - 1) : (x &&& m).toInt = x.toInt % (2 ^ k : Nat) := by
  obtain ⟨e, b⟩ := mv_n h
  have l := Nat.mod_le x.toBitVec.toNat (2 ^ k)
  have := mv_i (x := x &&& m) (n := x.toBitVec.toNat % 2 ^ k) (by rw [Int64.toBitVec_and, BitVec.toNat_and, hm, Nat.and_two_pow_sub_one_eq_mod]) (by omega)
  rw [this, e]
  omega
theorem mv_s {v : Int64} {k : Int32} {n : Nat} (h : 0 ≤ v.toInt) (q : (s2 .lshr (0, v) (k, 0)).2.toBitVec = v.toBitVec.sshiftRight n) : (s2 .lshr (0, v) (k, 0)).2.toInt = v.toInt / (2 ^ n : Nat) ∧ 0 ≤ (s2 .lshr (0, v) (k, 0)).2.toInt := by
  obtain ⟨e, b⟩ := mv_n h
  have hm : v.toBitVec.msb = false := by
    rw [BitVec.msb_eq_false_iff_two_mul_lt]
    omega
  have l := Nat.div_le_self v.toBitVec.toNat (2 ^ n)
  have := mv_i (x := (s2 .lshr (0, v) (k, 0)).2) (n := v.toBitVec.toNat / 2 ^ n) (by rw [q, BitVec.sshiftRight_eq_of_msb_false hm, BitVec.toNat_ushiftRight, Nat.shiftRight_eq_div_pow]) (by omega)
  exact ⟨by rw [this, e]; omega, by rw [this]; exact Int.natCast_nonneg _⟩
theorem mv_l {x : Int64} (h0 : 0 ≤ x.toInt) (h1 : x.toInt ≤ 2147483647) : x.toInt32.toInt = x.toInt := by
  have := congrArg Int64.toInt (l_back (x := x) (by omega) (by omega))
  rw [Int32.toInt_toInt64] at this
  exact this
theorem mv_ix {X : pX} {ρ : sR} (h : 0 ≤ (ρ.2.1 60033).toInt) (h2 : (ρ.2.1 60033).toInt ≤ 4294967295) : (sd X ρ (.op1 .l2i (.op2 .land (.op2 .lshr (.arg 60033) (.int 16)) (.long 65535)))).1.toInt = (ρ.2.1 60033).toInt / 65536 ∧ (sd X ρ (.op1 .l2i (.op2 .land (.op2 .lshr (.arg 60033) (.int 8)) (.long 255)))).1.toInt = (ρ.2.1 60033).toInt / 256 % 256 := by
  obtain ⟨a1, a2⟩ := mv_s (v := ρ.2.1 60033) (k := 16) (n := 16) h rfl
  obtain ⟨b1, b2⟩ := mv_s (v := ρ.2.1 60033) (k := 8) (n := 8) h rfl
  have a3 := mv_a (x := (s2 .lshr (0, ρ.2.1 60033) (16, 0)).2) (m := 65535) (k := 16) a2 rfl
  have b3 := mv_a (x := (s2 .lshr (0, ρ.2.1 60033) (8, 0)).2) (m := 255) (k := 8) b2 rfl
  have p16 : ((2 ^ 16 : Nat) : Int) = 65536 := rfl
  have p8 : ((2 ^ 8 : Nat) : Int) = 256 := rfl
  rw [p16] at a1 a3
  rw [p8] at b1 b3
  constructor
  · show ((s2 .lshr (0, ρ.2.1 60033) (16, 0)).2 &&& 65535).toInt32.toInt = _
    rw [mv_l (by omega) (by omega)]
    omega
  · show ((s2 .lshr (0, ρ.2.1 60033) (8, 0)).2 &&& 255).toInt32.toInt = _
    rw [mv_l (by omega) (by omega)]
    omega
theorem op_key {X : pX} {ρ : sR} (hK : kok X ρ kR) {p : Nat} (hp : p < 156) {s : Nat} (h : (ρ.1 s).toInt = p) : (sd X ρ (.elem (.string "" 1) (.mul (.arg s) (.int 5)))).1 = pt_BOOK.getD (5 * p) 0 := by
  have hi : (ρ.1 s * 5).toNatClampNeg = 5 * p := by
    have z5 : (5 : Int32).toInt = 5 := rfl
    have e : (ρ.1 s * 5).toInt = (p : Int) * 5 := i_of (n := (p : Int) * 5) (by rw [i_ml (i_s (ρ.1 s)) (show (5 : Int32) = Int32.ofInt 5 from rfl), h]) (by omega) (by omega)
    rw [s_nat, e]
    omega
  obtain ⟨n, f, hX, hf⟩ := hK.2.1.1 1 pt_BOOK rfl
  show (match X 1 with
    | some a => (a.2 (ρ.1 s * 5).toNatClampNeg, (0 : Int64))
    | none => (0, 0)).1 = _
  rw [hX]
  show f (ρ.1 s * 5).toNatClampNeg = _
  rw [hi, hf]
theorem mk_t : (List.range 156).all (fun p => decide ((pt_BOOK.getD (5 * p) 0).toInt / 256 = bkw.getD p 0 % 65536) && (decide ((pt_BOOK.getD (5 * p) 0).toInt % 256 = bkw.getD p 0 / 65536) && decide (aslot ((pt_BOOK.getD (5 * p) 0).toInt / 256) ((pt_BOOK.getD (5 * p) 0).toInt % 256) = p))) = true := by decide +kernel
theorem mf_11 : (List.range 156).all (fun p => decide (pt_BOOK.getD (5 * p + 1) 0 &&& 256 = 0) || ([115, 122, 132, 138, 139, 140, 147, 153, 154] : List Nat).contains p) = true := by decide +kernel
theorem mg_11 : (List.range 156).all (fun p => decide ((Int32.ofInt (ztab106.getD p 0) &&& 8 = 0) = (pt_BOOK.getD (5 * p + 1) 0 &&& 256 = 0))) = true := by decide +kernel
theorem mh_11 : ([0, 327688, 393232, 458784, 1614807056, 1616904200, 1618608160, 1619066912, 1619197984, 1619263520, 1622671376, 1627259168, 1627324448] : List Int).all (fun c => ([(115, 16), (122, 8), (132, 32), (138, 32), (139, 32), (140, 32), (147, 16), (153, 32), (154, 32)] : List (Nat × Int)).all (fun q => !(decide (c / 256 = (pt_BOOK.getD (5 * q.1) 0).toInt)) || decide (c % 256 = q.2))) = true := by decide +kernel
theorem mi_11 : ([(115, 16), (122, 8), (132, 32), (138, 32), (139, 32), (140, 32), (147, 16), (153, 32), (154, 32)] : List (Nat × Int)).all (fun q => ([0, 327688, 393232, 458784, 1614807056, 1616904200, 1618608160, 1619066912, 1619197984, 1619263520, 1622671376, 1627259168, 1627324448] : List Int).contains ((pt_BOOK.getD (5 * q.1) 0).toInt * 256 + q.2)) = true := by decide +kernel
theorem mj_11 : ([0, 327688, 393232, 458784, 1614807056, 1616904200, 1618608160, 1619066912, 1619197984, 1619263520, 1622671376, 1627259168, 1627324448] : List Int).all (fun c => decide (c = 327688) || decide (c = 393232) || decide (c = 458784) || decide (c = 0) || ([(115, 16), (122, 8), (132, 32), (138, 32), (139, 32), (140, 32), (147, 16), (153, 32), (154, 32)] : List (Nat × Int)).any (fun q => decide ((pt_BOOK.getD (5 * q.1) 0).toInt = c / 256) && (decide (q.1 < 156) && !(decide (pt_BOOK.getD (5 * q.1 + 1) 0 &&& 256 = 0))))) = true := by decide +kernel
theorem mf_12 : (List.range 156).all (fun p => decide (pt_BOOK.getD (5 * p + 1) 0 &&& 512 = 0) || ([1, 114, 116, 123, 124, 125, 130, 131, 148, 149, 150, 151] : List Nat).contains p) = true := by decide +kernel
theorem mg_12 : (List.range 156).all (fun p => decide ((Int32.ofInt (ztab106.getD p 0) &&& 16 = 0) = (pt_BOOK.getD (5 * p + 1) 0 &&& 512 = 0))) = true := by decide +kernel
theorem mh_12 : ([0, 268501000, 1614741520, 1614872592, 1616969736, 1617035296, 1617166368, 1617625120, 1617690656, 1622736912, 1622802464, 1622868000, 1627193376] : List Int).all (fun c => ([(1, 8), (114, 16), (116, 16), (123, 8), (124, 32), (125, 32), (130, 32), (131, 32), (148, 16), (149, 32), (150, 32), (151, 32)] : List (Nat × Int)).all (fun q => !(decide (c / 256 = (pt_BOOK.getD (5 * q.1) 0).toInt)) || decide (c % 256 = q.2))) = true := by decide +kernel
theorem mi_12 : ([(1, 8), (114, 16), (116, 16), (123, 8), (124, 32), (125, 32), (130, 32), (131, 32), (148, 16), (149, 32), (150, 32), (151, 32)] : List (Nat × Int)).all (fun q => ([0, 268501000, 1614741520, 1614872592, 1616969736, 1617035296, 1617166368, 1617625120, 1617690656, 1622736912, 1622802464, 1622868000, 1627193376] : List Int).contains ((pt_BOOK.getD (5 * q.1) 0).toInt * 256 + q.2)) = true := by decide +kernel
theorem mj_12 : ([0, 268501000, 1614741520, 1614872592, 1616969736, 1617035296, 1617166368, 1617625120, 1617690656, 1622736912, 1622802464, 1622868000, 1627193376] : List Int).all (fun c => decide (c = 0) || ([(1, 8), (114, 16), (116, 16), (123, 8), (124, 32), (125, 32), (130, 32), (131, 32), (148, 16), (149, 32), (150, 32), (151, 32)] : List (Nat × Int)).any (fun q => decide ((pt_BOOK.getD (5 * q.1) 0).toInt = c / 256) && (decide (q.1 < 156) && !(decide (pt_BOOK.getD (5 * q.1 + 1) 0 &&& 512 = 0))))) = true := by decide +kernel
/-! ===== mappedCode and isMapped: 11, it may be named ===== -/
noncomputable def c_mp111 : sC := ((221, 271, 6), ([.arg 60033, .int 256], [tr 219, .int 11, .arg 60033]), ([], [219, 223, 222, 228, 220, 221]), [((8, .arg 60033, .long 0), false), ((8, .long 4294967295, .arg 60033), false), ((131, .add (.int 11) (.arg 60033), .int 1), true)], ([60064, 60160], []), (some (.int 0), some (.int 1)), [], ([], []))
theorem c_mp111_f : cfine zWP 65536 c_mp111 = true := by decide +kernel
noncomputable def q_mp111x115 : sCut := ((fr 0 221 25 [(0, .arg 60033), (2, .int 256), (3, .int 115)] [], [fBot], 5), (fr 0 271 0 [(0, tr 219), (1, .int 11), (2, .arg 60033)] [], [fBot], 5), [((6, .long 6307840, .op2 .lushr (.arg 60033) (.int 8)), true), ((6, .op2 .land (.arg 60033) (.long 255), .long 16), true), ((6, .long 16, .op2 .land (.arg 60033) (.long 255)), true), ((109, .add (.op1 .l2i (.op2 .land (.op2 .lshr (.arg 60033) (.int 16)) (.long 65535))) (.op1 .l2i (.op2 .land (.op2 .lshr (.arg 60033) (.int 8)) (.long 255))), .int 115), true), ((2, .op1 .l2i (.op2 .land (.op2 .lshr (.arg 60033) (.int 16)) (.long 65535)), .int 0), false), ((2, .int 65535, .op1 .l2i (.op2 .land (.op2 .lshr (.arg 60033) (.int 16)) (.long 65535))), false), ((8, .arg 60033, .long 0), false), ((8, .long 4294967295, .arg 60033), false), ((131, .add (.int 11) (.arg 60033), .int 1), true), ((6, .arg 60033, .long 0), false), ((6, .arg 60033, .long 327688), false), ((6, .arg 60033, .long 393232), false), ((6, .arg 60033, .long 458784), false)], [])
theorem k_mp111x115 : cbody kR [(zWP, c_fndl)] (cpl1 zWP c_mp111 []) (cpl2 zWP c_mp111 []) (cleaf kR zWP c_mp111 []) 300 true true q_mp111x115.2.2.1 q_mp111x115.2.2.2 (cst zWP c_mp111.2.2.1.1 q_mp111x115.1) (cst zWP c_mp111.2.2.1.2 q_mp111x115.2.1) = true := by decide +kernel
theorem t_mp111x115 {X : pX} {ρ0 : sR} (hv : vok X ρ0) : CUTOK X kR zWP c_mp111 5 ρ0 q_mp111x115 := CUT_run kR_x kR_0 (Cs := [(zWP, c_fndl)]) (fun C hC => by rw [List.mem_singleton.mp hC]; exact s_fndl) c_mp111_f (Q := []) hv (fun q hq => by cases hq) 300 (b1 := true) (b2 := true) k_mp111x115
noncomputable def q_mp111x122 : sCut := ((fr 0 221 25 [(0, .arg 60033), (2, .int 256), (3, .int 122)] [], [fBot], 5), (fr 0 271 0 [(0, tr 219), (1, .int 11), (2, .arg 60033)] [], [fBot], 5), [((6, .long 6316032, .op2 .lushr (.arg 60033) (.int 8)), true), ((6, .op2 .land (.arg 60033) (.long 255), .long 8), true), ((6, .long 8, .op2 .land (.arg 60033) (.long 255)), true), ((109, .add (.op1 .l2i (.op2 .land (.op2 .lshr (.arg 60033) (.int 16)) (.long 65535))) (.op1 .l2i (.op2 .land (.op2 .lshr (.arg 60033) (.int 8)) (.long 255))), .int 122), true), ((2, .op1 .l2i (.op2 .land (.op2 .lshr (.arg 60033) (.int 16)) (.long 65535)), .int 0), false), ((2, .int 65535, .op1 .l2i (.op2 .land (.op2 .lshr (.arg 60033) (.int 16)) (.long 65535))), false), ((8, .arg 60033, .long 0), false), ((8, .long 4294967295, .arg 60033), false), ((131, .add (.int 11) (.arg 60033), .int 1), true), ((6, .arg 60033, .long 0), false), ((6, .arg 60033, .long 327688), false), ((6, .arg 60033, .long 393232), false), ((6, .arg 60033, .long 458784), false)], [])
theorem k_mp111x122 : cbody kR [(zWP, c_fndl)] (cpl1 zWP c_mp111 []) (cpl2 zWP c_mp111 []) (cleaf kR zWP c_mp111 []) 300 true true q_mp111x122.2.2.1 q_mp111x122.2.2.2 (cst zWP c_mp111.2.2.1.1 q_mp111x122.1) (cst zWP c_mp111.2.2.1.2 q_mp111x122.2.1) = true := by decide +kernel
theorem t_mp111x122 {X : pX} {ρ0 : sR} (hv : vok X ρ0) : CUTOK X kR zWP c_mp111 5 ρ0 q_mp111x122 := CUT_run kR_x kR_0 (Cs := [(zWP, c_fndl)]) (fun C hC => by rw [List.mem_singleton.mp hC]; exact s_fndl) c_mp111_f (Q := []) hv (fun q hq => by cases hq) 300 (b1 := true) (b2 := true) k_mp111x122
noncomputable def q_mp111x132 : sCut := ((fr 0 221 25 [(0, .arg 60033), (2, .int 256), (3, .int 132)] [], [fBot], 5), (fr 0 271 0 [(0, tr 219), (1, .int 11), (2, .arg 60033)] [], [fBot], 5), [((6, .long 6322688, .op2 .lushr (.arg 60033) (.int 8)), true), ((6, .op2 .land (.arg 60033) (.long 255), .long 32), true), ((6, .long 32, .op2 .land (.arg 60033) (.long 255)), true), ((109, .add (.op1 .l2i (.op2 .land (.op2 .lshr (.arg 60033) (.int 16)) (.long 65535))) (.op1 .l2i (.op2 .land (.op2 .lshr (.arg 60033) (.int 8)) (.long 255))), .int 132), true), ((2, .op1 .l2i (.op2 .land (.op2 .lshr (.arg 60033) (.int 16)) (.long 65535)), .int 0), false), ((2, .int 65535, .op1 .l2i (.op2 .land (.op2 .lshr (.arg 60033) (.int 16)) (.long 65535))), false), ((8, .arg 60033, .long 0), false), ((8, .long 4294967295, .arg 60033), false), ((131, .add (.int 11) (.arg 60033), .int 1), true), ((6, .arg 60033, .long 0), false), ((6, .arg 60033, .long 327688), false), ((6, .arg 60033, .long 393232), false), ((6, .arg 60033, .long 458784), false)], [])
theorem k_mp111x132 : cbody kR [(zWP, c_fndl)] (cpl1 zWP c_mp111 []) (cpl2 zWP c_mp111 []) (cleaf kR zWP c_mp111 []) 300 true true q_mp111x132.2.2.1 q_mp111x132.2.2.2 (cst zWP c_mp111.2.2.1.1 q_mp111x132.1) (cst zWP c_mp111.2.2.1.2 q_mp111x132.2.1) = true := by decide +kernel
theorem t_mp111x132 {X : pX} {ρ0 : sR} (hv : vok X ρ0) : CUTOK X kR zWP c_mp111 5 ρ0 q_mp111x132 := CUT_run kR_x kR_0 (Cs := [(zWP, c_fndl)]) (fun C hC => by rw [List.mem_singleton.mp hC]; exact s_fndl) c_mp111_f (Q := []) hv (fun q hq => by cases hq) 300 (b1 := true) (b2 := true) k_mp111x132
noncomputable def q_mp111x138 : sCut := ((fr 0 221 25 [(0, .arg 60033), (2, .int 256), (3, .int 138)] [], [fBot], 5), (fr 0 271 0 [(0, tr 219), (1, .int 11), (2, .arg 60033)] [], [fBot], 5), [((6, .long 6324480, .op2 .lushr (.arg 60033) (.int 8)), true), ((6, .op2 .land (.arg 60033) (.long 255), .long 32), true), ((6, .long 32, .op2 .land (.arg 60033) (.long 255)), true), ((109, .add (.op1 .l2i (.op2 .land (.op2 .lshr (.arg 60033) (.int 16)) (.long 65535))) (.op1 .l2i (.op2 .land (.op2 .lshr (.arg 60033) (.int 8)) (.long 255))), .int 138), true), ((2, .op1 .l2i (.op2 .land (.op2 .lshr (.arg 60033) (.int 16)) (.long 65535)), .int 0), false), ((2, .int 65535, .op1 .l2i (.op2 .land (.op2 .lshr (.arg 60033) (.int 16)) (.long 65535))), false), ((8, .arg 60033, .long 0), false), ((8, .long 4294967295, .arg 60033), false), ((131, .add (.int 11) (.arg 60033), .int 1), true), ((6, .arg 60033, .long 0), false), ((6, .arg 60033, .long 327688), false), ((6, .arg 60033, .long 393232), false), ((6, .arg 60033, .long 458784), false)], [])
theorem k_mp111x138 : cbody kR [(zWP, c_fndl)] (cpl1 zWP c_mp111 []) (cpl2 zWP c_mp111 []) (cleaf kR zWP c_mp111 []) 300 true true q_mp111x138.2.2.1 q_mp111x138.2.2.2 (cst zWP c_mp111.2.2.1.1 q_mp111x138.1) (cst zWP c_mp111.2.2.1.2 q_mp111x138.2.1) = true := by decide +kernel
theorem t_mp111x138 {X : pX} {ρ0 : sR} (hv : vok X ρ0) : CUTOK X kR zWP c_mp111 5 ρ0 q_mp111x138 := CUT_run kR_x kR_0 (Cs := [(zWP, c_fndl)]) (fun C hC => by rw [List.mem_singleton.mp hC]; exact s_fndl) c_mp111_f (Q := []) hv (fun q hq => by cases hq) 300 (b1 := true) (b2 := true) k_mp111x138
noncomputable def q_mp111x139 : sCut := ((fr 0 221 25 [(0, .arg 60033), (2, .int 256), (3, .int 139)] [], [fBot], 5), (fr 0 271 0 [(0, tr 219), (1, .int 11), (2, .arg 60033)] [], [fBot], 5), [((6, .long 6324992, .op2 .lushr (.arg 60033) (.int 8)), true), ((6, .op2 .land (.arg 60033) (.long 255), .long 32), true), ((6, .long 32, .op2 .land (.arg 60033) (.long 255)), true), ((109, .add (.op1 .l2i (.op2 .land (.op2 .lshr (.arg 60033) (.int 16)) (.long 65535))) (.op1 .l2i (.op2 .land (.op2 .lshr (.arg 60033) (.int 8)) (.long 255))), .int 139), true), ((2, .op1 .l2i (.op2 .land (.op2 .lshr (.arg 60033) (.int 16)) (.long 65535)), .int 0), false), ((2, .int 65535, .op1 .l2i (.op2 .land (.op2 .lshr (.arg 60033) (.int 16)) (.long 65535))), false), ((8, .arg 60033, .long 0), false), ((8, .long 4294967295, .arg 60033), false), ((131, .add (.int 11) (.arg 60033), .int 1), true), ((6, .arg 60033, .long 0), false), ((6, .arg 60033, .long 327688), false), ((6, .arg 60033, .long 393232), false), ((6, .arg 60033, .long 458784), false)], [])
theorem k_mp111x139 : cbody kR [(zWP, c_fndl)] (cpl1 zWP c_mp111 []) (cpl2 zWP c_mp111 []) (cleaf kR zWP c_mp111 []) 300 true true q_mp111x139.2.2.1 q_mp111x139.2.2.2 (cst zWP c_mp111.2.2.1.1 q_mp111x139.1) (cst zWP c_mp111.2.2.1.2 q_mp111x139.2.1) = true := by decide +kernel
theorem t_mp111x139 {X : pX} {ρ0 : sR} (hv : vok X ρ0) : CUTOK X kR zWP c_mp111 5 ρ0 q_mp111x139 := CUT_run kR_x kR_0 (Cs := [(zWP, c_fndl)]) (fun C hC => by rw [List.mem_singleton.mp hC]; exact s_fndl) c_mp111_f (Q := []) hv (fun q hq => by cases hq) 300 (b1 := true) (b2 := true) k_mp111x139
noncomputable def q_mp111x140 : sCut := ((fr 0 221 25 [(0, .arg 60033), (2, .int 256), (3, .int 140)] [], [fBot], 5), (fr 0 271 0 [(0, tr 219), (1, .int 11), (2, .arg 60033)] [], [fBot], 5), [((6, .long 6325248, .op2 .lushr (.arg 60033) (.int 8)), true), ((6, .op2 .land (.arg 60033) (.long 255), .long 32), true), ((6, .long 32, .op2 .land (.arg 60033) (.long 255)), true), ((109, .add (.op1 .l2i (.op2 .land (.op2 .lshr (.arg 60033) (.int 16)) (.long 65535))) (.op1 .l2i (.op2 .land (.op2 .lshr (.arg 60033) (.int 8)) (.long 255))), .int 140), true), ((2, .op1 .l2i (.op2 .land (.op2 .lshr (.arg 60033) (.int 16)) (.long 65535)), .int 0), false), ((2, .int 65535, .op1 .l2i (.op2 .land (.op2 .lshr (.arg 60033) (.int 16)) (.long 65535))), false), ((8, .arg 60033, .long 0), false), ((8, .long 4294967295, .arg 60033), false), ((131, .add (.int 11) (.arg 60033), .int 1), true), ((6, .arg 60033, .long 0), false), ((6, .arg 60033, .long 327688), false), ((6, .arg 60033, .long 393232), false), ((6, .arg 60033, .long 458784), false)], [])
theorem k_mp111x140 : cbody kR [(zWP, c_fndl)] (cpl1 zWP c_mp111 []) (cpl2 zWP c_mp111 []) (cleaf kR zWP c_mp111 []) 300 true true q_mp111x140.2.2.1 q_mp111x140.2.2.2 (cst zWP c_mp111.2.2.1.1 q_mp111x140.1) (cst zWP c_mp111.2.2.1.2 q_mp111x140.2.1) = true := by decide +kernel
theorem t_mp111x140 {X : pX} {ρ0 : sR} (hv : vok X ρ0) : CUTOK X kR zWP c_mp111 5 ρ0 q_mp111x140 := CUT_run kR_x kR_0 (Cs := [(zWP, c_fndl)]) (fun C hC => by rw [List.mem_singleton.mp hC]; exact s_fndl) c_mp111_f (Q := []) hv (fun q hq => by cases hq) 300 (b1 := true) (b2 := true) k_mp111x140
noncomputable def q_mp111x147 : sCut := ((fr 0 221 25 [(0, .arg 60033), (2, .int 256), (3, .int 147)] [], [fBot], 5), (fr 0 271 0 [(0, tr 219), (1, .int 11), (2, .arg 60033)] [], [fBot], 5), [((6, .long 6338560, .op2 .lushr (.arg 60033) (.int 8)), true), ((6, .op2 .land (.arg 60033) (.long 255), .long 16), true), ((6, .long 16, .op2 .land (.arg 60033) (.long 255)), true), ((109, .add (.op1 .l2i (.op2 .land (.op2 .lshr (.arg 60033) (.int 16)) (.long 65535))) (.op1 .l2i (.op2 .land (.op2 .lshr (.arg 60033) (.int 8)) (.long 255))), .int 147), true), ((2, .op1 .l2i (.op2 .land (.op2 .lshr (.arg 60033) (.int 16)) (.long 65535)), .int 0), false), ((2, .int 65535, .op1 .l2i (.op2 .land (.op2 .lshr (.arg 60033) (.int 16)) (.long 65535))), false), ((8, .arg 60033, .long 0), false), ((8, .long 4294967295, .arg 60033), false), ((131, .add (.int 11) (.arg 60033), .int 1), true), ((6, .arg 60033, .long 0), false), ((6, .arg 60033, .long 327688), false), ((6, .arg 60033, .long 393232), false), ((6, .arg 60033, .long 458784), false)], [])
theorem k_mp111x147 : cbody kR [(zWP, c_fndl)] (cpl1 zWP c_mp111 []) (cpl2 zWP c_mp111 []) (cleaf kR zWP c_mp111 []) 300 true true q_mp111x147.2.2.1 q_mp111x147.2.2.2 (cst zWP c_mp111.2.2.1.1 q_mp111x147.1) (cst zWP c_mp111.2.2.1.2 q_mp111x147.2.1) = true := by decide +kernel
theorem t_mp111x147 {X : pX} {ρ0 : sR} (hv : vok X ρ0) : CUTOK X kR zWP c_mp111 5 ρ0 q_mp111x147 := CUT_run kR_x kR_0 (Cs := [(zWP, c_fndl)]) (fun C hC => by rw [List.mem_singleton.mp hC]; exact s_fndl) c_mp111_f (Q := []) hv (fun q hq => by cases hq) 300 (b1 := true) (b2 := true) k_mp111x147
noncomputable def q_mp111x153 : sCut := ((fr 0 221 25 [(0, .arg 60033), (2, .int 256), (3, .int 153)] [], [fBot], 5), (fr 0 271 0 [(0, tr 219), (1, .int 11), (2, .arg 60033)] [], [fBot], 5), [((6, .long 6356481, .op2 .lushr (.arg 60033) (.int 8)), true), ((6, .op2 .land (.arg 60033) (.long 255), .long 32), true), ((6, .long 32, .op2 .land (.arg 60033) (.long 255)), true), ((109, .add (.op1 .l2i (.op2 .land (.op2 .lshr (.arg 60033) (.int 16)) (.long 65535))) (.op1 .l2i (.op2 .land (.op2 .lshr (.arg 60033) (.int 8)) (.long 255))), .int 153), true), ((2, .op1 .l2i (.op2 .land (.op2 .lshr (.arg 60033) (.int 16)) (.long 65535)), .int 0), false), ((2, .int 65535, .op1 .l2i (.op2 .land (.op2 .lshr (.arg 60033) (.int 16)) (.long 65535))), false), ((8, .arg 60033, .long 0), false), ((8, .long 4294967295, .arg 60033), false), ((131, .add (.int 11) (.arg 60033), .int 1), true), ((6, .arg 60033, .long 0), false), ((6, .arg 60033, .long 327688), false), ((6, .arg 60033, .long 393232), false), ((6, .arg 60033, .long 458784), false)], [])
theorem k_mp111x153 : cbody kR [(zWP, c_fndl)] (cpl1 zWP c_mp111 []) (cpl2 zWP c_mp111 []) (cleaf kR zWP c_mp111 []) 300 true true q_mp111x153.2.2.1 q_mp111x153.2.2.2 (cst zWP c_mp111.2.2.1.1 q_mp111x153.1) (cst zWP c_mp111.2.2.1.2 q_mp111x153.2.1) = true := by decide +kernel
theorem t_mp111x153 {X : pX} {ρ0 : sR} (hv : vok X ρ0) : CUTOK X kR zWP c_mp111 5 ρ0 q_mp111x153 := CUT_run kR_x kR_0 (Cs := [(zWP, c_fndl)]) (fun C hC => by rw [List.mem_singleton.mp hC]; exact s_fndl) c_mp111_f (Q := []) hv (fun q hq => by cases hq) 300 (b1 := true) (b2 := true) k_mp111x153
noncomputable def q_mp111x154 : sCut := ((fr 0 221 25 [(0, .arg 60033), (2, .int 256), (3, .int 154)] [], [fBot], 5), (fr 0 271 0 [(0, tr 219), (1, .int 11), (2, .arg 60033)] [], [fBot], 5), [((6, .long 6356736, .op2 .lushr (.arg 60033) (.int 8)), true), ((6, .op2 .land (.arg 60033) (.long 255), .long 32), true), ((6, .long 32, .op2 .land (.arg 60033) (.long 255)), true), ((109, .add (.op1 .l2i (.op2 .land (.op2 .lshr (.arg 60033) (.int 16)) (.long 65535))) (.op1 .l2i (.op2 .land (.op2 .lshr (.arg 60033) (.int 8)) (.long 255))), .int 154), true), ((2, .op1 .l2i (.op2 .land (.op2 .lshr (.arg 60033) (.int 16)) (.long 65535)), .int 0), false), ((2, .int 65535, .op1 .l2i (.op2 .land (.op2 .lshr (.arg 60033) (.int 16)) (.long 65535))), false), ((8, .arg 60033, .long 0), false), ((8, .long 4294967295, .arg 60033), false), ((131, .add (.int 11) (.arg 60033), .int 1), true), ((6, .arg 60033, .long 0), false), ((6, .arg 60033, .long 327688), false), ((6, .arg 60033, .long 393232), false), ((6, .arg 60033, .long 458784), false)], [])
theorem k_mp111x154 : cbody kR [(zWP, c_fndl)] (cpl1 zWP c_mp111 []) (cpl2 zWP c_mp111 []) (cleaf kR zWP c_mp111 []) 300 true true q_mp111x154.2.2.1 q_mp111x154.2.2.2 (cst zWP c_mp111.2.2.1.1 q_mp111x154.1) (cst zWP c_mp111.2.2.1.2 q_mp111x154.2.1) = true := by decide +kernel
theorem t_mp111x154 {X : pX} {ρ0 : sR} (hv : vok X ρ0) : CUTOK X kR zWP c_mp111 5 ρ0 q_mp111x154 := CUT_run kR_x kR_0 (Cs := [(zWP, c_fndl)]) (fun C hC => by rw [List.mem_singleton.mp hC]; exact s_fndl) c_mp111_f (Q := []) hv (fun q hq => by cases hq) 300 (b1 := true) (b2 := true) k_mp111x154
noncomputable def q_mp111L : sCut := ((fr 0 221 25 [(0, .arg 60033), (2, .int 256), (3, .arg 60064)] [], [fBot], 5), (fr 0 271 0 [(0, tr 219), (1, .int 11), (2, .arg 60033)] [], [fBot], 5), [((2, .arg 60064, .int 0), false), ((2, .int 156, .arg 60064), false), ((138, .add (.int 256) (.arg 60033), .arg 60064), true), ((8, .arg 60033, .long 0), false), ((8, .long 4294967295, .arg 60033), false), ((131, .add (.int 11) (.arg 60033), .int 1), true), ((6, .arg 60033, .long 0), false), ((6, .arg 60033, .long 327688), false), ((6, .arg 60033, .long 393232), false), ((6, .arg 60033, .long 458784), false)], [])
noncomputable def q_mp111LL : sCut := ((fr 0 221 25 [(0, .arg 60033), (2, .int 256), (3, .arg 60064)] [], [fBot], 5), (fr 0 271 0 [(0, tr 219), (1, .int 11), (2, .arg 60033)] [], [fBot], 5), [((2, .sub (.int 156) (.arg 60064), .arg 64032), true), ((2, .arg 60064, .int 0), false), ((2, .int 156, .arg 60064), false), ((138, .add (.int 256) (.arg 60033), .arg 60064), true), ((8, .arg 60033, .long 0), false), ((8, .long 4294967295, .arg 60033), false), ((131, .add (.int 11) (.arg 60033), .int 1), true), ((6, .arg 60033, .long 0), false), ((6, .arg 60033, .long 327688), false), ((6, .arg 60033, .long 393232), false), ((6, .arg 60033, .long 458784), false)], [])
noncomputable def q_mp111LE : sCut := ((fr 0 221 25 [(0, .arg 60033), (2, .int 256), (3, .arg 60064)] [], [fBot], 5), (fr 0 271 0 [(0, tr 219), (1, .int 11), (2, .arg 60033)] [], [fBot], 5), [((0, .sub (.int 156) (.arg 60064), .arg 64032), true), ((2, .arg 60064, .int 0), false), ((2, .int 156, .arg 60064), false), ((138, .add (.int 256) (.arg 60033), .arg 60064), true), ((8, .arg 60033, .long 0), false), ((8, .long 4294967295, .arg 60033), false), ((131, .add (.int 11) (.arg 60033), .int 1), true), ((6, .arg 60033, .long 0), false), ((6, .arg 60033, .long 327688), false), ((6, .arg 60033, .long 393232), false), ((6, .arg 60033, .long 458784), false)], [])
noncomputable def q_mp111LEk : sCut := ((fr 0 221 25 [(0, .arg 60033), (2, .int 256), (3, .arg 60064)] [], [fBot], 5), (fr 0 271 0 [(0, tr 219), (1, .int 11), (2, .arg 60033)] [], [fBot], 5), [((6, .op1 .i2l (.elem (.string "" 1) (.mul (.arg 60064) (.int 5))), .op2 .lushr (.arg 60033) (.int 8)), false), ((2, .arg 60064, .int 156), true), ((2, .sub (.int 156) (.add (.arg 60064) (.int 1)), .arg 64032), true), ((2, .add (.arg 60064) (.int 1), .int 0), false), ((2, .int 156, .add (.arg 60064) (.int 1)), false), ((138, .add (.int 256) (.arg 60033), .add (.arg 60064) (.int 1)), true), ((0, .sub (.int 156) (.arg 60064), .arg 64032), true), ((2, .arg 60064, .int 0), false), ((2, .int 156, .arg 60064), false), ((138, .add (.int 256) (.arg 60033), .arg 60064), true), ((8, .arg 60033, .long 0), false), ((8, .long 4294967295, .arg 60033), false), ((131, .add (.int 11) (.arg 60033), .int 1), true), ((6, .arg 60033, .long 0), false), ((6, .arg 60033, .long 327688), false), ((6, .arg 60033, .long 393232), false), ((6, .arg 60033, .long 458784), false)], [])
theorem k_mp111LEk : cbody kR [] (cpl1 zWP c_mp111 [q_mp111LL]) (cpl2 zWP c_mp111 [q_mp111LL]) (cleaf kR zWP c_mp111 [q_mp111LL]) 60 true false q_mp111LEk.2.2.1 q_mp111LEk.2.2.2 (cst zWP c_mp111.2.2.1.1 q_mp111LEk.1) (cst zWP c_mp111.2.2.1.2 q_mp111LEk.2.1) = true := by decide +kernel
theorem t_mp111LEk {X : pX} {ρ0 : sR} (hv : vok X ρ0) (hk_ : CUTOK X kR zWP c_mp111 5 ρ0 q_mp111LL) : CUTOK X kR zWP c_mp111 5 ρ0 q_mp111LEk := CUT_run kR_x kR_0 (Cs := []) (fun C hC => by cases hC) c_mp111_f (Q := [q_mp111LL]) hv (fun q hq => by
    simp only [List.mem_cons, List.not_mem_nil, or_false] at hq
    rw [hq]; exact hk_) 60 (b1 := true) (b2 := false) k_mp111LEk
noncomputable def q_mp111LEf : sCut := ((fr 0 221 25 [(0, .arg 60033), (2, .int 256), (3, .arg 60064)] [], [fBot], 5), (fr 0 271 0 [(0, tr 219), (1, .int 11), (2, .arg 60033)] [], [fBot], 5), [((6, .op1 .i2l (.elem (.string "" 1) (.mul (.arg 60064) (.int 5))), .op2 .lushr (.arg 60033) (.int 8)), true), ((0, .op2 .iand (.elem (.string "" 1) (.add (.mul (.arg 60064) (.int 5)) (.int 1))) (.int 256), .int 0), true), ((2, .arg 60064, .int 156), true), ((2, .sub (.int 156) (.add (.arg 60064) (.int 1)), .arg 64032), true), ((2, .add (.arg 60064) (.int 1), .int 0), false), ((2, .int 156, .add (.arg 60064) (.int 1)), false), ((138, .add (.int 256) (.arg 60033), .add (.arg 60064) (.int 1)), true), ((0, .sub (.int 156) (.arg 60064), .arg 64032), true), ((2, .arg 60064, .int 0), false), ((2, .int 156, .arg 60064), false), ((138, .add (.int 256) (.arg 60033), .arg 60064), true), ((8, .arg 60033, .long 0), false), ((8, .long 4294967295, .arg 60033), false), ((131, .add (.int 11) (.arg 60033), .int 1), true), ((6, .arg 60033, .long 0), false), ((6, .arg 60033, .long 327688), false), ((6, .arg 60033, .long 393232), false), ((6, .arg 60033, .long 458784), false)], [])
theorem k_mp111LEf : cbody kR [] (cpl1 zWP c_mp111 [q_mp111LL]) (cpl2 zWP c_mp111 [q_mp111LL]) (cleaf kR zWP c_mp111 [q_mp111LL]) 60 true false q_mp111LEf.2.2.1 q_mp111LEf.2.2.2 (cst zWP c_mp111.2.2.1.1 q_mp111LEf.1) (cst zWP c_mp111.2.2.1.2 q_mp111LEf.2.1) = true := by decide +kernel
theorem t_mp111LEf {X : pX} {ρ0 : sR} (hv : vok X ρ0) (hk_ : CUTOK X kR zWP c_mp111 5 ρ0 q_mp111LL) : CUTOK X kR zWP c_mp111 5 ρ0 q_mp111LEf := CUT_run kR_x kR_0 (Cs := []) (fun C hC => by cases hC) c_mp111_f (Q := [q_mp111LL]) hv (fun q hq => by
    simp only [List.mem_cons, List.not_mem_nil, or_false] at hq
    rw [hq]; exact hk_) 60 (b1 := true) (b2 := false) k_mp111LEf
noncomputable def q_mp111LEp115 : sCut := ((fr 0 221 25 [(0, .arg 60033), (2, .int 256), (3, .arg 60064)] [], [fBot], 5), (fr 0 271 0 [(0, tr 219), (1, .int 11), (2, .arg 60033)] [], [fBot], 5), [((0, .arg 60064, .int 115), true), ((6, .long 6307840, .op2 .lushr (.arg 60033) (.int 8)), true), ((6, .op2 .land (.arg 60033) (.long 255), .long 16), true), ((6, .long 16, .op2 .land (.arg 60033) (.long 255)), true), ((109, .add (.op1 .l2i (.op2 .land (.op2 .lshr (.arg 60033) (.int 16)) (.long 65535))) (.op1 .l2i (.op2 .land (.op2 .lshr (.arg 60033) (.int 8)) (.long 255))), .int 115), true), ((2, .op1 .l2i (.op2 .land (.op2 .lshr (.arg 60033) (.int 16)) (.long 65535)), .int 0), false), ((2, .int 65535, .op1 .l2i (.op2 .land (.op2 .lshr (.arg 60033) (.int 16)) (.long 65535))), false), ((0, .sub (.int 156) (.arg 60064), .arg 64032), true), ((2, .arg 60064, .int 0), false), ((2, .int 156, .arg 60064), false), ((138, .add (.int 256) (.arg 60033), .arg 60064), true), ((8, .arg 60033, .long 0), false), ((8, .long 4294967295, .arg 60033), false), ((131, .add (.int 11) (.arg 60033), .int 1), true), ((6, .arg 60033, .long 0), false), ((6, .arg 60033, .long 327688), false), ((6, .arg 60033, .long 393232), false), ((6, .arg 60033, .long 458784), false)], [])
theorem k_mp111LEp115 : cbody kR [] (cpl1 zWP c_mp111 [q_mp111x115]) (cpl2 zWP c_mp111 [q_mp111x115]) (cleaf kR zWP c_mp111 [q_mp111x115]) 5 false false q_mp111LEp115.2.2.1 q_mp111LEp115.2.2.2 (cst zWP c_mp111.2.2.1.1 q_mp111LEp115.1) (cst zWP c_mp111.2.2.1.2 q_mp111LEp115.2.1) = true := by decide +kernel
theorem t_mp111LEp115 {X : pX} {ρ0 : sR} (hv : vok X ρ0) (hk_ : CUTOK X kR zWP c_mp111 5 ρ0 q_mp111LL) : CUTOK X kR zWP c_mp111 5 ρ0 q_mp111LEp115 := CUT_run kR_x kR_0 (Cs := []) (fun C hC => by cases hC) c_mp111_f (Q := [q_mp111x115]) hv (fun q hq => by
    simp only [List.mem_cons, List.not_mem_nil, or_false] at hq
    rw [hq]; exact t_mp111x115 hv) 5 (b1 := false) (b2 := false) k_mp111LEp115
noncomputable def q_mp111LEp122 : sCut := ((fr 0 221 25 [(0, .arg 60033), (2, .int 256), (3, .arg 60064)] [], [fBot], 5), (fr 0 271 0 [(0, tr 219), (1, .int 11), (2, .arg 60033)] [], [fBot], 5), [((0, .arg 60064, .int 122), true), ((6, .long 6316032, .op2 .lushr (.arg 60033) (.int 8)), true), ((6, .op2 .land (.arg 60033) (.long 255), .long 8), true), ((6, .long 8, .op2 .land (.arg 60033) (.long 255)), true), ((109, .add (.op1 .l2i (.op2 .land (.op2 .lshr (.arg 60033) (.int 16)) (.long 65535))) (.op1 .l2i (.op2 .land (.op2 .lshr (.arg 60033) (.int 8)) (.long 255))), .int 122), true), ((2, .op1 .l2i (.op2 .land (.op2 .lshr (.arg 60033) (.int 16)) (.long 65535)), .int 0), false), ((2, .int 65535, .op1 .l2i (.op2 .land (.op2 .lshr (.arg 60033) (.int 16)) (.long 65535))), false), ((0, .sub (.int 156) (.arg 60064), .arg 64032), true), ((2, .arg 60064, .int 0), false), ((2, .int 156, .arg 60064), false), ((138, .add (.int 256) (.arg 60033), .arg 60064), true), ((8, .arg 60033, .long 0), false), ((8, .long 4294967295, .arg 60033), false), ((131, .add (.int 11) (.arg 60033), .int 1), true), ((6, .arg 60033, .long 0), false), ((6, .arg 60033, .long 327688), false), ((6, .arg 60033, .long 393232), false), ((6, .arg 60033, .long 458784), false)], [])
theorem k_mp111LEp122 : cbody kR [] (cpl1 zWP c_mp111 [q_mp111x122]) (cpl2 zWP c_mp111 [q_mp111x122]) (cleaf kR zWP c_mp111 [q_mp111x122]) 5 false false q_mp111LEp122.2.2.1 q_mp111LEp122.2.2.2 (cst zWP c_mp111.2.2.1.1 q_mp111LEp122.1) (cst zWP c_mp111.2.2.1.2 q_mp111LEp122.2.1) = true := by decide +kernel
theorem t_mp111LEp122 {X : pX} {ρ0 : sR} (hv : vok X ρ0) (hk_ : CUTOK X kR zWP c_mp111 5 ρ0 q_mp111LL) : CUTOK X kR zWP c_mp111 5 ρ0 q_mp111LEp122 := CUT_run kR_x kR_0 (Cs := []) (fun C hC => by cases hC) c_mp111_f (Q := [q_mp111x122]) hv (fun q hq => by
    simp only [List.mem_cons, List.not_mem_nil, or_false] at hq
    rw [hq]; exact t_mp111x122 hv) 5 (b1 := false) (b2 := false) k_mp111LEp122
noncomputable def q_mp111LEp132 : sCut := ((fr 0 221 25 [(0, .arg 60033), (2, .int 256), (3, .arg 60064)] [], [fBot], 5), (fr 0 271 0 [(0, tr 219), (1, .int 11), (2, .arg 60033)] [], [fBot], 5), [((0, .arg 60064, .int 132), true), ((6, .long 6322688, .op2 .lushr (.arg 60033) (.int 8)), true), ((6, .op2 .land (.arg 60033) (.long 255), .long 32), true), ((6, .long 32, .op2 .land (.arg 60033) (.long 255)), true), ((109, .add (.op1 .l2i (.op2 .land (.op2 .lshr (.arg 60033) (.int 16)) (.long 65535))) (.op1 .l2i (.op2 .land (.op2 .lshr (.arg 60033) (.int 8)) (.long 255))), .int 132), true), ((2, .op1 .l2i (.op2 .land (.op2 .lshr (.arg 60033) (.int 16)) (.long 65535)), .int 0), false), ((2, .int 65535, .op1 .l2i (.op2 .land (.op2 .lshr (.arg 60033) (.int 16)) (.long 65535))), false), ((0, .sub (.int 156) (.arg 60064), .arg 64032), true), ((2, .arg 60064, .int 0), false), ((2, .int 156, .arg 60064), false), ((138, .add (.int 256) (.arg 60033), .arg 60064), true), ((8, .arg 60033, .long 0), false), ((8, .long 4294967295, .arg 60033), false), ((131, .add (.int 11) (.arg 60033), .int 1), true), ((6, .arg 60033, .long 0), false), ((6, .arg 60033, .long 327688), false), ((6, .arg 60033, .long 393232), false), ((6, .arg 60033, .long 458784), false)], [])
theorem k_mp111LEp132 : cbody kR [] (cpl1 zWP c_mp111 [q_mp111x132]) (cpl2 zWP c_mp111 [q_mp111x132]) (cleaf kR zWP c_mp111 [q_mp111x132]) 5 false false q_mp111LEp132.2.2.1 q_mp111LEp132.2.2.2 (cst zWP c_mp111.2.2.1.1 q_mp111LEp132.1) (cst zWP c_mp111.2.2.1.2 q_mp111LEp132.2.1) = true := by decide +kernel
theorem t_mp111LEp132 {X : pX} {ρ0 : sR} (hv : vok X ρ0) (hk_ : CUTOK X kR zWP c_mp111 5 ρ0 q_mp111LL) : CUTOK X kR zWP c_mp111 5 ρ0 q_mp111LEp132 := CUT_run kR_x kR_0 (Cs := []) (fun C hC => by cases hC) c_mp111_f (Q := [q_mp111x132]) hv (fun q hq => by
    simp only [List.mem_cons, List.not_mem_nil, or_false] at hq
    rw [hq]; exact t_mp111x132 hv) 5 (b1 := false) (b2 := false) k_mp111LEp132
noncomputable def q_mp111LEp138 : sCut := ((fr 0 221 25 [(0, .arg 60033), (2, .int 256), (3, .arg 60064)] [], [fBot], 5), (fr 0 271 0 [(0, tr 219), (1, .int 11), (2, .arg 60033)] [], [fBot], 5), [((0, .arg 60064, .int 138), true), ((6, .long 6324480, .op2 .lushr (.arg 60033) (.int 8)), true), ((6, .op2 .land (.arg 60033) (.long 255), .long 32), true), ((6, .long 32, .op2 .land (.arg 60033) (.long 255)), true), ((109, .add (.op1 .l2i (.op2 .land (.op2 .lshr (.arg 60033) (.int 16)) (.long 65535))) (.op1 .l2i (.op2 .land (.op2 .lshr (.arg 60033) (.int 8)) (.long 255))), .int 138), true), ((2, .op1 .l2i (.op2 .land (.op2 .lshr (.arg 60033) (.int 16)) (.long 65535)), .int 0), false), ((2, .int 65535, .op1 .l2i (.op2 .land (.op2 .lshr (.arg 60033) (.int 16)) (.long 65535))), false), ((0, .sub (.int 156) (.arg 60064), .arg 64032), true), ((2, .arg 60064, .int 0), false), ((2, .int 156, .arg 60064), false), ((138, .add (.int 256) (.arg 60033), .arg 60064), true), ((8, .arg 60033, .long 0), false), ((8, .long 4294967295, .arg 60033), false), ((131, .add (.int 11) (.arg 60033), .int 1), true), ((6, .arg 60033, .long 0), false), ((6, .arg 60033, .long 327688), false), ((6, .arg 60033, .long 393232), false), ((6, .arg 60033, .long 458784), false)], [])
theorem k_mp111LEp138 : cbody kR [] (cpl1 zWP c_mp111 [q_mp111x138]) (cpl2 zWP c_mp111 [q_mp111x138]) (cleaf kR zWP c_mp111 [q_mp111x138]) 5 false false q_mp111LEp138.2.2.1 q_mp111LEp138.2.2.2 (cst zWP c_mp111.2.2.1.1 q_mp111LEp138.1) (cst zWP c_mp111.2.2.1.2 q_mp111LEp138.2.1) = true := by decide +kernel
theorem t_mp111LEp138 {X : pX} {ρ0 : sR} (hv : vok X ρ0) (hk_ : CUTOK X kR zWP c_mp111 5 ρ0 q_mp111LL) : CUTOK X kR zWP c_mp111 5 ρ0 q_mp111LEp138 := CUT_run kR_x kR_0 (Cs := []) (fun C hC => by cases hC) c_mp111_f (Q := [q_mp111x138]) hv (fun q hq => by
    simp only [List.mem_cons, List.not_mem_nil, or_false] at hq
    rw [hq]; exact t_mp111x138 hv) 5 (b1 := false) (b2 := false) k_mp111LEp138
noncomputable def q_mp111LEp139 : sCut := ((fr 0 221 25 [(0, .arg 60033), (2, .int 256), (3, .arg 60064)] [], [fBot], 5), (fr 0 271 0 [(0, tr 219), (1, .int 11), (2, .arg 60033)] [], [fBot], 5), [((0, .arg 60064, .int 139), true), ((6, .long 6324992, .op2 .lushr (.arg 60033) (.int 8)), true), ((6, .op2 .land (.arg 60033) (.long 255), .long 32), true), ((6, .long 32, .op2 .land (.arg 60033) (.long 255)), true), ((109, .add (.op1 .l2i (.op2 .land (.op2 .lshr (.arg 60033) (.int 16)) (.long 65535))) (.op1 .l2i (.op2 .land (.op2 .lshr (.arg 60033) (.int 8)) (.long 255))), .int 139), true), ((2, .op1 .l2i (.op2 .land (.op2 .lshr (.arg 60033) (.int 16)) (.long 65535)), .int 0), false), ((2, .int 65535, .op1 .l2i (.op2 .land (.op2 .lshr (.arg 60033) (.int 16)) (.long 65535))), false), ((0, .sub (.int 156) (.arg 60064), .arg 64032), true), ((2, .arg 60064, .int 0), false), ((2, .int 156, .arg 60064), false), ((138, .add (.int 256) (.arg 60033), .arg 60064), true), ((8, .arg 60033, .long 0), false), ((8, .long 4294967295, .arg 60033), false), ((131, .add (.int 11) (.arg 60033), .int 1), true), ((6, .arg 60033, .long 0), false), ((6, .arg 60033, .long 327688), false), ((6, .arg 60033, .long 393232), false), ((6, .arg 60033, .long 458784), false)], [])
theorem k_mp111LEp139 : cbody kR [] (cpl1 zWP c_mp111 [q_mp111x139]) (cpl2 zWP c_mp111 [q_mp111x139]) (cleaf kR zWP c_mp111 [q_mp111x139]) 5 false false q_mp111LEp139.2.2.1 q_mp111LEp139.2.2.2 (cst zWP c_mp111.2.2.1.1 q_mp111LEp139.1) (cst zWP c_mp111.2.2.1.2 q_mp111LEp139.2.1) = true := by decide +kernel
theorem t_mp111LEp139 {X : pX} {ρ0 : sR} (hv : vok X ρ0) (hk_ : CUTOK X kR zWP c_mp111 5 ρ0 q_mp111LL) : CUTOK X kR zWP c_mp111 5 ρ0 q_mp111LEp139 := CUT_run kR_x kR_0 (Cs := []) (fun C hC => by cases hC) c_mp111_f (Q := [q_mp111x139]) hv (fun q hq => by
    simp only [List.mem_cons, List.not_mem_nil, or_false] at hq
    rw [hq]; exact t_mp111x139 hv) 5 (b1 := false) (b2 := false) k_mp111LEp139
noncomputable def q_mp111LEp140 : sCut := ((fr 0 221 25 [(0, .arg 60033), (2, .int 256), (3, .arg 60064)] [], [fBot], 5), (fr 0 271 0 [(0, tr 219), (1, .int 11), (2, .arg 60033)] [], [fBot], 5), [((0, .arg 60064, .int 140), true), ((6, .long 6325248, .op2 .lushr (.arg 60033) (.int 8)), true), ((6, .op2 .land (.arg 60033) (.long 255), .long 32), true), ((6, .long 32, .op2 .land (.arg 60033) (.long 255)), true), ((109, .add (.op1 .l2i (.op2 .land (.op2 .lshr (.arg 60033) (.int 16)) (.long 65535))) (.op1 .l2i (.op2 .land (.op2 .lshr (.arg 60033) (.int 8)) (.long 255))), .int 140), true), ((2, .op1 .l2i (.op2 .land (.op2 .lshr (.arg 60033) (.int 16)) (.long 65535)), .int 0), false), ((2, .int 65535, .op1 .l2i (.op2 .land (.op2 .lshr (.arg 60033) (.int 16)) (.long 65535))), false), ((0, .sub (.int 156) (.arg 60064), .arg 64032), true), ((2, .arg 60064, .int 0), false), ((2, .int 156, .arg 60064), false), ((138, .add (.int 256) (.arg 60033), .arg 60064), true), ((8, .arg 60033, .long 0), false), ((8, .long 4294967295, .arg 60033), false), ((131, .add (.int 11) (.arg 60033), .int 1), true), ((6, .arg 60033, .long 0), false), ((6, .arg 60033, .long 327688), false), ((6, .arg 60033, .long 393232), false), ((6, .arg 60033, .long 458784), false)], [])
theorem k_mp111LEp140 : cbody kR [] (cpl1 zWP c_mp111 [q_mp111x140]) (cpl2 zWP c_mp111 [q_mp111x140]) (cleaf kR zWP c_mp111 [q_mp111x140]) 5 false false q_mp111LEp140.2.2.1 q_mp111LEp140.2.2.2 (cst zWP c_mp111.2.2.1.1 q_mp111LEp140.1) (cst zWP c_mp111.2.2.1.2 q_mp111LEp140.2.1) = true := by decide +kernel
theorem t_mp111LEp140 {X : pX} {ρ0 : sR} (hv : vok X ρ0) (hk_ : CUTOK X kR zWP c_mp111 5 ρ0 q_mp111LL) : CUTOK X kR zWP c_mp111 5 ρ0 q_mp111LEp140 := CUT_run kR_x kR_0 (Cs := []) (fun C hC => by cases hC) c_mp111_f (Q := [q_mp111x140]) hv (fun q hq => by
    simp only [List.mem_cons, List.not_mem_nil, or_false] at hq
    rw [hq]; exact t_mp111x140 hv) 5 (b1 := false) (b2 := false) k_mp111LEp140
noncomputable def q_mp111LEp147 : sCut := ((fr 0 221 25 [(0, .arg 60033), (2, .int 256), (3, .arg 60064)] [], [fBot], 5), (fr 0 271 0 [(0, tr 219), (1, .int 11), (2, .arg 60033)] [], [fBot], 5), [((0, .arg 60064, .int 147), true), ((6, .long 6338560, .op2 .lushr (.arg 60033) (.int 8)), true), ((6, .op2 .land (.arg 60033) (.long 255), .long 16), true), ((6, .long 16, .op2 .land (.arg 60033) (.long 255)), true), ((109, .add (.op1 .l2i (.op2 .land (.op2 .lshr (.arg 60033) (.int 16)) (.long 65535))) (.op1 .l2i (.op2 .land (.op2 .lshr (.arg 60033) (.int 8)) (.long 255))), .int 147), true), ((2, .op1 .l2i (.op2 .land (.op2 .lshr (.arg 60033) (.int 16)) (.long 65535)), .int 0), false), ((2, .int 65535, .op1 .l2i (.op2 .land (.op2 .lshr (.arg 60033) (.int 16)) (.long 65535))), false), ((0, .sub (.int 156) (.arg 60064), .arg 64032), true), ((2, .arg 60064, .int 0), false), ((2, .int 156, .arg 60064), false), ((138, .add (.int 256) (.arg 60033), .arg 60064), true), ((8, .arg 60033, .long 0), false), ((8, .long 4294967295, .arg 60033), false), ((131, .add (.int 11) (.arg 60033), .int 1), true), ((6, .arg 60033, .long 0), false), ((6, .arg 60033, .long 327688), false), ((6, .arg 60033, .long 393232), false), ((6, .arg 60033, .long 458784), false)], [])
theorem k_mp111LEp147 : cbody kR [] (cpl1 zWP c_mp111 [q_mp111x147]) (cpl2 zWP c_mp111 [q_mp111x147]) (cleaf kR zWP c_mp111 [q_mp111x147]) 5 false false q_mp111LEp147.2.2.1 q_mp111LEp147.2.2.2 (cst zWP c_mp111.2.2.1.1 q_mp111LEp147.1) (cst zWP c_mp111.2.2.1.2 q_mp111LEp147.2.1) = true := by decide +kernel
theorem t_mp111LEp147 {X : pX} {ρ0 : sR} (hv : vok X ρ0) (hk_ : CUTOK X kR zWP c_mp111 5 ρ0 q_mp111LL) : CUTOK X kR zWP c_mp111 5 ρ0 q_mp111LEp147 := CUT_run kR_x kR_0 (Cs := []) (fun C hC => by cases hC) c_mp111_f (Q := [q_mp111x147]) hv (fun q hq => by
    simp only [List.mem_cons, List.not_mem_nil, or_false] at hq
    rw [hq]; exact t_mp111x147 hv) 5 (b1 := false) (b2 := false) k_mp111LEp147
noncomputable def q_mp111LEp153 : sCut := ((fr 0 221 25 [(0, .arg 60033), (2, .int 256), (3, .arg 60064)] [], [fBot], 5), (fr 0 271 0 [(0, tr 219), (1, .int 11), (2, .arg 60033)] [], [fBot], 5), [((0, .arg 60064, .int 153), true), ((6, .long 6356481, .op2 .lushr (.arg 60033) (.int 8)), true), ((6, .op2 .land (.arg 60033) (.long 255), .long 32), true), ((6, .long 32, .op2 .land (.arg 60033) (.long 255)), true), ((109, .add (.op1 .l2i (.op2 .land (.op2 .lshr (.arg 60033) (.int 16)) (.long 65535))) (.op1 .l2i (.op2 .land (.op2 .lshr (.arg 60033) (.int 8)) (.long 255))), .int 153), true), ((2, .op1 .l2i (.op2 .land (.op2 .lshr (.arg 60033) (.int 16)) (.long 65535)), .int 0), false), ((2, .int 65535, .op1 .l2i (.op2 .land (.op2 .lshr (.arg 60033) (.int 16)) (.long 65535))), false), ((0, .sub (.int 156) (.arg 60064), .arg 64032), true), ((2, .arg 60064, .int 0), false), ((2, .int 156, .arg 60064), false), ((138, .add (.int 256) (.arg 60033), .arg 60064), true), ((8, .arg 60033, .long 0), false), ((8, .long 4294967295, .arg 60033), false), ((131, .add (.int 11) (.arg 60033), .int 1), true), ((6, .arg 60033, .long 0), false), ((6, .arg 60033, .long 327688), false), ((6, .arg 60033, .long 393232), false), ((6, .arg 60033, .long 458784), false)], [])
theorem k_mp111LEp153 : cbody kR [] (cpl1 zWP c_mp111 [q_mp111x153]) (cpl2 zWP c_mp111 [q_mp111x153]) (cleaf kR zWP c_mp111 [q_mp111x153]) 5 false false q_mp111LEp153.2.2.1 q_mp111LEp153.2.2.2 (cst zWP c_mp111.2.2.1.1 q_mp111LEp153.1) (cst zWP c_mp111.2.2.1.2 q_mp111LEp153.2.1) = true := by decide +kernel
theorem t_mp111LEp153 {X : pX} {ρ0 : sR} (hv : vok X ρ0) (hk_ : CUTOK X kR zWP c_mp111 5 ρ0 q_mp111LL) : CUTOK X kR zWP c_mp111 5 ρ0 q_mp111LEp153 := CUT_run kR_x kR_0 (Cs := []) (fun C hC => by cases hC) c_mp111_f (Q := [q_mp111x153]) hv (fun q hq => by
    simp only [List.mem_cons, List.not_mem_nil, or_false] at hq
    rw [hq]; exact t_mp111x153 hv) 5 (b1 := false) (b2 := false) k_mp111LEp153
noncomputable def q_mp111LEp154 : sCut := ((fr 0 221 25 [(0, .arg 60033), (2, .int 256), (3, .arg 60064)] [], [fBot], 5), (fr 0 271 0 [(0, tr 219), (1, .int 11), (2, .arg 60033)] [], [fBot], 5), [((0, .arg 60064, .int 154), true), ((6, .long 6356736, .op2 .lushr (.arg 60033) (.int 8)), true), ((6, .op2 .land (.arg 60033) (.long 255), .long 32), true), ((6, .long 32, .op2 .land (.arg 60033) (.long 255)), true), ((109, .add (.op1 .l2i (.op2 .land (.op2 .lshr (.arg 60033) (.int 16)) (.long 65535))) (.op1 .l2i (.op2 .land (.op2 .lshr (.arg 60033) (.int 8)) (.long 255))), .int 154), true), ((2, .op1 .l2i (.op2 .land (.op2 .lshr (.arg 60033) (.int 16)) (.long 65535)), .int 0), false), ((2, .int 65535, .op1 .l2i (.op2 .land (.op2 .lshr (.arg 60033) (.int 16)) (.long 65535))), false), ((0, .sub (.int 156) (.arg 60064), .arg 64032), true), ((2, .arg 60064, .int 0), false), ((2, .int 156, .arg 60064), false), ((138, .add (.int 256) (.arg 60033), .arg 60064), true), ((8, .arg 60033, .long 0), false), ((8, .long 4294967295, .arg 60033), false), ((131, .add (.int 11) (.arg 60033), .int 1), true), ((6, .arg 60033, .long 0), false), ((6, .arg 60033, .long 327688), false), ((6, .arg 60033, .long 393232), false), ((6, .arg 60033, .long 458784), false)], [])
theorem k_mp111LEp154 : cbody kR [] (cpl1 zWP c_mp111 [q_mp111x154]) (cpl2 zWP c_mp111 [q_mp111x154]) (cleaf kR zWP c_mp111 [q_mp111x154]) 5 false false q_mp111LEp154.2.2.1 q_mp111LEp154.2.2.2 (cst zWP c_mp111.2.2.1.1 q_mp111LEp154.1) (cst zWP c_mp111.2.2.1.2 q_mp111LEp154.2.1) = true := by decide +kernel
theorem t_mp111LEp154 {X : pX} {ρ0 : sR} (hv : vok X ρ0) (hk_ : CUTOK X kR zWP c_mp111 5 ρ0 q_mp111LL) : CUTOK X kR zWP c_mp111 5 ρ0 q_mp111LEp154 := CUT_run kR_x kR_0 (Cs := []) (fun C hC => by cases hC) c_mp111_f (Q := [q_mp111x154]) hv (fun q hq => by
    simp only [List.mem_cons, List.not_mem_nil, or_false] at hq
    rw [hq]; exact t_mp111x154 hv) 5 (b1 := false) (b2 := false) k_mp111LEp154
theorem t_mp111LE {X : pX} {ρ0 : sR} (hv : vok X ρ0) (hk_ : CUTOK X kR zWP c_mp111 5 ρ0 q_mp111LL) : CUTOK X kR zWP c_mp111 5 ρ0 q_mp111LE := fun ρ k1 hF hI k4 => by
  have b0 := rl_lf (x := ρ.2.1 60033) (y := 0) (hF.2 _ (List.mem_cons_of_mem _ (List.mem_cons_of_mem _ (List.mem_cons_of_mem _ (List.mem_cons_of_mem _ (List.mem_cons_self))))))
  have b1 := rl_lf (x := 4294967295) (y := ρ.2.1 60033) (hF.2 _ (List.mem_cons_of_mem _ (List.mem_cons_of_mem _ (List.mem_cons_of_mem _ (List.mem_cons_of_mem _ (List.mem_cons_of_mem _ (List.mem_cons_self)))))))
  have y0 : (0 : Int64).toInt = 0 := rfl
  have y1 : (4294967295 : Int64).toInt = 4294967295 := by decide +kernel
  rw [y0] at b0
  rw [y1] at b1
  have he : ((1 : Int32)).toInt = if evs 11 (ρ.2.1 60033).toInt = true then 1 else 0 := of_decide_eq_true (hF.2 _ (List.mem_cons_of_mem _ (List.mem_cons_of_mem _ (List.mem_cons_of_mem _ (List.mem_cons_of_mem _ (List.mem_cons_of_mem _ (List.mem_cons_of_mem _ (List.mem_cons_self))))))))
  have s0 := ri_lf (x := ρ.1 60064) (y := 0) (hF.2 _ (List.mem_cons_of_mem _ (List.mem_cons_self)))
  have s1 := ri_lf (x := 156) (y := ρ.1 60064) (hF.2 _ (List.mem_cons_of_mem _ (List.mem_cons_of_mem _ (List.mem_cons_self))))
  have x0 : (0 : Int32).toInt = 0 := rfl
  have x1 : (156 : Int32).toInt = 156 := rfl
  rw [x0] at s0
  rw [x1] at s1
  obtain ⟨p, hp, hn⟩ : ∃ p : Nat, p ≤ 156 ∧ (ρ.1 60064).toInt = p := ⟨(ρ.1 60064).toInt.toNat, by omega, by omega⟩
  have hb : (List.range (ρ.1 60064).toInt.toNat).all (fun p => !(amok (Int32.ofInt (256 : Int32).toInt) (ρ.2.1 60033).toInt p)) = true := hF.2 _ (List.mem_cons_of_mem _ (List.mem_cons_of_mem _ (List.mem_cons_of_mem _ (List.mem_cons_self))))
  have hb : ∀ j : Nat, j < p → amok 256 (ρ.2.1 60033).toInt j = false := fun j hj => by
    have := List.all_eq_true.mp hb j (List.mem_range.mpr (by omega))
    rw [Int32.ofInt_toInt] at this
    simpa using this
  obtain ⟨i1, i2⟩ := mv_ix (X := X) (ρ := ρ) b0 b1
  have m8 := mv_8 b0
  have fx : sc X ρ (2, .op1 .l2i (.op2 .land (.op2 .lshr (.arg 60033) (.int 16)) (.long 65535)), .int 0) = false ∧ sc X ρ (2, .int 65535, .op1 .l2i (.op2 .land (.op2 .lshr (.arg 60033) (.int 16)) (.long 65535))) = false := ⟨di_lf (y := 0) (show (0 : Int) ≤ (sd X ρ (.op1 .l2i (.op2 .land (.op2 .lshr (.arg 60033) (.int 16)) (.long 65535)))).1.toInt by rw [i1]; omega), di_lf (x := 65535) (show (sd X ρ (.op1 .l2i (.op2 .land (.op2 .lshr (.arg 60033) (.int 16)) (.long 65535)))).1.toInt ≤ (65535 : Int) by rw [i1]; omega)⟩
  by_cases e6 : p = 156
  · exfalso
    have hv1 : evs 11 (ρ.2.1 60033).toInt = true := by
      by_cases h : evs 11 (ρ.2.1 60033).toInt = true
      · exact h
      · rw [if_neg h] at he; cases he
    have hc : (ρ.2.1 60033).toInt ∈ ([0, 327688, 393232, 458784, 1614807056, 1616904200, 1618608160, 1619066912, 1619197984, 1619263520, 1622671376, 1627259168, 1627324448] : List Int) := List.contains_iff_mem.mp hv1
    have j := List.all_eq_true.mp mj_11 _ hc
    simp only [Bool.or_eq_true, decide_eq_true_eq, List.any_eq_true, Bool.and_eq_true, Bool.not_eq_true', decide_eq_false_iff_not] at j
    rcases j with (((j | j) | j) | j) | ⟨q, -, q1, q2, q3⟩
    · exact rl_ef (x := ρ.2.1 60033) (y := 327688) (hF.2 _ (List.mem_cons_of_mem _ (List.mem_cons_of_mem _ (List.mem_cons_of_mem _ (List.mem_cons_of_mem _ (List.mem_cons_of_mem _ (List.mem_cons_of_mem _ (List.mem_cons_of_mem _ (List.mem_cons_of_mem _ (List.mem_cons_self)))))))))) j
    · exact rl_ef (x := ρ.2.1 60033) (y := 393232) (hF.2 _ (List.mem_cons_of_mem _ (List.mem_cons_of_mem _ (List.mem_cons_of_mem _ (List.mem_cons_of_mem _ (List.mem_cons_of_mem _ (List.mem_cons_of_mem _ (List.mem_cons_of_mem _ (List.mem_cons_of_mem _ (List.mem_cons_of_mem _ (List.mem_cons_self))))))))))) j
    · exact rl_ef (x := ρ.2.1 60033) (y := 458784) (hF.2 _ (List.mem_cons_of_mem _ (List.mem_cons_of_mem _ (List.mem_cons_of_mem _ (List.mem_cons_of_mem _ (List.mem_cons_of_mem _ (List.mem_cons_of_mem _ (List.mem_cons_of_mem _ (List.mem_cons_of_mem _ (List.mem_cons_of_mem _ (List.mem_cons_of_mem _ (List.mem_cons_self)))))))))))) j
    · exact rl_ef (x := ρ.2.1 60033) (y := 0) (hF.2 _ (List.mem_cons_of_mem _ (List.mem_cons_of_mem _ (List.mem_cons_of_mem _ (List.mem_cons_of_mem _ (List.mem_cons_of_mem _ (List.mem_cons_of_mem _ (List.mem_cons_of_mem _ (List.mem_cons_self))))))))) j
    · have := hb q.1 (by omega)
      unfold amok at this
      rw [decide_eq_true q1, decide_eq_false q3] at this
      cases this
  have h6 : p < 156 := by omega
  have ky := op_key k1 h6 (s := 60064) hn
  have m1 := op_tab k1 h6 (s := 60064) rfl hn
  have bk : ∀ w : Int32, w = pt_BOOK.getD (5 * p) 0 → w.toInt64.toInt = (pt_BOOK.getD (5 * p) 0).toInt := fun w hw => by rw [Int32.toInt_toInt64, hw]
  have nxp : amok 256 (ρ.2.1 60033).toInt p = false → sc X ρ (2, .arg 60064, .int 156) = true ∧ sc X ρ (2, .sub (.int 156) (.add (.arg 60064) (.int 1)), .arg 64032) = true ∧ sc X ρ (2, .add (.arg 60064) (.int 1), .int 0) = false ∧ sc X ρ (2, .int 156, .add (.arg 60064) (.int 1)) = false ∧ sc X ρ (138, .add (.int 256) (.arg 60033), .add (.arg 60064) (.int 1)) = true := fun ha => by
    have e1 : (ρ.1 60064 + 1).toInt = p + 1 := i_of (n := (p : Int) + 1) (by rw [i_ad (i_s (ρ.1 60064)) i_1, hn]) (by omega) (by omega)
    have gq : (156 : Int32) - ρ.1 60064 = ρ.1 64032 := of_decide_eq_true (hF.2 _ (List.mem_cons_self))
    have g1 : ((156 : Int32) - ρ.1 60064).toInt = 156 - p := i_of (n := 156 - (p : Int)) (by rw [i_sb (show (156 : Int32) = Int32.ofInt 156 from rfl) (i_s (ρ.1 60064)), hn]) (by omega) (by omega)
    have g2 : ((156 : Int32) - (ρ.1 60064 + 1)).toInt = 155 - p := i_of (n := 155 - (p : Int)) (by rw [i_sb (show (156 : Int32) = Int32.ofInt 156 from rfl) (i_s (ρ.1 60064 + 1)), e1]; congr 1; omega) (by omega) (by omega)
    rw [gq] at g1
    refine ⟨di_lt (x := ρ.1 60064) (y := 156) (show _ < (156 : Int) by omega), di_lt (x := (156 : Int32) - (ρ.1 60064 + 1)) (y := ρ.1 64032) (by omega), di_lf (x := ρ.1 60064 + 1) (y := 0) (show (0 : Int) ≤ _ by omega), di_lf (x := 156) (y := ρ.1 60064 + 1) (show _ ≤ (156 : Int) by omega), ?_⟩
    show (List.range (ρ.1 60064 + 1).toInt.toNat).all (fun p => !(amok (Int32.ofInt (256 : Int32).toInt) (ρ.2.1 60033).toInt p)) = true
    rw [Int32.ofInt_toInt]
    refine List.all_eq_true.mpr (fun j hj => ?_)
    have hj := List.mem_range.mp hj
    by_cases ej : j = p
    · rw [ej, ha]; rfl
    · rw [hb j (by omega)]; rfl
  by_cases ke : (pt_BOOK.getD (5 * p) 0).toInt = (ρ.2.1 60033).toInt / 256
  · have kf : sc X ρ (6, .op1 .i2l (.elem (.string "" 1) (.mul (.arg 60064) (.int 5))), .op2 .lushr (.arg 60033) (.int 8)) = true := dl_et (x := (sd X ρ (.elem (.string "" 1) (.mul (.arg 60064) (.int 5)))).1.toInt64) (y := (s2 .lushr (0, ρ.2.1 60033) (8, 0)).2) (by rw [bk _ ky, m8]; exact ke)
    have t := List.all_eq_true.mp mf_11 p (List.mem_range.mpr h6)
    simp only [Bool.or_eq_true, decide_eq_true_eq] at t
    by_cases fe : pt_BOOK.getD (5 * p + 1) 0 &&& 256 = 0
    · have ha : amok 256 (ρ.2.1 60033).toInt p = false := by
        unfold amok
        rw [decide_eq_true fe]
        exact Bool.and_false _
      obtain ⟨n1, n2, n3, n4, n5⟩ := nxp ha
      exact t_mp111LEf hv hk_ ρ k1 ⟨hF.1, fcn (kf) (fcn (decide_eq_true (show (sd X ρ (.elem (.string "" 1) (.add (.mul (.arg 60064) (.int 5)) (.int 1)))).1 &&& 256 = 0 by rw [m1.1]; exact fe)) (fcn (n1) (fcn (n2) (fcn (n3) (fcn (n4) (fcn (n5) (hF.2)))))))⟩ hI k4
    · have t := t.resolve_left fe
      have t := List.contains_iff_mem.mp t
      have tk := List.all_eq_true.mp mk_t p (List.mem_range.mpr h6)
      simp only [Bool.and_eq_true, decide_eq_true_eq] at tk
      have a9 : aslot ((ρ.2.1 60033).toInt / 65536) ((ρ.2.1 60033).toInt / 256 % 256) = p := by
        rw [← ke, show (ρ.2.1 60033).toInt / 65536 = (pt_BOOK.getD (5 * p) 0).toInt / 256 by omega]
        exact tk.2.2
      have ml := mv_a (x := ρ.2.1 60033) (m := 255) (k := 8) b0 rfl
      have p8 : ((2 ^ 8 : Nat) : Int) = 256 := rfl
      rw [p8] at ml
      simp only [List.mem_cons, List.not_mem_nil, or_false] at t
      rcases t with t | t | t | t | t | t | t | t | t
      · subst t
        have w : (ρ.2.1 60033).toInt % 256 = 16 := by
          have hv1 : evs 11 (ρ.2.1 60033).toInt = true := by
            by_cases h : evs 11 (ρ.2.1 60033).toInt = true
            · exact h
            · rw [if_neg h] at he; cases he
          have hc : (ρ.2.1 60033).toInt ∈ ([0, 327688, 393232, 458784, 1614807056, 1616904200, 1618608160, 1619066912, 1619197984, 1619263520, 1622671376, 1627259168, 1627324448] : List Int) := List.contains_iff_mem.mp hv1
          have j := List.all_eq_true.mp (List.all_eq_true.mp mh_11 _ hc) (115, 16) (by decide)
          simp only [Bool.or_eq_true, Bool.not_eq_true', decide_eq_false_iff_not, decide_eq_true_eq] at j
          exact j.resolve_left (fun q => q ke.symm)
        have kz : (pt_BOOK.getD (5 * 115) 0).toInt = 6307840 := by decide +kernel
        exact t_mp111LEp115 hv hk_ ρ k1 ⟨hF.1, fcn (di_et (x := ρ.1 60064) (y := 115) hn) (fcn (dl_et (x := 6307840) (y := (s2 .lushr (0, ρ.2.1 60033) (8, 0)).2) (by rw [m8, ← ke, kz]; rfl)) (fcn (dl_et (x := ρ.2.1 60033 &&& 255) (y := 16) (by rw [ml]; exact w)) (fcn (dl_et (x := 16) (y := ρ.2.1 60033 &&& 255) (by rw [ml]; exact w.symm)) (fcn (decide_eq_true (show ((115 : Int32)).toInt = aslot (sd X ρ (.op1 .l2i (.op2 .land (.op2 .lshr (.arg 60033) (.int 16)) (.long 65535)))).1.toInt (sd X ρ (.op1 .l2i (.op2 .land (.op2 .lshr (.arg 60033) (.int 8)) (.long 255)))).1.toInt by rw [i1, i2, a9]; rfl)) (fcn (fx.1) (fcn (fx.2) (hF.2)))))))⟩ hI k4
      · subst t
        have w : (ρ.2.1 60033).toInt % 256 = 8 := by
          have hv1 : evs 11 (ρ.2.1 60033).toInt = true := by
            by_cases h : evs 11 (ρ.2.1 60033).toInt = true
            · exact h
            · rw [if_neg h] at he; cases he
          have hc : (ρ.2.1 60033).toInt ∈ ([0, 327688, 393232, 458784, 1614807056, 1616904200, 1618608160, 1619066912, 1619197984, 1619263520, 1622671376, 1627259168, 1627324448] : List Int) := List.contains_iff_mem.mp hv1
          have j := List.all_eq_true.mp (List.all_eq_true.mp mh_11 _ hc) (122, 8) (by decide)
          simp only [Bool.or_eq_true, Bool.not_eq_true', decide_eq_false_iff_not, decide_eq_true_eq] at j
          exact j.resolve_left (fun q => q ke.symm)
        have kz : (pt_BOOK.getD (5 * 122) 0).toInt = 6316032 := by decide +kernel
        exact t_mp111LEp122 hv hk_ ρ k1 ⟨hF.1, fcn (di_et (x := ρ.1 60064) (y := 122) hn) (fcn (dl_et (x := 6316032) (y := (s2 .lushr (0, ρ.2.1 60033) (8, 0)).2) (by rw [m8, ← ke, kz]; rfl)) (fcn (dl_et (x := ρ.2.1 60033 &&& 255) (y := 8) (by rw [ml]; exact w)) (fcn (dl_et (x := 8) (y := ρ.2.1 60033 &&& 255) (by rw [ml]; exact w.symm)) (fcn (decide_eq_true (show ((122 : Int32)).toInt = aslot (sd X ρ (.op1 .l2i (.op2 .land (.op2 .lshr (.arg 60033) (.int 16)) (.long 65535)))).1.toInt (sd X ρ (.op1 .l2i (.op2 .land (.op2 .lshr (.arg 60033) (.int 8)) (.long 255)))).1.toInt by rw [i1, i2, a9]; rfl)) (fcn (fx.1) (fcn (fx.2) (hF.2)))))))⟩ hI k4
      · subst t
        have w : (ρ.2.1 60033).toInt % 256 = 32 := by
          have hv1 : evs 11 (ρ.2.1 60033).toInt = true := by
            by_cases h : evs 11 (ρ.2.1 60033).toInt = true
            · exact h
            · rw [if_neg h] at he; cases he
          have hc : (ρ.2.1 60033).toInt ∈ ([0, 327688, 393232, 458784, 1614807056, 1616904200, 1618608160, 1619066912, 1619197984, 1619263520, 1622671376, 1627259168, 1627324448] : List Int) := List.contains_iff_mem.mp hv1
          have j := List.all_eq_true.mp (List.all_eq_true.mp mh_11 _ hc) (132, 32) (by decide)
          simp only [Bool.or_eq_true, Bool.not_eq_true', decide_eq_false_iff_not, decide_eq_true_eq] at j
          exact j.resolve_left (fun q => q ke.symm)
        have kz : (pt_BOOK.getD (5 * 132) 0).toInt = 6322688 := by decide +kernel
        exact t_mp111LEp132 hv hk_ ρ k1 ⟨hF.1, fcn (di_et (x := ρ.1 60064) (y := 132) hn) (fcn (dl_et (x := 6322688) (y := (s2 .lushr (0, ρ.2.1 60033) (8, 0)).2) (by rw [m8, ← ke, kz]; rfl)) (fcn (dl_et (x := ρ.2.1 60033 &&& 255) (y := 32) (by rw [ml]; exact w)) (fcn (dl_et (x := 32) (y := ρ.2.1 60033 &&& 255) (by rw [ml]; exact w.symm)) (fcn (decide_eq_true (show ((132 : Int32)).toInt = aslot (sd X ρ (.op1 .l2i (.op2 .land (.op2 .lshr (.arg 60033) (.int 16)) (.long 65535)))).1.toInt (sd X ρ (.op1 .l2i (.op2 .land (.op2 .lshr (.arg 60033) (.int 8)) (.long 255)))).1.toInt by rw [i1, i2, a9]; rfl)) (fcn (fx.1) (fcn (fx.2) (hF.2)))))))⟩ hI k4
      · subst t
        have w : (ρ.2.1 60033).toInt % 256 = 32 := by
          have hv1 : evs 11 (ρ.2.1 60033).toInt = true := by
            by_cases h : evs 11 (ρ.2.1 60033).toInt = true
            · exact h
            · rw [if_neg h] at he; cases he
          have hc : (ρ.2.1 60033).toInt ∈ ([0, 327688, 393232, 458784, 1614807056, 1616904200, 1618608160, 1619066912, 1619197984, 1619263520, 1622671376, 1627259168, 1627324448] : List Int) := List.contains_iff_mem.mp hv1
          have j := List.all_eq_true.mp (List.all_eq_true.mp mh_11 _ hc) (138, 32) (by decide)
          simp only [Bool.or_eq_true, Bool.not_eq_true', decide_eq_false_iff_not, decide_eq_true_eq] at j
          exact j.resolve_left (fun q => q ke.symm)
        have kz : (pt_BOOK.getD (5 * 138) 0).toInt = 6324480 := by decide +kernel
        exact t_mp111LEp138 hv hk_ ρ k1 ⟨hF.1, fcn (di_et (x := ρ.1 60064) (y := 138) hn) (fcn (dl_et (x := 6324480) (y := (s2 .lushr (0, ρ.2.1 60033) (8, 0)).2) (by rw [m8, ← ke, kz]; rfl)) (fcn (dl_et (x := ρ.2.1 60033 &&& 255) (y := 32) (by rw [ml]; exact w)) (fcn (dl_et (x := 32) (y := ρ.2.1 60033 &&& 255) (by rw [ml]; exact w.symm)) (fcn (decide_eq_true (show ((138 : Int32)).toInt = aslot (sd X ρ (.op1 .l2i (.op2 .land (.op2 .lshr (.arg 60033) (.int 16)) (.long 65535)))).1.toInt (sd X ρ (.op1 .l2i (.op2 .land (.op2 .lshr (.arg 60033) (.int 8)) (.long 255)))).1.toInt by rw [i1, i2, a9]; rfl)) (fcn (fx.1) (fcn (fx.2) (hF.2)))))))⟩ hI k4
      · subst t
        have w : (ρ.2.1 60033).toInt % 256 = 32 := by
          have hv1 : evs 11 (ρ.2.1 60033).toInt = true := by
            by_cases h : evs 11 (ρ.2.1 60033).toInt = true
            · exact h
            · rw [if_neg h] at he; cases he
          have hc : (ρ.2.1 60033).toInt ∈ ([0, 327688, 393232, 458784, 1614807056, 1616904200, 1618608160, 1619066912, 1619197984, 1619263520, 1622671376, 1627259168, 1627324448] : List Int) := List.contains_iff_mem.mp hv1
          have j := List.all_eq_true.mp (List.all_eq_true.mp mh_11 _ hc) (139, 32) (by decide)
          simp only [Bool.or_eq_true, Bool.not_eq_true', decide_eq_false_iff_not, decide_eq_true_eq] at j
          exact j.resolve_left (fun q => q ke.symm)
        have kz : (pt_BOOK.getD (5 * 139) 0).toInt = 6324992 := by decide +kernel
        exact t_mp111LEp139 hv hk_ ρ k1 ⟨hF.1, fcn (di_et (x := ρ.1 60064) (y := 139) hn) (fcn (dl_et (x := 6324992) (y := (s2 .lushr (0, ρ.2.1 60033) (8, 0)).2) (by rw [m8, ← ke, kz]; rfl)) (fcn (dl_et (x := ρ.2.1 60033 &&& 255) (y := 32) (by rw [ml]; exact w)) (fcn (dl_et (x := 32) (y := ρ.2.1 60033 &&& 255) (by rw [ml]; exact w.symm)) (fcn (decide_eq_true (show ((139 : Int32)).toInt = aslot (sd X ρ (.op1 .l2i (.op2 .land (.op2 .lshr (.arg 60033) (.int 16)) (.long 65535)))).1.toInt (sd X ρ (.op1 .l2i (.op2 .land (.op2 .lshr (.arg 60033) (.int 8)) (.long 255)))).1.toInt by rw [i1, i2, a9]; rfl)) (fcn (fx.1) (fcn (fx.2) (hF.2)))))))⟩ hI k4
      · subst t
        have w : (ρ.2.1 60033).toInt % 256 = 32 := by
          have hv1 : evs 11 (ρ.2.1 60033).toInt = true := by
            by_cases h : evs 11 (ρ.2.1 60033).toInt = true
            · exact h
            · rw [if_neg h] at he; cases he
          have hc : (ρ.2.1 60033).toInt ∈ ([0, 327688, 393232, 458784, 1614807056, 1616904200, 1618608160, 1619066912, 1619197984, 1619263520, 1622671376, 1627259168, 1627324448] : List Int) := List.contains_iff_mem.mp hv1
          have j := List.all_eq_true.mp (List.all_eq_true.mp mh_11 _ hc) (140, 32) (by decide)
          simp only [Bool.or_eq_true, Bool.not_eq_true', decide_eq_false_iff_not, decide_eq_true_eq] at j
          exact j.resolve_left (fun q => q ke.symm)
        have kz : (pt_BOOK.getD (5 * 140) 0).toInt = 6325248 := by decide +kernel
        exact t_mp111LEp140 hv hk_ ρ k1 ⟨hF.1, fcn (di_et (x := ρ.1 60064) (y := 140) hn) (fcn (dl_et (x := 6325248) (y := (s2 .lushr (0, ρ.2.1 60033) (8, 0)).2) (by rw [m8, ← ke, kz]; rfl)) (fcn (dl_et (x := ρ.2.1 60033 &&& 255) (y := 32) (by rw [ml]; exact w)) (fcn (dl_et (x := 32) (y := ρ.2.1 60033 &&& 255) (by rw [ml]; exact w.symm)) (fcn (decide_eq_true (show ((140 : Int32)).toInt = aslot (sd X ρ (.op1 .l2i (.op2 .land (.op2 .lshr (.arg 60033) (.int 16)) (.long 65535)))).1.toInt (sd X ρ (.op1 .l2i (.op2 .land (.op2 .lshr (.arg 60033) (.int 8)) (.long 255)))).1.toInt by rw [i1, i2, a9]; rfl)) (fcn (fx.1) (fcn (fx.2) (hF.2)))))))⟩ hI k4
      · subst t
        have w : (ρ.2.1 60033).toInt % 256 = 16 := by
          have hv1 : evs 11 (ρ.2.1 60033).toInt = true := by
            by_cases h : evs 11 (ρ.2.1 60033).toInt = true
            · exact h
            · rw [if_neg h] at he; cases he
          have hc : (ρ.2.1 60033).toInt ∈ ([0, 327688, 393232, 458784, 1614807056, 1616904200, 1618608160, 1619066912, 1619197984, 1619263520, 1622671376, 1627259168, 1627324448] : List Int) := List.contains_iff_mem.mp hv1
          have j := List.all_eq_true.mp (List.all_eq_true.mp mh_11 _ hc) (147, 16) (by decide)
          simp only [Bool.or_eq_true, Bool.not_eq_true', decide_eq_false_iff_not, decide_eq_true_eq] at j
          exact j.resolve_left (fun q => q ke.symm)
        have kz : (pt_BOOK.getD (5 * 147) 0).toInt = 6338560 := by decide +kernel
        exact t_mp111LEp147 hv hk_ ρ k1 ⟨hF.1, fcn (di_et (x := ρ.1 60064) (y := 147) hn) (fcn (dl_et (x := 6338560) (y := (s2 .lushr (0, ρ.2.1 60033) (8, 0)).2) (by rw [m8, ← ke, kz]; rfl)) (fcn (dl_et (x := ρ.2.1 60033 &&& 255) (y := 16) (by rw [ml]; exact w)) (fcn (dl_et (x := 16) (y := ρ.2.1 60033 &&& 255) (by rw [ml]; exact w.symm)) (fcn (decide_eq_true (show ((147 : Int32)).toInt = aslot (sd X ρ (.op1 .l2i (.op2 .land (.op2 .lshr (.arg 60033) (.int 16)) (.long 65535)))).1.toInt (sd X ρ (.op1 .l2i (.op2 .land (.op2 .lshr (.arg 60033) (.int 8)) (.long 255)))).1.toInt by rw [i1, i2, a9]; rfl)) (fcn (fx.1) (fcn (fx.2) (hF.2)))))))⟩ hI k4
      · subst t
        have w : (ρ.2.1 60033).toInt % 256 = 32 := by
          have hv1 : evs 11 (ρ.2.1 60033).toInt = true := by
            by_cases h : evs 11 (ρ.2.1 60033).toInt = true
            · exact h
            · rw [if_neg h] at he; cases he
          have hc : (ρ.2.1 60033).toInt ∈ ([0, 327688, 393232, 458784, 1614807056, 1616904200, 1618608160, 1619066912, 1619197984, 1619263520, 1622671376, 1627259168, 1627324448] : List Int) := List.contains_iff_mem.mp hv1
          have j := List.all_eq_true.mp (List.all_eq_true.mp mh_11 _ hc) (153, 32) (by decide)
          simp only [Bool.or_eq_true, Bool.not_eq_true', decide_eq_false_iff_not, decide_eq_true_eq] at j
          exact j.resolve_left (fun q => q ke.symm)
        have kz : (pt_BOOK.getD (5 * 153) 0).toInt = 6356481 := by decide +kernel
        exact t_mp111LEp153 hv hk_ ρ k1 ⟨hF.1, fcn (di_et (x := ρ.1 60064) (y := 153) hn) (fcn (dl_et (x := 6356481) (y := (s2 .lushr (0, ρ.2.1 60033) (8, 0)).2) (by rw [m8, ← ke, kz]; rfl)) (fcn (dl_et (x := ρ.2.1 60033 &&& 255) (y := 32) (by rw [ml]; exact w)) (fcn (dl_et (x := 32) (y := ρ.2.1 60033 &&& 255) (by rw [ml]; exact w.symm)) (fcn (decide_eq_true (show ((153 : Int32)).toInt = aslot (sd X ρ (.op1 .l2i (.op2 .land (.op2 .lshr (.arg 60033) (.int 16)) (.long 65535)))).1.toInt (sd X ρ (.op1 .l2i (.op2 .land (.op2 .lshr (.arg 60033) (.int 8)) (.long 255)))).1.toInt by rw [i1, i2, a9]; rfl)) (fcn (fx.1) (fcn (fx.2) (hF.2)))))))⟩ hI k4
      · subst t
        have w : (ρ.2.1 60033).toInt % 256 = 32 := by
          have hv1 : evs 11 (ρ.2.1 60033).toInt = true := by
            by_cases h : evs 11 (ρ.2.1 60033).toInt = true
            · exact h
            · rw [if_neg h] at he; cases he
          have hc : (ρ.2.1 60033).toInt ∈ ([0, 327688, 393232, 458784, 1614807056, 1616904200, 1618608160, 1619066912, 1619197984, 1619263520, 1622671376, 1627259168, 1627324448] : List Int) := List.contains_iff_mem.mp hv1
          have j := List.all_eq_true.mp (List.all_eq_true.mp mh_11 _ hc) (154, 32) (by decide)
          simp only [Bool.or_eq_true, Bool.not_eq_true', decide_eq_false_iff_not, decide_eq_true_eq] at j
          exact j.resolve_left (fun q => q ke.symm)
        have kz : (pt_BOOK.getD (5 * 154) 0).toInt = 6356736 := by decide +kernel
        exact t_mp111LEp154 hv hk_ ρ k1 ⟨hF.1, fcn (di_et (x := ρ.1 60064) (y := 154) hn) (fcn (dl_et (x := 6356736) (y := (s2 .lushr (0, ρ.2.1 60033) (8, 0)).2) (by rw [m8, ← ke, kz]; rfl)) (fcn (dl_et (x := ρ.2.1 60033 &&& 255) (y := 32) (by rw [ml]; exact w)) (fcn (dl_et (x := 32) (y := ρ.2.1 60033 &&& 255) (by rw [ml]; exact w.symm)) (fcn (decide_eq_true (show ((154 : Int32)).toInt = aslot (sd X ρ (.op1 .l2i (.op2 .land (.op2 .lshr (.arg 60033) (.int 16)) (.long 65535)))).1.toInt (sd X ρ (.op1 .l2i (.op2 .land (.op2 .lshr (.arg 60033) (.int 8)) (.long 255)))).1.toInt by rw [i1, i2, a9]; rfl)) (fcn (fx.1) (fcn (fx.2) (hF.2)))))))⟩ hI k4
  · have ha : amok 256 (ρ.2.1 60033).toInt p = false := by
      unfold amok
      rw [decide_eq_false ke]
      rfl
    obtain ⟨n1, n2, n3, n4, n5⟩ := nxp ha
    exact t_mp111LEk hv hk_ ρ k1 ⟨hF.1, fcn (dl_ef (x := (sd X ρ (.elem (.string "" 1) (.mul (.arg 60064) (.int 5)))).1.toInt64) (y := (s2 .lushr (0, ρ.2.1 60033) (8, 0)).2) (by rw [bk _ ky, m8]; exact ke)) (fcn (n1) (fcn (n2) (fcn (n3) (fcn (n4) (fcn (n5) (hF.2))))))⟩ hI k4
theorem t_mp111L {X : pX} {ρ0 : sR} (hv : vok X ρ0) : CUTOK X kR zWP c_mp111 5 ρ0 q_mp111L := CUT_again (g := 64032) (mt := .sub (.int 156) (.arg 60064)) kR_x (by decide +kernel) (by decide) (by decide) (by decide) (by decide +kernel) (by decide +kernel) (by decide +kernel) (by decide +kernel) (by decide +kernel) (fun ρ0 hv hk => t_mp111LE hv hk) ρ0 hv
noncomputable def q_mp111b : sCut := ((fr 0 221 0 [(0, .arg 60033), (2, .int 256)] [], [fBot], 5), (fr 0 271 0 [(0, tr 219), (1, .int 11), (2, .arg 60033)] [], [fBot], 5), [((8, .arg 60033, .long 0), false), ((8, .long 4294967295, .arg 60033), false), ((131, .add (.int 11) (.arg 60033), .int 1), true)], [])
noncomputable def q_mp111bd0 : sCut := ((fr 0 221 0 [(0, .arg 60033), (2, .int 256)] [], [fBot], 5), (fr 0 271 0 [(0, tr 219), (1, .int 11), (2, .arg 60033)] [], [fBot], 5), [((6, .arg 60033, .long 0), true), ((8, .arg 60033, .long 0), false), ((8, .long 4294967295, .arg 60033), false), ((131, .add (.int 11) (.arg 60033), .int 1), true)], [])
theorem k_mp111bd0 : cbody kR [] (cpl1 zWP c_mp111 []) (cpl2 zWP c_mp111 []) (cleaf kR zWP c_mp111 []) 60 true true q_mp111bd0.2.2.1 q_mp111bd0.2.2.2 (cst zWP c_mp111.2.2.1.1 q_mp111bd0.1) (cst zWP c_mp111.2.2.1.2 q_mp111bd0.2.1) = true := by decide +kernel
theorem t_mp111bd0 {X : pX} {ρ0 : sR} (hv : vok X ρ0) : CUTOK X kR zWP c_mp111 5 ρ0 q_mp111bd0 := CUT_run kR_x kR_0 (Cs := []) (fun C hC => by cases hC) c_mp111_f (Q := []) hv (fun q hq => by cases hq) 60 (b1 := true) (b2 := true) k_mp111bd0
noncomputable def q_mp111bd1 : sCut := ((fr 0 221 0 [(0, .arg 60033), (2, .int 256)] [], [fBot], 5), (fr 0 271 0 [(0, tr 219), (1, .int 11), (2, .arg 60033)] [], [fBot], 5), [((6, .arg 60033, .long 0), false), ((6, .arg 60033, .long 327688), true), ((8, .arg 60033, .long 0), false), ((8, .long 4294967295, .arg 60033), false), ((131, .add (.int 11) (.arg 60033), .int 1), true)], [])
theorem k_mp111bd1 : cbody kR [] (cpl1 zWP c_mp111 []) (cpl2 zWP c_mp111 []) (cleaf kR zWP c_mp111 []) 60 true true q_mp111bd1.2.2.1 q_mp111bd1.2.2.2 (cst zWP c_mp111.2.2.1.1 q_mp111bd1.1) (cst zWP c_mp111.2.2.1.2 q_mp111bd1.2.1) = true := by decide +kernel
theorem t_mp111bd1 {X : pX} {ρ0 : sR} (hv : vok X ρ0) : CUTOK X kR zWP c_mp111 5 ρ0 q_mp111bd1 := CUT_run kR_x kR_0 (Cs := []) (fun C hC => by cases hC) c_mp111_f (Q := []) hv (fun q hq => by cases hq) 60 (b1 := true) (b2 := true) k_mp111bd1
noncomputable def q_mp111bd2 : sCut := ((fr 0 221 0 [(0, .arg 60033), (2, .int 256)] [], [fBot], 5), (fr 0 271 0 [(0, tr 219), (1, .int 11), (2, .arg 60033)] [], [fBot], 5), [((6, .arg 60033, .long 0), false), ((6, .arg 60033, .long 327688), false), ((6, .arg 60033, .long 393232), true), ((8, .arg 60033, .long 0), false), ((8, .long 4294967295, .arg 60033), false), ((131, .add (.int 11) (.arg 60033), .int 1), true)], [])
theorem k_mp111bd2 : cbody kR [] (cpl1 zWP c_mp111 []) (cpl2 zWP c_mp111 []) (cleaf kR zWP c_mp111 []) 60 true true q_mp111bd2.2.2.1 q_mp111bd2.2.2.2 (cst zWP c_mp111.2.2.1.1 q_mp111bd2.1) (cst zWP c_mp111.2.2.1.2 q_mp111bd2.2.1) = true := by decide +kernel
theorem t_mp111bd2 {X : pX} {ρ0 : sR} (hv : vok X ρ0) : CUTOK X kR zWP c_mp111 5 ρ0 q_mp111bd2 := CUT_run kR_x kR_0 (Cs := []) (fun C hC => by cases hC) c_mp111_f (Q := []) hv (fun q hq => by cases hq) 60 (b1 := true) (b2 := true) k_mp111bd2
noncomputable def q_mp111bd3 : sCut := ((fr 0 221 0 [(0, .arg 60033), (2, .int 256)] [], [fBot], 5), (fr 0 271 0 [(0, tr 219), (1, .int 11), (2, .arg 60033)] [], [fBot], 5), [((6, .arg 60033, .long 0), false), ((6, .arg 60033, .long 327688), false), ((6, .arg 60033, .long 393232), false), ((6, .arg 60033, .long 458784), true), ((8, .arg 60033, .long 0), false), ((8, .long 4294967295, .arg 60033), false), ((131, .add (.int 11) (.arg 60033), .int 1), true)], [])
theorem k_mp111bd3 : cbody kR [] (cpl1 zWP c_mp111 []) (cpl2 zWP c_mp111 []) (cleaf kR zWP c_mp111 []) 60 true true q_mp111bd3.2.2.1 q_mp111bd3.2.2.2 (cst zWP c_mp111.2.2.1.1 q_mp111bd3.1) (cst zWP c_mp111.2.2.1.2 q_mp111bd3.2.1) = true := by decide +kernel
theorem t_mp111bd3 {X : pX} {ρ0 : sR} (hv : vok X ρ0) : CUTOK X kR zWP c_mp111 5 ρ0 q_mp111bd3 := CUT_run kR_x kR_0 (Cs := []) (fun C hC => by cases hC) c_mp111_f (Q := []) hv (fun q hq => by cases hq) 60 (b1 := true) (b2 := true) k_mp111bd3
noncomputable def q_mp111bo : sCut := ((fr 0 221 0 [(0, .arg 60033), (2, .int 256)] [], [fBot], 5), (fr 0 271 0 [(0, tr 219), (1, .int 11), (2, .arg 60033)] [], [fBot], 5), [((6, .arg 60033, .long 0), false), ((6, .arg 60033, .long 327688), false), ((6, .arg 60033, .long 393232), false), ((6, .arg 60033, .long 458784), false), ((138, .add (.int 256) (.arg 60033), .int 0), true), ((8, .arg 60033, .long 0), false), ((8, .long 4294967295, .arg 60033), false), ((131, .add (.int 11) (.arg 60033), .int 1), true)], [])
theorem k_mp111bo : cbody kR [] (cpl1 zWP c_mp111 [q_mp111L]) (cpl2 zWP c_mp111 [q_mp111L]) (cleaf kR zWP c_mp111 [q_mp111L]) 60 true false q_mp111bo.2.2.1 q_mp111bo.2.2.2 (cst zWP c_mp111.2.2.1.1 q_mp111bo.1) (cst zWP c_mp111.2.2.1.2 q_mp111bo.2.1) = true := by decide +kernel
theorem t_mp111bo {X : pX} {ρ0 : sR} (hv : vok X ρ0) : CUTOK X kR zWP c_mp111 5 ρ0 q_mp111bo := CUT_run kR_x kR_0 (Cs := []) (fun C hC => by cases hC) c_mp111_f (Q := [q_mp111L]) hv (fun q hq => by
    simp only [List.mem_cons, List.not_mem_nil, or_false] at hq
    rw [hq]; exact t_mp111L hv) 60 (b1 := true) (b2 := false) k_mp111bo
theorem t_mp111b {X : pX} {ρ0 : sR} (hv : vok X ρ0) : CUTOK X kR zWP c_mp111 5 ρ0 q_mp111b := fun ρ k1 hF hI k4 => by
  have z8 : sc X ρ (138, .add (.int 256) (.arg 60033), .int 0) = true := rfl
  by_cases h0 : ρ.2.1 60033 = 0
  · exact t_mp111bd0 hv ρ k1 ⟨hF.1, fcn (decide_eq_true h0) (hF.2)⟩ hI k4
  by_cases h1 : ρ.2.1 60033 = 327688
  · exact t_mp111bd1 hv ρ k1 ⟨hF.1, fcn (decide_eq_false h0) (fcn (decide_eq_true h1) (hF.2))⟩ hI k4
  by_cases h2 : ρ.2.1 60033 = 393232
  · exact t_mp111bd2 hv ρ k1 ⟨hF.1, fcn (decide_eq_false h0) (fcn (decide_eq_false h1) (fcn (decide_eq_true h2) (hF.2)))⟩ hI k4
  by_cases h3 : ρ.2.1 60033 = 458784
  · exact t_mp111bd3 hv ρ k1 ⟨hF.1, fcn (decide_eq_false h0) (fcn (decide_eq_false h1) (fcn (decide_eq_false h2) (fcn (decide_eq_true h3) (hF.2))))⟩ hI k4
  exact t_mp111bo hv ρ k1 ⟨hF.1, fcn (decide_eq_false h0) (fcn (decide_eq_false h1) (fcn (decide_eq_false h2) (fcn (decide_eq_false h3) (fcn (z8) (hF.2)))))⟩ hI k4
theorem e_mp111 : frun kR [] (cpl1 zWP c_mp111 [q_mp111b]) (cpl2 zWP c_mp111 [q_mp111b]) (cleaf kR zWP c_mp111 [q_mp111b]) 10 65536 (isatP (c_mp111.2.2.2.1) c_mp111.2.2.2.2.2.2.2.1) c_mp111.2.2.2.2.2.2.2.1 (sin0 mt_all c_mp111.1.1 5 c_mp111.2.1.1 (foot zWP c_mp111.2.2.1.1)) (sin0 mt_all c_mp111.1.2.1 5 c_mp111.2.1.2 (foot zWP c_mp111.2.2.1.2)) = true := by decide +kernel
theorem s_mp111 {X : pX} : SREL X pF pdfl mt_all kR zWP c_mp111 := SREL_QC kR_x kR_0 (Cs := []) (fun C hC => by cases hC) (d := 5) rfl c_mp111_f (Q := [q_mp111b]) (fun ρ0 hv => fun q hq => by
    simp only [List.mem_cons, List.not_mem_nil, or_false] at hq
    rw [hq]; exact t_mp111b hv) (QC_run 10 e_mp111)
/-! ===== mappedCode and isMapped: 11, it may not ===== -/
noncomputable def c_mp110 : sC := ((221, 271, 6), ([.arg 60033, .int 256], [tr 219, .int 11, .arg 60033]), ([], [219, 223, 222, 228, 220, 221]), [((8, .arg 60033, .long 0), false), ((8, .long 4294967295, .arg 60033), false), ((131, .add (.int 11) (.arg 60033), .int 0), true)], ([60064, 60160], []), (some (.int 100925505), some (.int 0)), [], ([], []))
theorem c_mp110_f : cfine zWP 65536 c_mp110 = true := by decide +kernel
noncomputable def q_mp110e : sCut := ((fr 0 221 77 [] [.int 100925505], [fBot], 5), (fr 0 271 32 [(0, tr 219), (1, .int 11), (2, .arg 60033)] [.arg 60160], [fBot], 5), [((109, .add (.op1 .l2i (.op2 .land (.op2 .lshr (.arg 60033) (.int 16)) (.long 65535))) (.op1 .l2i (.op2 .land (.op2 .lshr (.arg 60033) (.int 8)) (.long 255))), .arg 60160), true), ((138, .add (.int 256) (.arg 60033), .int 156), true), ((8, .arg 60033, .long 0), false), ((8, .long 4294967295, .arg 60033), false), ((131, .add (.int 11) (.arg 60033), .int 0), true), ((6, .arg 60033, .long 0), false), ((6, .arg 60033, .long 327688), false), ((6, .arg 60033, .long 393232), false), ((6, .arg 60033, .long 458784), false)], [])
noncomputable def q_mp110ei : sCut := ((fr 0 221 77 [] [.int 100925505], [fBot], 5), (fr 0 271 32 [(0, tr 219), (1, .int 11), (2, .arg 60033)] [.arg 60160], [fBot], 5), [((0, .arg 60160, .int (-1)), true), ((109, .add (.op1 .l2i (.op2 .land (.op2 .lshr (.arg 60033) (.int 16)) (.long 65535))) (.op1 .l2i (.op2 .land (.op2 .lshr (.arg 60033) (.int 8)) (.long 255))), .arg 60160), true), ((138, .add (.int 256) (.arg 60033), .int 156), true), ((8, .arg 60033, .long 0), false), ((8, .long 4294967295, .arg 60033), false), ((131, .add (.int 11) (.arg 60033), .int 0), true), ((6, .arg 60033, .long 0), false), ((6, .arg 60033, .long 327688), false), ((6, .arg 60033, .long 393232), false), ((6, .arg 60033, .long 458784), false)], [])
theorem k_mp110ei : cbody kR [] (cpl1 zWP c_mp110 []) (cpl2 zWP c_mp110 []) (cleaf kR zWP c_mp110 []) 200 true true q_mp110ei.2.2.1 q_mp110ei.2.2.2 (cst zWP c_mp110.2.2.1.1 q_mp110ei.1) (cst zWP c_mp110.2.2.1.2 q_mp110ei.2.1) = true := by decide +kernel
theorem t_mp110ei {X : pX} {ρ0 : sR} (hv : vok X ρ0) : CUTOK X kR zWP c_mp110 5 ρ0 q_mp110ei := CUT_run kR_x kR_0 (Cs := []) (fun C hC => by cases hC) c_mp110_f (Q := []) hv (fun q hq => by cases hq) 200 (b1 := true) (b2 := true) k_mp110ei
noncomputable def q_mp110es : sCut := ((fr 0 221 77 [] [.int 100925505], [fBot], 5), (fr 0 271 32 [(0, tr 219), (1, .int 11), (2, .arg 60033)] [.arg 60160], [fBot], 5), [((0, .arg 60160, .int (-2)), true), ((109, .add (.op1 .l2i (.op2 .land (.op2 .lshr (.arg 60033) (.int 16)) (.long 65535))) (.op1 .l2i (.op2 .land (.op2 .lshr (.arg 60033) (.int 8)) (.long 255))), .arg 60160), true), ((138, .add (.int 256) (.arg 60033), .int 156), true), ((8, .arg 60033, .long 0), false), ((8, .long 4294967295, .arg 60033), false), ((131, .add (.int 11) (.arg 60033), .int 0), true), ((6, .arg 60033, .long 0), false), ((6, .arg 60033, .long 327688), false), ((6, .arg 60033, .long 393232), false), ((6, .arg 60033, .long 458784), false)], [])
theorem k_mp110es : cbody kR [] (cpl1 zWP c_mp110 []) (cpl2 zWP c_mp110 []) (cleaf kR zWP c_mp110 []) 200 true true q_mp110es.2.2.1 q_mp110es.2.2.2 (cst zWP c_mp110.2.2.1.1 q_mp110es.1) (cst zWP c_mp110.2.2.1.2 q_mp110es.2.1) = true := by decide +kernel
theorem t_mp110es {X : pX} {ρ0 : sR} (hv : vok X ρ0) : CUTOK X kR zWP c_mp110 5 ρ0 q_mp110es := CUT_run kR_x kR_0 (Cs := []) (fun C hC => by cases hC) c_mp110_f (Q := []) hv (fun q hq => by cases hq) 200 (b1 := true) (b2 := true) k_mp110es
noncomputable def q_mp110ee : sCut := ((fr 0 221 77 [] [.int 100925505], [fBot], 5), (fr 0 271 32 [(0, tr 219), (1, .int 11), (2, .arg 60033)] [.arg 60160], [fBot], 5), [((2, .arg 60160, .int 0), false), ((2, .int 155, .arg 60160), false), ((0, .op2 .iand (.elem (.arg 106) (.arg 60160)) (.int 8), .int 0), true), ((109, .add (.op1 .l2i (.op2 .land (.op2 .lshr (.arg 60033) (.int 16)) (.long 65535))) (.op1 .l2i (.op2 .land (.op2 .lshr (.arg 60033) (.int 8)) (.long 255))), .arg 60160), true), ((138, .add (.int 256) (.arg 60033), .int 156), true), ((8, .arg 60033, .long 0), false), ((8, .long 4294967295, .arg 60033), false), ((131, .add (.int 11) (.arg 60033), .int 0), true), ((6, .arg 60033, .long 0), false), ((6, .arg 60033, .long 327688), false), ((6, .arg 60033, .long 393232), false), ((6, .arg 60033, .long 458784), false)], [])
theorem k_mp110ee : cbody kR [] (cpl1 zWP c_mp110 []) (cpl2 zWP c_mp110 []) (cleaf kR zWP c_mp110 []) 200 true true q_mp110ee.2.2.1 q_mp110ee.2.2.2 (cst zWP c_mp110.2.2.1.1 q_mp110ee.1) (cst zWP c_mp110.2.2.1.2 q_mp110ee.2.1) = true := by decide +kernel
theorem t_mp110ee {X : pX} {ρ0 : sR} (hv : vok X ρ0) : CUTOK X kR zWP c_mp110 5 ρ0 q_mp110ee := CUT_run kR_x kR_0 (Cs := []) (fun C hC => by cases hC) c_mp110_f (Q := []) hv (fun q hq => by cases hq) 200 (b1 := true) (b2 := true) k_mp110ee
theorem t_mp110e {X : pX} {ρ0 : sR} (hv : vok X ρ0) : CUTOK X kR zWP c_mp110 5 ρ0 q_mp110e := fun ρ k1 hF hI k4 => by
  have b0 := rl_lf (x := ρ.2.1 60033) (y := 0) (hF.2 _ (List.mem_cons_of_mem _ (List.mem_cons_of_mem _ (List.mem_cons_self))))
  have b1 := rl_lf (x := 4294967295) (y := ρ.2.1 60033) (hF.2 _ (List.mem_cons_of_mem _ (List.mem_cons_of_mem _ (List.mem_cons_of_mem _ (List.mem_cons_self)))))
  have y0 : (0 : Int64).toInt = 0 := rfl
  have y1 : (4294967295 : Int64).toInt = 4294967295 := by decide +kernel
  rw [y0] at b0
  rw [y1] at b1
  have he : ((0 : Int32)).toInt = if evs 11 (ρ.2.1 60033).toInt = true then 1 else 0 := of_decide_eq_true (hF.2 _ (List.mem_cons_of_mem _ (List.mem_cons_of_mem _ (List.mem_cons_of_mem _ (List.mem_cons_of_mem _ (List.mem_cons_self))))))
  obtain ⟨i1, i2⟩ := mv_ix (X := X) (ρ := ρ) b0 b1
  have ha : (ρ.1 60160).toInt = aslot (sd X ρ (.op1 .l2i (.op2 .land (.op2 .lshr (.arg 60033) (.int 16)) (.long 65535)))).1.toInt (sd X ρ (.op1 .l2i (.op2 .land (.op2 .lshr (.arg 60033) (.int 8)) (.long 255)))).1.toInt := of_decide_eq_true (hF.2 _ (List.mem_cons_self))
  have hn := hF.2 _ (List.mem_cons_of_mem _ (List.mem_cons_self))
  have hn : (List.range 156).all (fun p => !(amok (Int32.ofInt (256 : Int32).toInt) (ρ.2.1 60033).toInt p)) = true := hn
  rcases as_cases ha with h | h | ⟨p, hp, hq, hb⟩
  · exact t_mp110ei hv ρ k1 ⟨hF.1, fcn (di_et (x := ρ.1 60160) (y := -1) h) hF.2⟩ hI k4
  · exact t_mp110es hv ρ k1 ⟨hF.1, fcn (di_et (x := ρ.1 60160) (y := -2) h) hF.2⟩ hI k4
  · have t := List.all_eq_true.mp mk_t p (List.mem_range.mpr hp)
    simp only [Bool.and_eq_true, decide_eq_true_eq] at t
    have n := List.all_eq_true.mp hn p (List.mem_range.mpr hp)
    have kk : (pt_BOOK.getD (5 * p) 0).toInt = (ρ.2.1 60033).toInt / 256 := by
      have t1 := t.1
      have t2 := t.2.1
      rw [i1, i2] at hb
      have q1 : bkw.getD p 0 % 65536 = (ρ.2.1 60033).toInt / 65536 := by rw [hb]; omega
      have q2 : bkw.getD p 0 / 65536 = (ρ.2.1 60033).toInt / 256 % 256 := by rw [hb]; omega
      have q3 : (ρ.2.1 60033).toInt / 256 / 256 = (ρ.2.1 60033).toInt / 65536 := by omega
      clear hb
      omega
    have ff : pt_BOOK.getD (5 * p + 1) 0 &&& 256 = 0 := by
      have e : amok (Int32.ofInt (256 : Int32).toInt) (ρ.2.1 60033).toInt p = false := by simpa using n
      unfold amok at e
      rw [decide_eq_true kk, Int32.ofInt_toInt, Bool.true_and] at e
      simpa using e
    have g := of_decide_eq_true (List.all_eq_true.mp mg_11 p (List.mem_range.mpr hp))
    have m1 := op_tab k1 hp (s := 60160) rfl hq
    exact t_mp110ee hv ρ k1 ⟨hF.1, fcn (di_lf (x := ρ.1 60160) (y := 0) (show (0 : Int) ≤ _ by omega)) (fcn (di_lf (x := 155) (y := ρ.1 60160) (show _ ≤ (155 : Int) by omega)) (fcn (decide_eq_true (show ρ.2.2.1 106 (ρ.1 60160).toNatClampNeg &&& 8 = 0 by rw [m1.2.2.2.2, g]; exact ff)) hF.2))⟩ hI k4
noncomputable def q_mp110x115 : sCut := ((fr 0 221 25 [(0, .arg 60033), (2, .int 256), (3, .int 115)] [], [fBot], 5), (fr 0 271 0 [(0, tr 219), (1, .int 11), (2, .arg 60033)] [], [fBot], 5), [((6, .long 6307840, .op2 .lushr (.arg 60033) (.int 8)), true), ((6, .op2 .land (.arg 60033) (.long 255), .long 16), false), ((6, .long 16, .op2 .land (.arg 60033) (.long 255)), false), ((109, .add (.op1 .l2i (.op2 .land (.op2 .lshr (.arg 60033) (.int 16)) (.long 65535))) (.op1 .l2i (.op2 .land (.op2 .lshr (.arg 60033) (.int 8)) (.long 255))), .int 115), true), ((2, .op1 .l2i (.op2 .land (.op2 .lshr (.arg 60033) (.int 16)) (.long 65535)), .int 0), false), ((2, .int 65535, .op1 .l2i (.op2 .land (.op2 .lshr (.arg 60033) (.int 16)) (.long 65535))), false), ((8, .arg 60033, .long 0), false), ((8, .long 4294967295, .arg 60033), false), ((131, .add (.int 11) (.arg 60033), .int 0), true), ((6, .arg 60033, .long 0), false), ((6, .arg 60033, .long 327688), false), ((6, .arg 60033, .long 393232), false), ((6, .arg 60033, .long 458784), false)], [])
theorem k_mp110x115 : cbody kR [(zWP, c_fndl)] (cpl1 zWP c_mp110 []) (cpl2 zWP c_mp110 []) (cleaf kR zWP c_mp110 []) 300 true true q_mp110x115.2.2.1 q_mp110x115.2.2.2 (cst zWP c_mp110.2.2.1.1 q_mp110x115.1) (cst zWP c_mp110.2.2.1.2 q_mp110x115.2.1) = true := by decide +kernel
theorem t_mp110x115 {X : pX} {ρ0 : sR} (hv : vok X ρ0) : CUTOK X kR zWP c_mp110 5 ρ0 q_mp110x115 := CUT_run kR_x kR_0 (Cs := [(zWP, c_fndl)]) (fun C hC => by rw [List.mem_singleton.mp hC]; exact s_fndl) c_mp110_f (Q := []) hv (fun q hq => by cases hq) 300 (b1 := true) (b2 := true) k_mp110x115
noncomputable def q_mp110x122 : sCut := ((fr 0 221 25 [(0, .arg 60033), (2, .int 256), (3, .int 122)] [], [fBot], 5), (fr 0 271 0 [(0, tr 219), (1, .int 11), (2, .arg 60033)] [], [fBot], 5), [((6, .long 6316032, .op2 .lushr (.arg 60033) (.int 8)), true), ((6, .op2 .land (.arg 60033) (.long 255), .long 8), false), ((6, .long 8, .op2 .land (.arg 60033) (.long 255)), false), ((109, .add (.op1 .l2i (.op2 .land (.op2 .lshr (.arg 60033) (.int 16)) (.long 65535))) (.op1 .l2i (.op2 .land (.op2 .lshr (.arg 60033) (.int 8)) (.long 255))), .int 122), true), ((2, .op1 .l2i (.op2 .land (.op2 .lshr (.arg 60033) (.int 16)) (.long 65535)), .int 0), false), ((2, .int 65535, .op1 .l2i (.op2 .land (.op2 .lshr (.arg 60033) (.int 16)) (.long 65535))), false), ((8, .arg 60033, .long 0), false), ((8, .long 4294967295, .arg 60033), false), ((131, .add (.int 11) (.arg 60033), .int 0), true), ((6, .arg 60033, .long 0), false), ((6, .arg 60033, .long 327688), false), ((6, .arg 60033, .long 393232), false), ((6, .arg 60033, .long 458784), false)], [])
theorem k_mp110x122 : cbody kR [(zWP, c_fndl)] (cpl1 zWP c_mp110 []) (cpl2 zWP c_mp110 []) (cleaf kR zWP c_mp110 []) 300 true true q_mp110x122.2.2.1 q_mp110x122.2.2.2 (cst zWP c_mp110.2.2.1.1 q_mp110x122.1) (cst zWP c_mp110.2.2.1.2 q_mp110x122.2.1) = true := by decide +kernel
theorem t_mp110x122 {X : pX} {ρ0 : sR} (hv : vok X ρ0) : CUTOK X kR zWP c_mp110 5 ρ0 q_mp110x122 := CUT_run kR_x kR_0 (Cs := [(zWP, c_fndl)]) (fun C hC => by rw [List.mem_singleton.mp hC]; exact s_fndl) c_mp110_f (Q := []) hv (fun q hq => by cases hq) 300 (b1 := true) (b2 := true) k_mp110x122
noncomputable def q_mp110x132 : sCut := ((fr 0 221 25 [(0, .arg 60033), (2, .int 256), (3, .int 132)] [], [fBot], 5), (fr 0 271 0 [(0, tr 219), (1, .int 11), (2, .arg 60033)] [], [fBot], 5), [((6, .long 6322688, .op2 .lushr (.arg 60033) (.int 8)), true), ((6, .op2 .land (.arg 60033) (.long 255), .long 32), false), ((6, .long 32, .op2 .land (.arg 60033) (.long 255)), false), ((109, .add (.op1 .l2i (.op2 .land (.op2 .lshr (.arg 60033) (.int 16)) (.long 65535))) (.op1 .l2i (.op2 .land (.op2 .lshr (.arg 60033) (.int 8)) (.long 255))), .int 132), true), ((2, .op1 .l2i (.op2 .land (.op2 .lshr (.arg 60033) (.int 16)) (.long 65535)), .int 0), false), ((2, .int 65535, .op1 .l2i (.op2 .land (.op2 .lshr (.arg 60033) (.int 16)) (.long 65535))), false), ((8, .arg 60033, .long 0), false), ((8, .long 4294967295, .arg 60033), false), ((131, .add (.int 11) (.arg 60033), .int 0), true), ((6, .arg 60033, .long 0), false), ((6, .arg 60033, .long 327688), false), ((6, .arg 60033, .long 393232), false), ((6, .arg 60033, .long 458784), false)], [])
theorem k_mp110x132 : cbody kR [(zWP, c_fndl)] (cpl1 zWP c_mp110 []) (cpl2 zWP c_mp110 []) (cleaf kR zWP c_mp110 []) 300 true true q_mp110x132.2.2.1 q_mp110x132.2.2.2 (cst zWP c_mp110.2.2.1.1 q_mp110x132.1) (cst zWP c_mp110.2.2.1.2 q_mp110x132.2.1) = true := by decide +kernel
theorem t_mp110x132 {X : pX} {ρ0 : sR} (hv : vok X ρ0) : CUTOK X kR zWP c_mp110 5 ρ0 q_mp110x132 := CUT_run kR_x kR_0 (Cs := [(zWP, c_fndl)]) (fun C hC => by rw [List.mem_singleton.mp hC]; exact s_fndl) c_mp110_f (Q := []) hv (fun q hq => by cases hq) 300 (b1 := true) (b2 := true) k_mp110x132
noncomputable def q_mp110x138 : sCut := ((fr 0 221 25 [(0, .arg 60033), (2, .int 256), (3, .int 138)] [], [fBot], 5), (fr 0 271 0 [(0, tr 219), (1, .int 11), (2, .arg 60033)] [], [fBot], 5), [((6, .long 6324480, .op2 .lushr (.arg 60033) (.int 8)), true), ((6, .op2 .land (.arg 60033) (.long 255), .long 32), false), ((6, .long 32, .op2 .land (.arg 60033) (.long 255)), false), ((109, .add (.op1 .l2i (.op2 .land (.op2 .lshr (.arg 60033) (.int 16)) (.long 65535))) (.op1 .l2i (.op2 .land (.op2 .lshr (.arg 60033) (.int 8)) (.long 255))), .int 138), true), ((2, .op1 .l2i (.op2 .land (.op2 .lshr (.arg 60033) (.int 16)) (.long 65535)), .int 0), false), ((2, .int 65535, .op1 .l2i (.op2 .land (.op2 .lshr (.arg 60033) (.int 16)) (.long 65535))), false), ((8, .arg 60033, .long 0), false), ((8, .long 4294967295, .arg 60033), false), ((131, .add (.int 11) (.arg 60033), .int 0), true), ((6, .arg 60033, .long 0), false), ((6, .arg 60033, .long 327688), false), ((6, .arg 60033, .long 393232), false), ((6, .arg 60033, .long 458784), false)], [])
theorem k_mp110x138 : cbody kR [(zWP, c_fndl)] (cpl1 zWP c_mp110 []) (cpl2 zWP c_mp110 []) (cleaf kR zWP c_mp110 []) 300 true true q_mp110x138.2.2.1 q_mp110x138.2.2.2 (cst zWP c_mp110.2.2.1.1 q_mp110x138.1) (cst zWP c_mp110.2.2.1.2 q_mp110x138.2.1) = true := by decide +kernel
theorem t_mp110x138 {X : pX} {ρ0 : sR} (hv : vok X ρ0) : CUTOK X kR zWP c_mp110 5 ρ0 q_mp110x138 := CUT_run kR_x kR_0 (Cs := [(zWP, c_fndl)]) (fun C hC => by rw [List.mem_singleton.mp hC]; exact s_fndl) c_mp110_f (Q := []) hv (fun q hq => by cases hq) 300 (b1 := true) (b2 := true) k_mp110x138
noncomputable def q_mp110x139 : sCut := ((fr 0 221 25 [(0, .arg 60033), (2, .int 256), (3, .int 139)] [], [fBot], 5), (fr 0 271 0 [(0, tr 219), (1, .int 11), (2, .arg 60033)] [], [fBot], 5), [((6, .long 6324992, .op2 .lushr (.arg 60033) (.int 8)), true), ((6, .op2 .land (.arg 60033) (.long 255), .long 32), false), ((6, .long 32, .op2 .land (.arg 60033) (.long 255)), false), ((109, .add (.op1 .l2i (.op2 .land (.op2 .lshr (.arg 60033) (.int 16)) (.long 65535))) (.op1 .l2i (.op2 .land (.op2 .lshr (.arg 60033) (.int 8)) (.long 255))), .int 139), true), ((2, .op1 .l2i (.op2 .land (.op2 .lshr (.arg 60033) (.int 16)) (.long 65535)), .int 0), false), ((2, .int 65535, .op1 .l2i (.op2 .land (.op2 .lshr (.arg 60033) (.int 16)) (.long 65535))), false), ((8, .arg 60033, .long 0), false), ((8, .long 4294967295, .arg 60033), false), ((131, .add (.int 11) (.arg 60033), .int 0), true), ((6, .arg 60033, .long 0), false), ((6, .arg 60033, .long 327688), false), ((6, .arg 60033, .long 393232), false), ((6, .arg 60033, .long 458784), false)], [])
theorem k_mp110x139 : cbody kR [(zWP, c_fndl)] (cpl1 zWP c_mp110 []) (cpl2 zWP c_mp110 []) (cleaf kR zWP c_mp110 []) 300 true true q_mp110x139.2.2.1 q_mp110x139.2.2.2 (cst zWP c_mp110.2.2.1.1 q_mp110x139.1) (cst zWP c_mp110.2.2.1.2 q_mp110x139.2.1) = true := by decide +kernel
theorem t_mp110x139 {X : pX} {ρ0 : sR} (hv : vok X ρ0) : CUTOK X kR zWP c_mp110 5 ρ0 q_mp110x139 := CUT_run kR_x kR_0 (Cs := [(zWP, c_fndl)]) (fun C hC => by rw [List.mem_singleton.mp hC]; exact s_fndl) c_mp110_f (Q := []) hv (fun q hq => by cases hq) 300 (b1 := true) (b2 := true) k_mp110x139
noncomputable def q_mp110x140 : sCut := ((fr 0 221 25 [(0, .arg 60033), (2, .int 256), (3, .int 140)] [], [fBot], 5), (fr 0 271 0 [(0, tr 219), (1, .int 11), (2, .arg 60033)] [], [fBot], 5), [((6, .long 6325248, .op2 .lushr (.arg 60033) (.int 8)), true), ((6, .op2 .land (.arg 60033) (.long 255), .long 32), false), ((6, .long 32, .op2 .land (.arg 60033) (.long 255)), false), ((109, .add (.op1 .l2i (.op2 .land (.op2 .lshr (.arg 60033) (.int 16)) (.long 65535))) (.op1 .l2i (.op2 .land (.op2 .lshr (.arg 60033) (.int 8)) (.long 255))), .int 140), true), ((2, .op1 .l2i (.op2 .land (.op2 .lshr (.arg 60033) (.int 16)) (.long 65535)), .int 0), false), ((2, .int 65535, .op1 .l2i (.op2 .land (.op2 .lshr (.arg 60033) (.int 16)) (.long 65535))), false), ((8, .arg 60033, .long 0), false), ((8, .long 4294967295, .arg 60033), false), ((131, .add (.int 11) (.arg 60033), .int 0), true), ((6, .arg 60033, .long 0), false), ((6, .arg 60033, .long 327688), false), ((6, .arg 60033, .long 393232), false), ((6, .arg 60033, .long 458784), false)], [])
theorem k_mp110x140 : cbody kR [(zWP, c_fndl)] (cpl1 zWP c_mp110 []) (cpl2 zWP c_mp110 []) (cleaf kR zWP c_mp110 []) 300 true true q_mp110x140.2.2.1 q_mp110x140.2.2.2 (cst zWP c_mp110.2.2.1.1 q_mp110x140.1) (cst zWP c_mp110.2.2.1.2 q_mp110x140.2.1) = true := by decide +kernel
theorem t_mp110x140 {X : pX} {ρ0 : sR} (hv : vok X ρ0) : CUTOK X kR zWP c_mp110 5 ρ0 q_mp110x140 := CUT_run kR_x kR_0 (Cs := [(zWP, c_fndl)]) (fun C hC => by rw [List.mem_singleton.mp hC]; exact s_fndl) c_mp110_f (Q := []) hv (fun q hq => by cases hq) 300 (b1 := true) (b2 := true) k_mp110x140
noncomputable def q_mp110x147 : sCut := ((fr 0 221 25 [(0, .arg 60033), (2, .int 256), (3, .int 147)] [], [fBot], 5), (fr 0 271 0 [(0, tr 219), (1, .int 11), (2, .arg 60033)] [], [fBot], 5), [((6, .long 6338560, .op2 .lushr (.arg 60033) (.int 8)), true), ((6, .op2 .land (.arg 60033) (.long 255), .long 16), false), ((6, .long 16, .op2 .land (.arg 60033) (.long 255)), false), ((109, .add (.op1 .l2i (.op2 .land (.op2 .lshr (.arg 60033) (.int 16)) (.long 65535))) (.op1 .l2i (.op2 .land (.op2 .lshr (.arg 60033) (.int 8)) (.long 255))), .int 147), true), ((2, .op1 .l2i (.op2 .land (.op2 .lshr (.arg 60033) (.int 16)) (.long 65535)), .int 0), false), ((2, .int 65535, .op1 .l2i (.op2 .land (.op2 .lshr (.arg 60033) (.int 16)) (.long 65535))), false), ((8, .arg 60033, .long 0), false), ((8, .long 4294967295, .arg 60033), false), ((131, .add (.int 11) (.arg 60033), .int 0), true), ((6, .arg 60033, .long 0), false), ((6, .arg 60033, .long 327688), false), ((6, .arg 60033, .long 393232), false), ((6, .arg 60033, .long 458784), false)], [])
theorem k_mp110x147 : cbody kR [(zWP, c_fndl)] (cpl1 zWP c_mp110 []) (cpl2 zWP c_mp110 []) (cleaf kR zWP c_mp110 []) 300 true true q_mp110x147.2.2.1 q_mp110x147.2.2.2 (cst zWP c_mp110.2.2.1.1 q_mp110x147.1) (cst zWP c_mp110.2.2.1.2 q_mp110x147.2.1) = true := by decide +kernel
theorem t_mp110x147 {X : pX} {ρ0 : sR} (hv : vok X ρ0) : CUTOK X kR zWP c_mp110 5 ρ0 q_mp110x147 := CUT_run kR_x kR_0 (Cs := [(zWP, c_fndl)]) (fun C hC => by rw [List.mem_singleton.mp hC]; exact s_fndl) c_mp110_f (Q := []) hv (fun q hq => by cases hq) 300 (b1 := true) (b2 := true) k_mp110x147
noncomputable def q_mp110x153 : sCut := ((fr 0 221 25 [(0, .arg 60033), (2, .int 256), (3, .int 153)] [], [fBot], 5), (fr 0 271 0 [(0, tr 219), (1, .int 11), (2, .arg 60033)] [], [fBot], 5), [((6, .long 6356481, .op2 .lushr (.arg 60033) (.int 8)), true), ((6, .op2 .land (.arg 60033) (.long 255), .long 32), false), ((6, .long 32, .op2 .land (.arg 60033) (.long 255)), false), ((109, .add (.op1 .l2i (.op2 .land (.op2 .lshr (.arg 60033) (.int 16)) (.long 65535))) (.op1 .l2i (.op2 .land (.op2 .lshr (.arg 60033) (.int 8)) (.long 255))), .int 153), true), ((2, .op1 .l2i (.op2 .land (.op2 .lshr (.arg 60033) (.int 16)) (.long 65535)), .int 0), false), ((2, .int 65535, .op1 .l2i (.op2 .land (.op2 .lshr (.arg 60033) (.int 16)) (.long 65535))), false), ((8, .arg 60033, .long 0), false), ((8, .long 4294967295, .arg 60033), false), ((131, .add (.int 11) (.arg 60033), .int 0), true), ((6, .arg 60033, .long 0), false), ((6, .arg 60033, .long 327688), false), ((6, .arg 60033, .long 393232), false), ((6, .arg 60033, .long 458784), false)], [])
theorem k_mp110x153 : cbody kR [(zWP, c_fndl)] (cpl1 zWP c_mp110 []) (cpl2 zWP c_mp110 []) (cleaf kR zWP c_mp110 []) 300 true true q_mp110x153.2.2.1 q_mp110x153.2.2.2 (cst zWP c_mp110.2.2.1.1 q_mp110x153.1) (cst zWP c_mp110.2.2.1.2 q_mp110x153.2.1) = true := by decide +kernel
theorem t_mp110x153 {X : pX} {ρ0 : sR} (hv : vok X ρ0) : CUTOK X kR zWP c_mp110 5 ρ0 q_mp110x153 := CUT_run kR_x kR_0 (Cs := [(zWP, c_fndl)]) (fun C hC => by rw [List.mem_singleton.mp hC]; exact s_fndl) c_mp110_f (Q := []) hv (fun q hq => by cases hq) 300 (b1 := true) (b2 := true) k_mp110x153
noncomputable def q_mp110x154 : sCut := ((fr 0 221 25 [(0, .arg 60033), (2, .int 256), (3, .int 154)] [], [fBot], 5), (fr 0 271 0 [(0, tr 219), (1, .int 11), (2, .arg 60033)] [], [fBot], 5), [((6, .long 6356736, .op2 .lushr (.arg 60033) (.int 8)), true), ((6, .op2 .land (.arg 60033) (.long 255), .long 32), false), ((6, .long 32, .op2 .land (.arg 60033) (.long 255)), false), ((109, .add (.op1 .l2i (.op2 .land (.op2 .lshr (.arg 60033) (.int 16)) (.long 65535))) (.op1 .l2i (.op2 .land (.op2 .lshr (.arg 60033) (.int 8)) (.long 255))), .int 154), true), ((2, .op1 .l2i (.op2 .land (.op2 .lshr (.arg 60033) (.int 16)) (.long 65535)), .int 0), false), ((2, .int 65535, .op1 .l2i (.op2 .land (.op2 .lshr (.arg 60033) (.int 16)) (.long 65535))), false), ((8, .arg 60033, .long 0), false), ((8, .long 4294967295, .arg 60033), false), ((131, .add (.int 11) (.arg 60033), .int 0), true), ((6, .arg 60033, .long 0), false), ((6, .arg 60033, .long 327688), false), ((6, .arg 60033, .long 393232), false), ((6, .arg 60033, .long 458784), false)], [])
theorem k_mp110x154 : cbody kR [(zWP, c_fndl)] (cpl1 zWP c_mp110 []) (cpl2 zWP c_mp110 []) (cleaf kR zWP c_mp110 []) 300 true true q_mp110x154.2.2.1 q_mp110x154.2.2.2 (cst zWP c_mp110.2.2.1.1 q_mp110x154.1) (cst zWP c_mp110.2.2.1.2 q_mp110x154.2.1) = true := by decide +kernel
theorem t_mp110x154 {X : pX} {ρ0 : sR} (hv : vok X ρ0) : CUTOK X kR zWP c_mp110 5 ρ0 q_mp110x154 := CUT_run kR_x kR_0 (Cs := [(zWP, c_fndl)]) (fun C hC => by rw [List.mem_singleton.mp hC]; exact s_fndl) c_mp110_f (Q := []) hv (fun q hq => by cases hq) 300 (b1 := true) (b2 := true) k_mp110x154
noncomputable def q_mp110L : sCut := ((fr 0 221 25 [(0, .arg 60033), (2, .int 256), (3, .arg 60064)] [], [fBot], 5), (fr 0 271 0 [(0, tr 219), (1, .int 11), (2, .arg 60033)] [], [fBot], 5), [((2, .arg 60064, .int 0), false), ((2, .int 156, .arg 60064), false), ((138, .add (.int 256) (.arg 60033), .arg 60064), true), ((8, .arg 60033, .long 0), false), ((8, .long 4294967295, .arg 60033), false), ((131, .add (.int 11) (.arg 60033), .int 0), true), ((6, .arg 60033, .long 0), false), ((6, .arg 60033, .long 327688), false), ((6, .arg 60033, .long 393232), false), ((6, .arg 60033, .long 458784), false)], [])
noncomputable def q_mp110LL : sCut := ((fr 0 221 25 [(0, .arg 60033), (2, .int 256), (3, .arg 60064)] [], [fBot], 5), (fr 0 271 0 [(0, tr 219), (1, .int 11), (2, .arg 60033)] [], [fBot], 5), [((2, .sub (.int 156) (.arg 60064), .arg 64032), true), ((2, .arg 60064, .int 0), false), ((2, .int 156, .arg 60064), false), ((138, .add (.int 256) (.arg 60033), .arg 60064), true), ((8, .arg 60033, .long 0), false), ((8, .long 4294967295, .arg 60033), false), ((131, .add (.int 11) (.arg 60033), .int 0), true), ((6, .arg 60033, .long 0), false), ((6, .arg 60033, .long 327688), false), ((6, .arg 60033, .long 393232), false), ((6, .arg 60033, .long 458784), false)], [])
noncomputable def q_mp110LE : sCut := ((fr 0 221 25 [(0, .arg 60033), (2, .int 256), (3, .arg 60064)] [], [fBot], 5), (fr 0 271 0 [(0, tr 219), (1, .int 11), (2, .arg 60033)] [], [fBot], 5), [((0, .sub (.int 156) (.arg 60064), .arg 64032), true), ((2, .arg 60064, .int 0), false), ((2, .int 156, .arg 60064), false), ((138, .add (.int 256) (.arg 60033), .arg 60064), true), ((8, .arg 60033, .long 0), false), ((8, .long 4294967295, .arg 60033), false), ((131, .add (.int 11) (.arg 60033), .int 0), true), ((6, .arg 60033, .long 0), false), ((6, .arg 60033, .long 327688), false), ((6, .arg 60033, .long 393232), false), ((6, .arg 60033, .long 458784), false)], [])
noncomputable def q_mp110LEk : sCut := ((fr 0 221 25 [(0, .arg 60033), (2, .int 256), (3, .arg 60064)] [], [fBot], 5), (fr 0 271 0 [(0, tr 219), (1, .int 11), (2, .arg 60033)] [], [fBot], 5), [((6, .op1 .i2l (.elem (.string "" 1) (.mul (.arg 60064) (.int 5))), .op2 .lushr (.arg 60033) (.int 8)), false), ((2, .arg 60064, .int 156), true), ((2, .sub (.int 156) (.add (.arg 60064) (.int 1)), .arg 64032), true), ((2, .add (.arg 60064) (.int 1), .int 0), false), ((2, .int 156, .add (.arg 60064) (.int 1)), false), ((138, .add (.int 256) (.arg 60033), .add (.arg 60064) (.int 1)), true), ((0, .sub (.int 156) (.arg 60064), .arg 64032), true), ((2, .arg 60064, .int 0), false), ((2, .int 156, .arg 60064), false), ((138, .add (.int 256) (.arg 60033), .arg 60064), true), ((8, .arg 60033, .long 0), false), ((8, .long 4294967295, .arg 60033), false), ((131, .add (.int 11) (.arg 60033), .int 0), true), ((6, .arg 60033, .long 0), false), ((6, .arg 60033, .long 327688), false), ((6, .arg 60033, .long 393232), false), ((6, .arg 60033, .long 458784), false)], [])
theorem k_mp110LEk : cbody kR [] (cpl1 zWP c_mp110 [q_mp110LL]) (cpl2 zWP c_mp110 [q_mp110LL]) (cleaf kR zWP c_mp110 [q_mp110LL]) 60 true false q_mp110LEk.2.2.1 q_mp110LEk.2.2.2 (cst zWP c_mp110.2.2.1.1 q_mp110LEk.1) (cst zWP c_mp110.2.2.1.2 q_mp110LEk.2.1) = true := by decide +kernel
theorem t_mp110LEk {X : pX} {ρ0 : sR} (hv : vok X ρ0) (hk_ : CUTOK X kR zWP c_mp110 5 ρ0 q_mp110LL) : CUTOK X kR zWP c_mp110 5 ρ0 q_mp110LEk := CUT_run kR_x kR_0 (Cs := []) (fun C hC => by cases hC) c_mp110_f (Q := [q_mp110LL]) hv (fun q hq => by
    simp only [List.mem_cons, List.not_mem_nil, or_false] at hq
    rw [hq]; exact hk_) 60 (b1 := true) (b2 := false) k_mp110LEk
noncomputable def q_mp110LEf : sCut := ((fr 0 221 25 [(0, .arg 60033), (2, .int 256), (3, .arg 60064)] [], [fBot], 5), (fr 0 271 0 [(0, tr 219), (1, .int 11), (2, .arg 60033)] [], [fBot], 5), [((6, .op1 .i2l (.elem (.string "" 1) (.mul (.arg 60064) (.int 5))), .op2 .lushr (.arg 60033) (.int 8)), true), ((0, .op2 .iand (.elem (.string "" 1) (.add (.mul (.arg 60064) (.int 5)) (.int 1))) (.int 256), .int 0), true), ((2, .arg 60064, .int 156), true), ((2, .sub (.int 156) (.add (.arg 60064) (.int 1)), .arg 64032), true), ((2, .add (.arg 60064) (.int 1), .int 0), false), ((2, .int 156, .add (.arg 60064) (.int 1)), false), ((138, .add (.int 256) (.arg 60033), .add (.arg 60064) (.int 1)), true), ((0, .sub (.int 156) (.arg 60064), .arg 64032), true), ((2, .arg 60064, .int 0), false), ((2, .int 156, .arg 60064), false), ((138, .add (.int 256) (.arg 60033), .arg 60064), true), ((8, .arg 60033, .long 0), false), ((8, .long 4294967295, .arg 60033), false), ((131, .add (.int 11) (.arg 60033), .int 0), true), ((6, .arg 60033, .long 0), false), ((6, .arg 60033, .long 327688), false), ((6, .arg 60033, .long 393232), false), ((6, .arg 60033, .long 458784), false)], [])
theorem k_mp110LEf : cbody kR [] (cpl1 zWP c_mp110 [q_mp110LL]) (cpl2 zWP c_mp110 [q_mp110LL]) (cleaf kR zWP c_mp110 [q_mp110LL]) 60 true false q_mp110LEf.2.2.1 q_mp110LEf.2.2.2 (cst zWP c_mp110.2.2.1.1 q_mp110LEf.1) (cst zWP c_mp110.2.2.1.2 q_mp110LEf.2.1) = true := by decide +kernel
theorem t_mp110LEf {X : pX} {ρ0 : sR} (hv : vok X ρ0) (hk_ : CUTOK X kR zWP c_mp110 5 ρ0 q_mp110LL) : CUTOK X kR zWP c_mp110 5 ρ0 q_mp110LEf := CUT_run kR_x kR_0 (Cs := []) (fun C hC => by cases hC) c_mp110_f (Q := [q_mp110LL]) hv (fun q hq => by
    simp only [List.mem_cons, List.not_mem_nil, or_false] at hq
    rw [hq]; exact hk_) 60 (b1 := true) (b2 := false) k_mp110LEf
noncomputable def q_mp110LEp115 : sCut := ((fr 0 221 25 [(0, .arg 60033), (2, .int 256), (3, .arg 60064)] [], [fBot], 5), (fr 0 271 0 [(0, tr 219), (1, .int 11), (2, .arg 60033)] [], [fBot], 5), [((0, .arg 60064, .int 115), true), ((6, .long 6307840, .op2 .lushr (.arg 60033) (.int 8)), true), ((6, .op2 .land (.arg 60033) (.long 255), .long 16), false), ((6, .long 16, .op2 .land (.arg 60033) (.long 255)), false), ((109, .add (.op1 .l2i (.op2 .land (.op2 .lshr (.arg 60033) (.int 16)) (.long 65535))) (.op1 .l2i (.op2 .land (.op2 .lshr (.arg 60033) (.int 8)) (.long 255))), .int 115), true), ((2, .op1 .l2i (.op2 .land (.op2 .lshr (.arg 60033) (.int 16)) (.long 65535)), .int 0), false), ((2, .int 65535, .op1 .l2i (.op2 .land (.op2 .lshr (.arg 60033) (.int 16)) (.long 65535))), false), ((0, .sub (.int 156) (.arg 60064), .arg 64032), true), ((2, .arg 60064, .int 0), false), ((2, .int 156, .arg 60064), false), ((138, .add (.int 256) (.arg 60033), .arg 60064), true), ((8, .arg 60033, .long 0), false), ((8, .long 4294967295, .arg 60033), false), ((131, .add (.int 11) (.arg 60033), .int 0), true), ((6, .arg 60033, .long 0), false), ((6, .arg 60033, .long 327688), false), ((6, .arg 60033, .long 393232), false), ((6, .arg 60033, .long 458784), false)], [])
theorem k_mp110LEp115 : cbody kR [] (cpl1 zWP c_mp110 [q_mp110x115]) (cpl2 zWP c_mp110 [q_mp110x115]) (cleaf kR zWP c_mp110 [q_mp110x115]) 5 false false q_mp110LEp115.2.2.1 q_mp110LEp115.2.2.2 (cst zWP c_mp110.2.2.1.1 q_mp110LEp115.1) (cst zWP c_mp110.2.2.1.2 q_mp110LEp115.2.1) = true := by decide +kernel
theorem t_mp110LEp115 {X : pX} {ρ0 : sR} (hv : vok X ρ0) (hk_ : CUTOK X kR zWP c_mp110 5 ρ0 q_mp110LL) : CUTOK X kR zWP c_mp110 5 ρ0 q_mp110LEp115 := CUT_run kR_x kR_0 (Cs := []) (fun C hC => by cases hC) c_mp110_f (Q := [q_mp110x115]) hv (fun q hq => by
    simp only [List.mem_cons, List.not_mem_nil, or_false] at hq
    rw [hq]; exact t_mp110x115 hv) 5 (b1 := false) (b2 := false) k_mp110LEp115
noncomputable def q_mp110LEp122 : sCut := ((fr 0 221 25 [(0, .arg 60033), (2, .int 256), (3, .arg 60064)] [], [fBot], 5), (fr 0 271 0 [(0, tr 219), (1, .int 11), (2, .arg 60033)] [], [fBot], 5), [((0, .arg 60064, .int 122), true), ((6, .long 6316032, .op2 .lushr (.arg 60033) (.int 8)), true), ((6, .op2 .land (.arg 60033) (.long 255), .long 8), false), ((6, .long 8, .op2 .land (.arg 60033) (.long 255)), false), ((109, .add (.op1 .l2i (.op2 .land (.op2 .lshr (.arg 60033) (.int 16)) (.long 65535))) (.op1 .l2i (.op2 .land (.op2 .lshr (.arg 60033) (.int 8)) (.long 255))), .int 122), true), ((2, .op1 .l2i (.op2 .land (.op2 .lshr (.arg 60033) (.int 16)) (.long 65535)), .int 0), false), ((2, .int 65535, .op1 .l2i (.op2 .land (.op2 .lshr (.arg 60033) (.int 16)) (.long 65535))), false), ((0, .sub (.int 156) (.arg 60064), .arg 64032), true), ((2, .arg 60064, .int 0), false), ((2, .int 156, .arg 60064), false), ((138, .add (.int 256) (.arg 60033), .arg 60064), true), ((8, .arg 60033, .long 0), false), ((8, .long 4294967295, .arg 60033), false), ((131, .add (.int 11) (.arg 60033), .int 0), true), ((6, .arg 60033, .long 0), false), ((6, .arg 60033, .long 327688), false), ((6, .arg 60033, .long 393232), false), ((6, .arg 60033, .long 458784), false)], [])
theorem k_mp110LEp122 : cbody kR [] (cpl1 zWP c_mp110 [q_mp110x122]) (cpl2 zWP c_mp110 [q_mp110x122]) (cleaf kR zWP c_mp110 [q_mp110x122]) 5 false false q_mp110LEp122.2.2.1 q_mp110LEp122.2.2.2 (cst zWP c_mp110.2.2.1.1 q_mp110LEp122.1) (cst zWP c_mp110.2.2.1.2 q_mp110LEp122.2.1) = true := by decide +kernel
theorem t_mp110LEp122 {X : pX} {ρ0 : sR} (hv : vok X ρ0) (hk_ : CUTOK X kR zWP c_mp110 5 ρ0 q_mp110LL) : CUTOK X kR zWP c_mp110 5 ρ0 q_mp110LEp122 := CUT_run kR_x kR_0 (Cs := []) (fun C hC => by cases hC) c_mp110_f (Q := [q_mp110x122]) hv (fun q hq => by
    simp only [List.mem_cons, List.not_mem_nil, or_false] at hq
    rw [hq]; exact t_mp110x122 hv) 5 (b1 := false) (b2 := false) k_mp110LEp122
noncomputable def q_mp110LEp132 : sCut := ((fr 0 221 25 [(0, .arg 60033), (2, .int 256), (3, .arg 60064)] [], [fBot], 5), (fr 0 271 0 [(0, tr 219), (1, .int 11), (2, .arg 60033)] [], [fBot], 5), [((0, .arg 60064, .int 132), true), ((6, .long 6322688, .op2 .lushr (.arg 60033) (.int 8)), true), ((6, .op2 .land (.arg 60033) (.long 255), .long 32), false), ((6, .long 32, .op2 .land (.arg 60033) (.long 255)), false), ((109, .add (.op1 .l2i (.op2 .land (.op2 .lshr (.arg 60033) (.int 16)) (.long 65535))) (.op1 .l2i (.op2 .land (.op2 .lshr (.arg 60033) (.int 8)) (.long 255))), .int 132), true), ((2, .op1 .l2i (.op2 .land (.op2 .lshr (.arg 60033) (.int 16)) (.long 65535)), .int 0), false), ((2, .int 65535, .op1 .l2i (.op2 .land (.op2 .lshr (.arg 60033) (.int 16)) (.long 65535))), false), ((0, .sub (.int 156) (.arg 60064), .arg 64032), true), ((2, .arg 60064, .int 0), false), ((2, .int 156, .arg 60064), false), ((138, .add (.int 256) (.arg 60033), .arg 60064), true), ((8, .arg 60033, .long 0), false), ((8, .long 4294967295, .arg 60033), false), ((131, .add (.int 11) (.arg 60033), .int 0), true), ((6, .arg 60033, .long 0), false), ((6, .arg 60033, .long 327688), false), ((6, .arg 60033, .long 393232), false), ((6, .arg 60033, .long 458784), false)], [])
theorem k_mp110LEp132 : cbody kR [] (cpl1 zWP c_mp110 [q_mp110x132]) (cpl2 zWP c_mp110 [q_mp110x132]) (cleaf kR zWP c_mp110 [q_mp110x132]) 5 false false q_mp110LEp132.2.2.1 q_mp110LEp132.2.2.2 (cst zWP c_mp110.2.2.1.1 q_mp110LEp132.1) (cst zWP c_mp110.2.2.1.2 q_mp110LEp132.2.1) = true := by decide +kernel
theorem t_mp110LEp132 {X : pX} {ρ0 : sR} (hv : vok X ρ0) (hk_ : CUTOK X kR zWP c_mp110 5 ρ0 q_mp110LL) : CUTOK X kR zWP c_mp110 5 ρ0 q_mp110LEp132 := CUT_run kR_x kR_0 (Cs := []) (fun C hC => by cases hC) c_mp110_f (Q := [q_mp110x132]) hv (fun q hq => by
    simp only [List.mem_cons, List.not_mem_nil, or_false] at hq
    rw [hq]; exact t_mp110x132 hv) 5 (b1 := false) (b2 := false) k_mp110LEp132
noncomputable def q_mp110LEp138 : sCut := ((fr 0 221 25 [(0, .arg 60033), (2, .int 256), (3, .arg 60064)] [], [fBot], 5), (fr 0 271 0 [(0, tr 219), (1, .int 11), (2, .arg 60033)] [], [fBot], 5), [((0, .arg 60064, .int 138), true), ((6, .long 6324480, .op2 .lushr (.arg 60033) (.int 8)), true), ((6, .op2 .land (.arg 60033) (.long 255), .long 32), false), ((6, .long 32, .op2 .land (.arg 60033) (.long 255)), false), ((109, .add (.op1 .l2i (.op2 .land (.op2 .lshr (.arg 60033) (.int 16)) (.long 65535))) (.op1 .l2i (.op2 .land (.op2 .lshr (.arg 60033) (.int 8)) (.long 255))), .int 138), true), ((2, .op1 .l2i (.op2 .land (.op2 .lshr (.arg 60033) (.int 16)) (.long 65535)), .int 0), false), ((2, .int 65535, .op1 .l2i (.op2 .land (.op2 .lshr (.arg 60033) (.int 16)) (.long 65535))), false), ((0, .sub (.int 156) (.arg 60064), .arg 64032), true), ((2, .arg 60064, .int 0), false), ((2, .int 156, .arg 60064), false), ((138, .add (.int 256) (.arg 60033), .arg 60064), true), ((8, .arg 60033, .long 0), false), ((8, .long 4294967295, .arg 60033), false), ((131, .add (.int 11) (.arg 60033), .int 0), true), ((6, .arg 60033, .long 0), false), ((6, .arg 60033, .long 327688), false), ((6, .arg 60033, .long 393232), false), ((6, .arg 60033, .long 458784), false)], [])
theorem k_mp110LEp138 : cbody kR [] (cpl1 zWP c_mp110 [q_mp110x138]) (cpl2 zWP c_mp110 [q_mp110x138]) (cleaf kR zWP c_mp110 [q_mp110x138]) 5 false false q_mp110LEp138.2.2.1 q_mp110LEp138.2.2.2 (cst zWP c_mp110.2.2.1.1 q_mp110LEp138.1) (cst zWP c_mp110.2.2.1.2 q_mp110LEp138.2.1) = true := by decide +kernel
theorem t_mp110LEp138 {X : pX} {ρ0 : sR} (hv : vok X ρ0) (hk_ : CUTOK X kR zWP c_mp110 5 ρ0 q_mp110LL) : CUTOK X kR zWP c_mp110 5 ρ0 q_mp110LEp138 := CUT_run kR_x kR_0 (Cs := []) (fun C hC => by cases hC) c_mp110_f (Q := [q_mp110x138]) hv (fun q hq => by
    simp only [List.mem_cons, List.not_mem_nil, or_false] at hq
    rw [hq]; exact t_mp110x138 hv) 5 (b1 := false) (b2 := false) k_mp110LEp138
noncomputable def q_mp110LEp139 : sCut := ((fr 0 221 25 [(0, .arg 60033), (2, .int 256), (3, .arg 60064)] [], [fBot], 5), (fr 0 271 0 [(0, tr 219), (1, .int 11), (2, .arg 60033)] [], [fBot], 5), [((0, .arg 60064, .int 139), true), ((6, .long 6324992, .op2 .lushr (.arg 60033) (.int 8)), true), ((6, .op2 .land (.arg 60033) (.long 255), .long 32), false), ((6, .long 32, .op2 .land (.arg 60033) (.long 255)), false), ((109, .add (.op1 .l2i (.op2 .land (.op2 .lshr (.arg 60033) (.int 16)) (.long 65535))) (.op1 .l2i (.op2 .land (.op2 .lshr (.arg 60033) (.int 8)) (.long 255))), .int 139), true), ((2, .op1 .l2i (.op2 .land (.op2 .lshr (.arg 60033) (.int 16)) (.long 65535)), .int 0), false), ((2, .int 65535, .op1 .l2i (.op2 .land (.op2 .lshr (.arg 60033) (.int 16)) (.long 65535))), false), ((0, .sub (.int 156) (.arg 60064), .arg 64032), true), ((2, .arg 60064, .int 0), false), ((2, .int 156, .arg 60064), false), ((138, .add (.int 256) (.arg 60033), .arg 60064), true), ((8, .arg 60033, .long 0), false), ((8, .long 4294967295, .arg 60033), false), ((131, .add (.int 11) (.arg 60033), .int 0), true), ((6, .arg 60033, .long 0), false), ((6, .arg 60033, .long 327688), false), ((6, .arg 60033, .long 393232), false), ((6, .arg 60033, .long 458784), false)], [])
theorem k_mp110LEp139 : cbody kR [] (cpl1 zWP c_mp110 [q_mp110x139]) (cpl2 zWP c_mp110 [q_mp110x139]) (cleaf kR zWP c_mp110 [q_mp110x139]) 5 false false q_mp110LEp139.2.2.1 q_mp110LEp139.2.2.2 (cst zWP c_mp110.2.2.1.1 q_mp110LEp139.1) (cst zWP c_mp110.2.2.1.2 q_mp110LEp139.2.1) = true := by decide +kernel
theorem t_mp110LEp139 {X : pX} {ρ0 : sR} (hv : vok X ρ0) (hk_ : CUTOK X kR zWP c_mp110 5 ρ0 q_mp110LL) : CUTOK X kR zWP c_mp110 5 ρ0 q_mp110LEp139 := CUT_run kR_x kR_0 (Cs := []) (fun C hC => by cases hC) c_mp110_f (Q := [q_mp110x139]) hv (fun q hq => by
    simp only [List.mem_cons, List.not_mem_nil, or_false] at hq
    rw [hq]; exact t_mp110x139 hv) 5 (b1 := false) (b2 := false) k_mp110LEp139
noncomputable def q_mp110LEp140 : sCut := ((fr 0 221 25 [(0, .arg 60033), (2, .int 256), (3, .arg 60064)] [], [fBot], 5), (fr 0 271 0 [(0, tr 219), (1, .int 11), (2, .arg 60033)] [], [fBot], 5), [((0, .arg 60064, .int 140), true), ((6, .long 6325248, .op2 .lushr (.arg 60033) (.int 8)), true), ((6, .op2 .land (.arg 60033) (.long 255), .long 32), false), ((6, .long 32, .op2 .land (.arg 60033) (.long 255)), false), ((109, .add (.op1 .l2i (.op2 .land (.op2 .lshr (.arg 60033) (.int 16)) (.long 65535))) (.op1 .l2i (.op2 .land (.op2 .lshr (.arg 60033) (.int 8)) (.long 255))), .int 140), true), ((2, .op1 .l2i (.op2 .land (.op2 .lshr (.arg 60033) (.int 16)) (.long 65535)), .int 0), false), ((2, .int 65535, .op1 .l2i (.op2 .land (.op2 .lshr (.arg 60033) (.int 16)) (.long 65535))), false), ((0, .sub (.int 156) (.arg 60064), .arg 64032), true), ((2, .arg 60064, .int 0), false), ((2, .int 156, .arg 60064), false), ((138, .add (.int 256) (.arg 60033), .arg 60064), true), ((8, .arg 60033, .long 0), false), ((8, .long 4294967295, .arg 60033), false), ((131, .add (.int 11) (.arg 60033), .int 0), true), ((6, .arg 60033, .long 0), false), ((6, .arg 60033, .long 327688), false), ((6, .arg 60033, .long 393232), false), ((6, .arg 60033, .long 458784), false)], [])
theorem k_mp110LEp140 : cbody kR [] (cpl1 zWP c_mp110 [q_mp110x140]) (cpl2 zWP c_mp110 [q_mp110x140]) (cleaf kR zWP c_mp110 [q_mp110x140]) 5 false false q_mp110LEp140.2.2.1 q_mp110LEp140.2.2.2 (cst zWP c_mp110.2.2.1.1 q_mp110LEp140.1) (cst zWP c_mp110.2.2.1.2 q_mp110LEp140.2.1) = true := by decide +kernel
theorem t_mp110LEp140 {X : pX} {ρ0 : sR} (hv : vok X ρ0) (hk_ : CUTOK X kR zWP c_mp110 5 ρ0 q_mp110LL) : CUTOK X kR zWP c_mp110 5 ρ0 q_mp110LEp140 := CUT_run kR_x kR_0 (Cs := []) (fun C hC => by cases hC) c_mp110_f (Q := [q_mp110x140]) hv (fun q hq => by
    simp only [List.mem_cons, List.not_mem_nil, or_false] at hq
    rw [hq]; exact t_mp110x140 hv) 5 (b1 := false) (b2 := false) k_mp110LEp140
noncomputable def q_mp110LEp147 : sCut := ((fr 0 221 25 [(0, .arg 60033), (2, .int 256), (3, .arg 60064)] [], [fBot], 5), (fr 0 271 0 [(0, tr 219), (1, .int 11), (2, .arg 60033)] [], [fBot], 5), [((0, .arg 60064, .int 147), true), ((6, .long 6338560, .op2 .lushr (.arg 60033) (.int 8)), true), ((6, .op2 .land (.arg 60033) (.long 255), .long 16), false), ((6, .long 16, .op2 .land (.arg 60033) (.long 255)), false), ((109, .add (.op1 .l2i (.op2 .land (.op2 .lshr (.arg 60033) (.int 16)) (.long 65535))) (.op1 .l2i (.op2 .land (.op2 .lshr (.arg 60033) (.int 8)) (.long 255))), .int 147), true), ((2, .op1 .l2i (.op2 .land (.op2 .lshr (.arg 60033) (.int 16)) (.long 65535)), .int 0), false), ((2, .int 65535, .op1 .l2i (.op2 .land (.op2 .lshr (.arg 60033) (.int 16)) (.long 65535))), false), ((0, .sub (.int 156) (.arg 60064), .arg 64032), true), ((2, .arg 60064, .int 0), false), ((2, .int 156, .arg 60064), false), ((138, .add (.int 256) (.arg 60033), .arg 60064), true), ((8, .arg 60033, .long 0), false), ((8, .long 4294967295, .arg 60033), false), ((131, .add (.int 11) (.arg 60033), .int 0), true), ((6, .arg 60033, .long 0), false), ((6, .arg 60033, .long 327688), false), ((6, .arg 60033, .long 393232), false), ((6, .arg 60033, .long 458784), false)], [])
theorem k_mp110LEp147 : cbody kR [] (cpl1 zWP c_mp110 [q_mp110x147]) (cpl2 zWP c_mp110 [q_mp110x147]) (cleaf kR zWP c_mp110 [q_mp110x147]) 5 false false q_mp110LEp147.2.2.1 q_mp110LEp147.2.2.2 (cst zWP c_mp110.2.2.1.1 q_mp110LEp147.1) (cst zWP c_mp110.2.2.1.2 q_mp110LEp147.2.1) = true := by decide +kernel
theorem t_mp110LEp147 {X : pX} {ρ0 : sR} (hv : vok X ρ0) (hk_ : CUTOK X kR zWP c_mp110 5 ρ0 q_mp110LL) : CUTOK X kR zWP c_mp110 5 ρ0 q_mp110LEp147 := CUT_run kR_x kR_0 (Cs := []) (fun C hC => by cases hC) c_mp110_f (Q := [q_mp110x147]) hv (fun q hq => by
    simp only [List.mem_cons, List.not_mem_nil, or_false] at hq
    rw [hq]; exact t_mp110x147 hv) 5 (b1 := false) (b2 := false) k_mp110LEp147
noncomputable def q_mp110LEp153 : sCut := ((fr 0 221 25 [(0, .arg 60033), (2, .int 256), (3, .arg 60064)] [], [fBot], 5), (fr 0 271 0 [(0, tr 219), (1, .int 11), (2, .arg 60033)] [], [fBot], 5), [((0, .arg 60064, .int 153), true), ((6, .long 6356481, .op2 .lushr (.arg 60033) (.int 8)), true), ((6, .op2 .land (.arg 60033) (.long 255), .long 32), false), ((6, .long 32, .op2 .land (.arg 60033) (.long 255)), false), ((109, .add (.op1 .l2i (.op2 .land (.op2 .lshr (.arg 60033) (.int 16)) (.long 65535))) (.op1 .l2i (.op2 .land (.op2 .lshr (.arg 60033) (.int 8)) (.long 255))), .int 153), true), ((2, .op1 .l2i (.op2 .land (.op2 .lshr (.arg 60033) (.int 16)) (.long 65535)), .int 0), false), ((2, .int 65535, .op1 .l2i (.op2 .land (.op2 .lshr (.arg 60033) (.int 16)) (.long 65535))), false), ((0, .sub (.int 156) (.arg 60064), .arg 64032), true), ((2, .arg 60064, .int 0), false), ((2, .int 156, .arg 60064), false), ((138, .add (.int 256) (.arg 60033), .arg 60064), true), ((8, .arg 60033, .long 0), false), ((8, .long 4294967295, .arg 60033), false), ((131, .add (.int 11) (.arg 60033), .int 0), true), ((6, .arg 60033, .long 0), false), ((6, .arg 60033, .long 327688), false), ((6, .arg 60033, .long 393232), false), ((6, .arg 60033, .long 458784), false)], [])
theorem k_mp110LEp153 : cbody kR [] (cpl1 zWP c_mp110 [q_mp110x153]) (cpl2 zWP c_mp110 [q_mp110x153]) (cleaf kR zWP c_mp110 [q_mp110x153]) 5 false false q_mp110LEp153.2.2.1 q_mp110LEp153.2.2.2 (cst zWP c_mp110.2.2.1.1 q_mp110LEp153.1) (cst zWP c_mp110.2.2.1.2 q_mp110LEp153.2.1) = true := by decide +kernel
theorem t_mp110LEp153 {X : pX} {ρ0 : sR} (hv : vok X ρ0) (hk_ : CUTOK X kR zWP c_mp110 5 ρ0 q_mp110LL) : CUTOK X kR zWP c_mp110 5 ρ0 q_mp110LEp153 := CUT_run kR_x kR_0 (Cs := []) (fun C hC => by cases hC) c_mp110_f (Q := [q_mp110x153]) hv (fun q hq => by
    simp only [List.mem_cons, List.not_mem_nil, or_false] at hq
    rw [hq]; exact t_mp110x153 hv) 5 (b1 := false) (b2 := false) k_mp110LEp153
noncomputable def q_mp110LEp154 : sCut := ((fr 0 221 25 [(0, .arg 60033), (2, .int 256), (3, .arg 60064)] [], [fBot], 5), (fr 0 271 0 [(0, tr 219), (1, .int 11), (2, .arg 60033)] [], [fBot], 5), [((0, .arg 60064, .int 154), true), ((6, .long 6356736, .op2 .lushr (.arg 60033) (.int 8)), true), ((6, .op2 .land (.arg 60033) (.long 255), .long 32), false), ((6, .long 32, .op2 .land (.arg 60033) (.long 255)), false), ((109, .add (.op1 .l2i (.op2 .land (.op2 .lshr (.arg 60033) (.int 16)) (.long 65535))) (.op1 .l2i (.op2 .land (.op2 .lshr (.arg 60033) (.int 8)) (.long 255))), .int 154), true), ((2, .op1 .l2i (.op2 .land (.op2 .lshr (.arg 60033) (.int 16)) (.long 65535)), .int 0), false), ((2, .int 65535, .op1 .l2i (.op2 .land (.op2 .lshr (.arg 60033) (.int 16)) (.long 65535))), false), ((0, .sub (.int 156) (.arg 60064), .arg 64032), true), ((2, .arg 60064, .int 0), false), ((2, .int 156, .arg 60064), false), ((138, .add (.int 256) (.arg 60033), .arg 60064), true), ((8, .arg 60033, .long 0), false), ((8, .long 4294967295, .arg 60033), false), ((131, .add (.int 11) (.arg 60033), .int 0), true), ((6, .arg 60033, .long 0), false), ((6, .arg 60033, .long 327688), false), ((6, .arg 60033, .long 393232), false), ((6, .arg 60033, .long 458784), false)], [])
theorem k_mp110LEp154 : cbody kR [] (cpl1 zWP c_mp110 [q_mp110x154]) (cpl2 zWP c_mp110 [q_mp110x154]) (cleaf kR zWP c_mp110 [q_mp110x154]) 5 false false q_mp110LEp154.2.2.1 q_mp110LEp154.2.2.2 (cst zWP c_mp110.2.2.1.1 q_mp110LEp154.1) (cst zWP c_mp110.2.2.1.2 q_mp110LEp154.2.1) = true := by decide +kernel
theorem t_mp110LEp154 {X : pX} {ρ0 : sR} (hv : vok X ρ0) (hk_ : CUTOK X kR zWP c_mp110 5 ρ0 q_mp110LL) : CUTOK X kR zWP c_mp110 5 ρ0 q_mp110LEp154 := CUT_run kR_x kR_0 (Cs := []) (fun C hC => by cases hC) c_mp110_f (Q := [q_mp110x154]) hv (fun q hq => by
    simp only [List.mem_cons, List.not_mem_nil, or_false] at hq
    rw [hq]; exact t_mp110x154 hv) 5 (b1 := false) (b2 := false) k_mp110LEp154
noncomputable def q_mp110LEz : sCut := ((fr 0 221 25 [(0, .arg 60033), (2, .int 256), (3, .arg 60064)] [], [fBot], 5), (fr 0 271 0 [(0, tr 219), (1, .int 11), (2, .arg 60033)] [], [fBot], 5), [((0, .arg 60064, .int 156), true), ((138, .add (.int 256) (.arg 60033), .int 156), true), ((2, .op1 .l2i (.op2 .land (.op2 .lshr (.arg 60033) (.int 16)) (.long 65535)), .int 0), false), ((2, .int 65535, .op1 .l2i (.op2 .land (.op2 .lshr (.arg 60033) (.int 16)) (.long 65535))), false), ((0, .sub (.int 156) (.arg 60064), .arg 64032), true), ((2, .arg 60064, .int 0), false), ((2, .int 156, .arg 60064), false), ((138, .add (.int 256) (.arg 60033), .arg 60064), true), ((8, .arg 60033, .long 0), false), ((8, .long 4294967295, .arg 60033), false), ((131, .add (.int 11) (.arg 60033), .int 0), true), ((6, .arg 60033, .long 0), false), ((6, .arg 60033, .long 327688), false), ((6, .arg 60033, .long 393232), false), ((6, .arg 60033, .long 458784), false)], [])
theorem k_mp110LEz : cbody kR [(zWP, c_fndm)] (cpl1 zWP c_mp110 [q_mp110e]) (cpl2 zWP c_mp110 [q_mp110e]) (cleaf kR zWP c_mp110 [q_mp110e]) 60 true true q_mp110LEz.2.2.1 q_mp110LEz.2.2.2 (cst zWP c_mp110.2.2.1.1 q_mp110LEz.1) (cst zWP c_mp110.2.2.1.2 q_mp110LEz.2.1) = true := by decide +kernel
theorem t_mp110LEz {X : pX} {ρ0 : sR} (hv : vok X ρ0) (hk_ : CUTOK X kR zWP c_mp110 5 ρ0 q_mp110LL) : CUTOK X kR zWP c_mp110 5 ρ0 q_mp110LEz := CUT_run kR_x kR_0 (Cs := [(zWP, c_fndm)]) (fun C hC => by rw [List.mem_singleton.mp hC]; exact s_fndm) c_mp110_f (Q := [q_mp110e]) hv (fun q hq => by
    simp only [List.mem_cons, List.not_mem_nil, or_false] at hq
    rw [hq]; exact t_mp110e hv) 60 (b1 := true) (b2 := true) k_mp110LEz
theorem t_mp110LE {X : pX} {ρ0 : sR} (hv : vok X ρ0) (hk_ : CUTOK X kR zWP c_mp110 5 ρ0 q_mp110LL) : CUTOK X kR zWP c_mp110 5 ρ0 q_mp110LE := fun ρ k1 hF hI k4 => by
  have b0 := rl_lf (x := ρ.2.1 60033) (y := 0) (hF.2 _ (List.mem_cons_of_mem _ (List.mem_cons_of_mem _ (List.mem_cons_of_mem _ (List.mem_cons_of_mem _ (List.mem_cons_self))))))
  have b1 := rl_lf (x := 4294967295) (y := ρ.2.1 60033) (hF.2 _ (List.mem_cons_of_mem _ (List.mem_cons_of_mem _ (List.mem_cons_of_mem _ (List.mem_cons_of_mem _ (List.mem_cons_of_mem _ (List.mem_cons_self)))))))
  have y0 : (0 : Int64).toInt = 0 := rfl
  have y1 : (4294967295 : Int64).toInt = 4294967295 := by decide +kernel
  rw [y0] at b0
  rw [y1] at b1
  have he : ((0 : Int32)).toInt = if evs 11 (ρ.2.1 60033).toInt = true then 1 else 0 := of_decide_eq_true (hF.2 _ (List.mem_cons_of_mem _ (List.mem_cons_of_mem _ (List.mem_cons_of_mem _ (List.mem_cons_of_mem _ (List.mem_cons_of_mem _ (List.mem_cons_of_mem _ (List.mem_cons_self))))))))
  have s0 := ri_lf (x := ρ.1 60064) (y := 0) (hF.2 _ (List.mem_cons_of_mem _ (List.mem_cons_self)))
  have s1 := ri_lf (x := 156) (y := ρ.1 60064) (hF.2 _ (List.mem_cons_of_mem _ (List.mem_cons_of_mem _ (List.mem_cons_self))))
  have x0 : (0 : Int32).toInt = 0 := rfl
  have x1 : (156 : Int32).toInt = 156 := rfl
  rw [x0] at s0
  rw [x1] at s1
  obtain ⟨p, hp, hn⟩ : ∃ p : Nat, p ≤ 156 ∧ (ρ.1 60064).toInt = p := ⟨(ρ.1 60064).toInt.toNat, by omega, by omega⟩
  have hb : (List.range (ρ.1 60064).toInt.toNat).all (fun p => !(amok (Int32.ofInt (256 : Int32).toInt) (ρ.2.1 60033).toInt p)) = true := hF.2 _ (List.mem_cons_of_mem _ (List.mem_cons_of_mem _ (List.mem_cons_of_mem _ (List.mem_cons_self))))
  have hb : ∀ j : Nat, j < p → amok 256 (ρ.2.1 60033).toInt j = false := fun j hj => by
    have := List.all_eq_true.mp hb j (List.mem_range.mpr (by omega))
    rw [Int32.ofInt_toInt] at this
    simpa using this
  obtain ⟨i1, i2⟩ := mv_ix (X := X) (ρ := ρ) b0 b1
  have m8 := mv_8 b0
  have fx : sc X ρ (2, .op1 .l2i (.op2 .land (.op2 .lshr (.arg 60033) (.int 16)) (.long 65535)), .int 0) = false ∧ sc X ρ (2, .int 65535, .op1 .l2i (.op2 .land (.op2 .lshr (.arg 60033) (.int 16)) (.long 65535))) = false := ⟨di_lf (y := 0) (show (0 : Int) ≤ (sd X ρ (.op1 .l2i (.op2 .land (.op2 .lshr (.arg 60033) (.int 16)) (.long 65535)))).1.toInt by rw [i1]; omega), di_lf (x := 65535) (show (sd X ρ (.op1 .l2i (.op2 .land (.op2 .lshr (.arg 60033) (.int 16)) (.long 65535)))).1.toInt ≤ (65535 : Int) by rw [i1]; omega)⟩
  by_cases e6 : p = 156
  · have es : (ρ.1 60064).toInt = 156 := by omega
    have nb : sc X ρ (138, .add (.int 256) (.arg 60033), .int 156) = true := by
      show (List.range (156 : Int32).toInt.toNat).all (fun p => !(amok (Int32.ofInt (256 : Int32).toInt) (ρ.2.1 60033).toInt p)) = true
      rw [Int32.ofInt_toInt]
      refine List.all_eq_true.mpr (fun j hj => ?_)
      have := List.mem_range.mp hj
      have x2 : (156 : Int32).toInt.toNat = 156 := rfl
      rw [hb j (by omega)]
      rfl
    exact t_mp110LEz hv hk_ ρ k1 ⟨hF.1, fcn (di_et (x := ρ.1 60064) (y := 156) es) (fcn (nb) (fcn (fx.1) (fcn (fx.2) (hF.2))))⟩ hI k4
  have h6 : p < 156 := by omega
  have ky := op_key k1 h6 (s := 60064) hn
  have m1 := op_tab k1 h6 (s := 60064) rfl hn
  have bk : ∀ w : Int32, w = pt_BOOK.getD (5 * p) 0 → w.toInt64.toInt = (pt_BOOK.getD (5 * p) 0).toInt := fun w hw => by rw [Int32.toInt_toInt64, hw]
  have nxp : amok 256 (ρ.2.1 60033).toInt p = false → sc X ρ (2, .arg 60064, .int 156) = true ∧ sc X ρ (2, .sub (.int 156) (.add (.arg 60064) (.int 1)), .arg 64032) = true ∧ sc X ρ (2, .add (.arg 60064) (.int 1), .int 0) = false ∧ sc X ρ (2, .int 156, .add (.arg 60064) (.int 1)) = false ∧ sc X ρ (138, .add (.int 256) (.arg 60033), .add (.arg 60064) (.int 1)) = true := fun ha => by
    have e1 : (ρ.1 60064 + 1).toInt = p + 1 := i_of (n := (p : Int) + 1) (by rw [i_ad (i_s (ρ.1 60064)) i_1, hn]) (by omega) (by omega)
    have gq : (156 : Int32) - ρ.1 60064 = ρ.1 64032 := of_decide_eq_true (hF.2 _ (List.mem_cons_self))
    have g1 : ((156 : Int32) - ρ.1 60064).toInt = 156 - p := i_of (n := 156 - (p : Int)) (by rw [i_sb (show (156 : Int32) = Int32.ofInt 156 from rfl) (i_s (ρ.1 60064)), hn]) (by omega) (by omega)
    have g2 : ((156 : Int32) - (ρ.1 60064 + 1)).toInt = 155 - p := i_of (n := 155 - (p : Int)) (by rw [i_sb (show (156 : Int32) = Int32.ofInt 156 from rfl) (i_s (ρ.1 60064 + 1)), e1]; congr 1; omega) (by omega) (by omega)
    rw [gq] at g1
    refine ⟨di_lt (x := ρ.1 60064) (y := 156) (show _ < (156 : Int) by omega), di_lt (x := (156 : Int32) - (ρ.1 60064 + 1)) (y := ρ.1 64032) (by omega), di_lf (x := ρ.1 60064 + 1) (y := 0) (show (0 : Int) ≤ _ by omega), di_lf (x := 156) (y := ρ.1 60064 + 1) (show _ ≤ (156 : Int) by omega), ?_⟩
    show (List.range (ρ.1 60064 + 1).toInt.toNat).all (fun p => !(amok (Int32.ofInt (256 : Int32).toInt) (ρ.2.1 60033).toInt p)) = true
    rw [Int32.ofInt_toInt]
    refine List.all_eq_true.mpr (fun j hj => ?_)
    have hj := List.mem_range.mp hj
    by_cases ej : j = p
    · rw [ej, ha]; rfl
    · rw [hb j (by omega)]; rfl
  by_cases ke : (pt_BOOK.getD (5 * p) 0).toInt = (ρ.2.1 60033).toInt / 256
  · have kf : sc X ρ (6, .op1 .i2l (.elem (.string "" 1) (.mul (.arg 60064) (.int 5))), .op2 .lushr (.arg 60033) (.int 8)) = true := dl_et (x := (sd X ρ (.elem (.string "" 1) (.mul (.arg 60064) (.int 5)))).1.toInt64) (y := (s2 .lushr (0, ρ.2.1 60033) (8, 0)).2) (by rw [bk _ ky, m8]; exact ke)
    have t := List.all_eq_true.mp mf_11 p (List.mem_range.mpr h6)
    simp only [Bool.or_eq_true, decide_eq_true_eq] at t
    by_cases fe : pt_BOOK.getD (5 * p + 1) 0 &&& 256 = 0
    · have ha : amok 256 (ρ.2.1 60033).toInt p = false := by
        unfold amok
        rw [decide_eq_true fe]
        exact Bool.and_false _
      obtain ⟨n1, n2, n3, n4, n5⟩ := nxp ha
      exact t_mp110LEf hv hk_ ρ k1 ⟨hF.1, fcn (kf) (fcn (decide_eq_true (show (sd X ρ (.elem (.string "" 1) (.add (.mul (.arg 60064) (.int 5)) (.int 1)))).1 &&& 256 = 0 by rw [m1.1]; exact fe)) (fcn (n1) (fcn (n2) (fcn (n3) (fcn (n4) (fcn (n5) (hF.2)))))))⟩ hI k4
    · have t := t.resolve_left fe
      have t := List.contains_iff_mem.mp t
      have tk := List.all_eq_true.mp mk_t p (List.mem_range.mpr h6)
      simp only [Bool.and_eq_true, decide_eq_true_eq] at tk
      have a9 : aslot ((ρ.2.1 60033).toInt / 65536) ((ρ.2.1 60033).toInt / 256 % 256) = p := by
        rw [← ke, show (ρ.2.1 60033).toInt / 65536 = (pt_BOOK.getD (5 * p) 0).toInt / 256 by omega]
        exact tk.2.2
      have ml := mv_a (x := ρ.2.1 60033) (m := 255) (k := 8) b0 rfl
      have p8 : ((2 ^ 8 : Nat) : Int) = 256 := rfl
      rw [p8] at ml
      simp only [List.mem_cons, List.not_mem_nil, or_false] at t
      rcases t with t | t | t | t | t | t | t | t | t
      · subst t
        have w : ¬ (ρ.2.1 60033).toInt % 256 = 16 := fun q => by
          have j := List.all_eq_true.mp mi_11 (115, 16) (by decide)
          have e : (pt_BOOK.getD (5 * 115) 0).toInt * 256 + 16 = (ρ.2.1 60033).toInt := by omega
          dsimp only at j
          rw [e] at j
          rw [if_pos (show evs 11 (ρ.2.1 60033).toInt = true from j)] at he
          cases he
        have kz : (pt_BOOK.getD (5 * 115) 0).toInt = 6307840 := by decide +kernel
        exact t_mp110LEp115 hv hk_ ρ k1 ⟨hF.1, fcn (di_et (x := ρ.1 60064) (y := 115) hn) (fcn (dl_et (x := 6307840) (y := (s2 .lushr (0, ρ.2.1 60033) (8, 0)).2) (by rw [m8, ← ke, kz]; rfl)) (fcn (dl_ef (x := ρ.2.1 60033 &&& 255) (y := 16) (by rw [ml]; exact w)) (fcn (dl_ef (x := 16) (y := ρ.2.1 60033 &&& 255) (by rw [ml]; exact fun q => w q.symm)) (fcn (decide_eq_true (show ((115 : Int32)).toInt = aslot (sd X ρ (.op1 .l2i (.op2 .land (.op2 .lshr (.arg 60033) (.int 16)) (.long 65535)))).1.toInt (sd X ρ (.op1 .l2i (.op2 .land (.op2 .lshr (.arg 60033) (.int 8)) (.long 255)))).1.toInt by rw [i1, i2, a9]; rfl)) (fcn (fx.1) (fcn (fx.2) (hF.2)))))))⟩ hI k4
      · subst t
        have w : ¬ (ρ.2.1 60033).toInt % 256 = 8 := fun q => by
          have j := List.all_eq_true.mp mi_11 (122, 8) (by decide)
          have e : (pt_BOOK.getD (5 * 122) 0).toInt * 256 + 8 = (ρ.2.1 60033).toInt := by omega
          dsimp only at j
          rw [e] at j
          rw [if_pos (show evs 11 (ρ.2.1 60033).toInt = true from j)] at he
          cases he
        have kz : (pt_BOOK.getD (5 * 122) 0).toInt = 6316032 := by decide +kernel
        exact t_mp110LEp122 hv hk_ ρ k1 ⟨hF.1, fcn (di_et (x := ρ.1 60064) (y := 122) hn) (fcn (dl_et (x := 6316032) (y := (s2 .lushr (0, ρ.2.1 60033) (8, 0)).2) (by rw [m8, ← ke, kz]; rfl)) (fcn (dl_ef (x := ρ.2.1 60033 &&& 255) (y := 8) (by rw [ml]; exact w)) (fcn (dl_ef (x := 8) (y := ρ.2.1 60033 &&& 255) (by rw [ml]; exact fun q => w q.symm)) (fcn (decide_eq_true (show ((122 : Int32)).toInt = aslot (sd X ρ (.op1 .l2i (.op2 .land (.op2 .lshr (.arg 60033) (.int 16)) (.long 65535)))).1.toInt (sd X ρ (.op1 .l2i (.op2 .land (.op2 .lshr (.arg 60033) (.int 8)) (.long 255)))).1.toInt by rw [i1, i2, a9]; rfl)) (fcn (fx.1) (fcn (fx.2) (hF.2)))))))⟩ hI k4
      · subst t
        have w : ¬ (ρ.2.1 60033).toInt % 256 = 32 := fun q => by
          have j := List.all_eq_true.mp mi_11 (132, 32) (by decide)
          have e : (pt_BOOK.getD (5 * 132) 0).toInt * 256 + 32 = (ρ.2.1 60033).toInt := by omega
          dsimp only at j
          rw [e] at j
          rw [if_pos (show evs 11 (ρ.2.1 60033).toInt = true from j)] at he
          cases he
        have kz : (pt_BOOK.getD (5 * 132) 0).toInt = 6322688 := by decide +kernel
        exact t_mp110LEp132 hv hk_ ρ k1 ⟨hF.1, fcn (di_et (x := ρ.1 60064) (y := 132) hn) (fcn (dl_et (x := 6322688) (y := (s2 .lushr (0, ρ.2.1 60033) (8, 0)).2) (by rw [m8, ← ke, kz]; rfl)) (fcn (dl_ef (x := ρ.2.1 60033 &&& 255) (y := 32) (by rw [ml]; exact w)) (fcn (dl_ef (x := 32) (y := ρ.2.1 60033 &&& 255) (by rw [ml]; exact fun q => w q.symm)) (fcn (decide_eq_true (show ((132 : Int32)).toInt = aslot (sd X ρ (.op1 .l2i (.op2 .land (.op2 .lshr (.arg 60033) (.int 16)) (.long 65535)))).1.toInt (sd X ρ (.op1 .l2i (.op2 .land (.op2 .lshr (.arg 60033) (.int 8)) (.long 255)))).1.toInt by rw [i1, i2, a9]; rfl)) (fcn (fx.1) (fcn (fx.2) (hF.2)))))))⟩ hI k4
      · subst t
        have w : ¬ (ρ.2.1 60033).toInt % 256 = 32 := fun q => by
          have j := List.all_eq_true.mp mi_11 (138, 32) (by decide)
          have e : (pt_BOOK.getD (5 * 138) 0).toInt * 256 + 32 = (ρ.2.1 60033).toInt := by omega
          dsimp only at j
          rw [e] at j
          rw [if_pos (show evs 11 (ρ.2.1 60033).toInt = true from j)] at he
          cases he
        have kz : (pt_BOOK.getD (5 * 138) 0).toInt = 6324480 := by decide +kernel
        exact t_mp110LEp138 hv hk_ ρ k1 ⟨hF.1, fcn (di_et (x := ρ.1 60064) (y := 138) hn) (fcn (dl_et (x := 6324480) (y := (s2 .lushr (0, ρ.2.1 60033) (8, 0)).2) (by rw [m8, ← ke, kz]; rfl)) (fcn (dl_ef (x := ρ.2.1 60033 &&& 255) (y := 32) (by rw [ml]; exact w)) (fcn (dl_ef (x := 32) (y := ρ.2.1 60033 &&& 255) (by rw [ml]; exact fun q => w q.symm)) (fcn (decide_eq_true (show ((138 : Int32)).toInt = aslot (sd X ρ (.op1 .l2i (.op2 .land (.op2 .lshr (.arg 60033) (.int 16)) (.long 65535)))).1.toInt (sd X ρ (.op1 .l2i (.op2 .land (.op2 .lshr (.arg 60033) (.int 8)) (.long 255)))).1.toInt by rw [i1, i2, a9]; rfl)) (fcn (fx.1) (fcn (fx.2) (hF.2)))))))⟩ hI k4
      · subst t
        have w : ¬ (ρ.2.1 60033).toInt % 256 = 32 := fun q => by
          have j := List.all_eq_true.mp mi_11 (139, 32) (by decide)
          have e : (pt_BOOK.getD (5 * 139) 0).toInt * 256 + 32 = (ρ.2.1 60033).toInt := by omega
          dsimp only at j
          rw [e] at j
          rw [if_pos (show evs 11 (ρ.2.1 60033).toInt = true from j)] at he
          cases he
        have kz : (pt_BOOK.getD (5 * 139) 0).toInt = 6324992 := by decide +kernel
        exact t_mp110LEp139 hv hk_ ρ k1 ⟨hF.1, fcn (di_et (x := ρ.1 60064) (y := 139) hn) (fcn (dl_et (x := 6324992) (y := (s2 .lushr (0, ρ.2.1 60033) (8, 0)).2) (by rw [m8, ← ke, kz]; rfl)) (fcn (dl_ef (x := ρ.2.1 60033 &&& 255) (y := 32) (by rw [ml]; exact w)) (fcn (dl_ef (x := 32) (y := ρ.2.1 60033 &&& 255) (by rw [ml]; exact fun q => w q.symm)) (fcn (decide_eq_true (show ((139 : Int32)).toInt = aslot (sd X ρ (.op1 .l2i (.op2 .land (.op2 .lshr (.arg 60033) (.int 16)) (.long 65535)))).1.toInt (sd X ρ (.op1 .l2i (.op2 .land (.op2 .lshr (.arg 60033) (.int 8)) (.long 255)))).1.toInt by rw [i1, i2, a9]; rfl)) (fcn (fx.1) (fcn (fx.2) (hF.2)))))))⟩ hI k4
      · subst t
        have w : ¬ (ρ.2.1 60033).toInt % 256 = 32 := fun q => by
          have j := List.all_eq_true.mp mi_11 (140, 32) (by decide)
          have e : (pt_BOOK.getD (5 * 140) 0).toInt * 256 + 32 = (ρ.2.1 60033).toInt := by omega
          dsimp only at j
          rw [e] at j
          rw [if_pos (show evs 11 (ρ.2.1 60033).toInt = true from j)] at he
          cases he
        have kz : (pt_BOOK.getD (5 * 140) 0).toInt = 6325248 := by decide +kernel
        exact t_mp110LEp140 hv hk_ ρ k1 ⟨hF.1, fcn (di_et (x := ρ.1 60064) (y := 140) hn) (fcn (dl_et (x := 6325248) (y := (s2 .lushr (0, ρ.2.1 60033) (8, 0)).2) (by rw [m8, ← ke, kz]; rfl)) (fcn (dl_ef (x := ρ.2.1 60033 &&& 255) (y := 32) (by rw [ml]; exact w)) (fcn (dl_ef (x := 32) (y := ρ.2.1 60033 &&& 255) (by rw [ml]; exact fun q => w q.symm)) (fcn (decide_eq_true (show ((140 : Int32)).toInt = aslot (sd X ρ (.op1 .l2i (.op2 .land (.op2 .lshr (.arg 60033) (.int 16)) (.long 65535)))).1.toInt (sd X ρ (.op1 .l2i (.op2 .land (.op2 .lshr (.arg 60033) (.int 8)) (.long 255)))).1.toInt by rw [i1, i2, a9]; rfl)) (fcn (fx.1) (fcn (fx.2) (hF.2)))))))⟩ hI k4
      · subst t
        have w : ¬ (ρ.2.1 60033).toInt % 256 = 16 := fun q => by
          have j := List.all_eq_true.mp mi_11 (147, 16) (by decide)
          have e : (pt_BOOK.getD (5 * 147) 0).toInt * 256 + 16 = (ρ.2.1 60033).toInt := by omega
          dsimp only at j
          rw [e] at j
          rw [if_pos (show evs 11 (ρ.2.1 60033).toInt = true from j)] at he
          cases he
        have kz : (pt_BOOK.getD (5 * 147) 0).toInt = 6338560 := by decide +kernel
        exact t_mp110LEp147 hv hk_ ρ k1 ⟨hF.1, fcn (di_et (x := ρ.1 60064) (y := 147) hn) (fcn (dl_et (x := 6338560) (y := (s2 .lushr (0, ρ.2.1 60033) (8, 0)).2) (by rw [m8, ← ke, kz]; rfl)) (fcn (dl_ef (x := ρ.2.1 60033 &&& 255) (y := 16) (by rw [ml]; exact w)) (fcn (dl_ef (x := 16) (y := ρ.2.1 60033 &&& 255) (by rw [ml]; exact fun q => w q.symm)) (fcn (decide_eq_true (show ((147 : Int32)).toInt = aslot (sd X ρ (.op1 .l2i (.op2 .land (.op2 .lshr (.arg 60033) (.int 16)) (.long 65535)))).1.toInt (sd X ρ (.op1 .l2i (.op2 .land (.op2 .lshr (.arg 60033) (.int 8)) (.long 255)))).1.toInt by rw [i1, i2, a9]; rfl)) (fcn (fx.1) (fcn (fx.2) (hF.2)))))))⟩ hI k4
      · subst t
        have w : ¬ (ρ.2.1 60033).toInt % 256 = 32 := fun q => by
          have j := List.all_eq_true.mp mi_11 (153, 32) (by decide)
          have e : (pt_BOOK.getD (5 * 153) 0).toInt * 256 + 32 = (ρ.2.1 60033).toInt := by omega
          dsimp only at j
          rw [e] at j
          rw [if_pos (show evs 11 (ρ.2.1 60033).toInt = true from j)] at he
          cases he
        have kz : (pt_BOOK.getD (5 * 153) 0).toInt = 6356481 := by decide +kernel
        exact t_mp110LEp153 hv hk_ ρ k1 ⟨hF.1, fcn (di_et (x := ρ.1 60064) (y := 153) hn) (fcn (dl_et (x := 6356481) (y := (s2 .lushr (0, ρ.2.1 60033) (8, 0)).2) (by rw [m8, ← ke, kz]; rfl)) (fcn (dl_ef (x := ρ.2.1 60033 &&& 255) (y := 32) (by rw [ml]; exact w)) (fcn (dl_ef (x := 32) (y := ρ.2.1 60033 &&& 255) (by rw [ml]; exact fun q => w q.symm)) (fcn (decide_eq_true (show ((153 : Int32)).toInt = aslot (sd X ρ (.op1 .l2i (.op2 .land (.op2 .lshr (.arg 60033) (.int 16)) (.long 65535)))).1.toInt (sd X ρ (.op1 .l2i (.op2 .land (.op2 .lshr (.arg 60033) (.int 8)) (.long 255)))).1.toInt by rw [i1, i2, a9]; rfl)) (fcn (fx.1) (fcn (fx.2) (hF.2)))))))⟩ hI k4
      · subst t
        have w : ¬ (ρ.2.1 60033).toInt % 256 = 32 := fun q => by
          have j := List.all_eq_true.mp mi_11 (154, 32) (by decide)
          have e : (pt_BOOK.getD (5 * 154) 0).toInt * 256 + 32 = (ρ.2.1 60033).toInt := by omega
          dsimp only at j
          rw [e] at j
          rw [if_pos (show evs 11 (ρ.2.1 60033).toInt = true from j)] at he
          cases he
        have kz : (pt_BOOK.getD (5 * 154) 0).toInt = 6356736 := by decide +kernel
        exact t_mp110LEp154 hv hk_ ρ k1 ⟨hF.1, fcn (di_et (x := ρ.1 60064) (y := 154) hn) (fcn (dl_et (x := 6356736) (y := (s2 .lushr (0, ρ.2.1 60033) (8, 0)).2) (by rw [m8, ← ke, kz]; rfl)) (fcn (dl_ef (x := ρ.2.1 60033 &&& 255) (y := 32) (by rw [ml]; exact w)) (fcn (dl_ef (x := 32) (y := ρ.2.1 60033 &&& 255) (by rw [ml]; exact fun q => w q.symm)) (fcn (decide_eq_true (show ((154 : Int32)).toInt = aslot (sd X ρ (.op1 .l2i (.op2 .land (.op2 .lshr (.arg 60033) (.int 16)) (.long 65535)))).1.toInt (sd X ρ (.op1 .l2i (.op2 .land (.op2 .lshr (.arg 60033) (.int 8)) (.long 255)))).1.toInt by rw [i1, i2, a9]; rfl)) (fcn (fx.1) (fcn (fx.2) (hF.2)))))))⟩ hI k4
  · have ha : amok 256 (ρ.2.1 60033).toInt p = false := by
      unfold amok
      rw [decide_eq_false ke]
      rfl
    obtain ⟨n1, n2, n3, n4, n5⟩ := nxp ha
    exact t_mp110LEk hv hk_ ρ k1 ⟨hF.1, fcn (dl_ef (x := (sd X ρ (.elem (.string "" 1) (.mul (.arg 60064) (.int 5)))).1.toInt64) (y := (s2 .lushr (0, ρ.2.1 60033) (8, 0)).2) (by rw [bk _ ky, m8]; exact ke)) (fcn (n1) (fcn (n2) (fcn (n3) (fcn (n4) (fcn (n5) (hF.2))))))⟩ hI k4
theorem t_mp110L {X : pX} {ρ0 : sR} (hv : vok X ρ0) : CUTOK X kR zWP c_mp110 5 ρ0 q_mp110L := CUT_again (g := 64032) (mt := .sub (.int 156) (.arg 60064)) kR_x (by decide +kernel) (by decide) (by decide) (by decide) (by decide +kernel) (by decide +kernel) (by decide +kernel) (by decide +kernel) (by decide +kernel) (fun ρ0 hv hk => t_mp110LE hv hk) ρ0 hv
noncomputable def q_mp110b : sCut := ((fr 0 221 0 [(0, .arg 60033), (2, .int 256)] [], [fBot], 5), (fr 0 271 0 [(0, tr 219), (1, .int 11), (2, .arg 60033)] [], [fBot], 5), [((8, .arg 60033, .long 0), false), ((8, .long 4294967295, .arg 60033), false), ((131, .add (.int 11) (.arg 60033), .int 0), true)], [])
noncomputable def q_mp110bo : sCut := ((fr 0 221 0 [(0, .arg 60033), (2, .int 256)] [], [fBot], 5), (fr 0 271 0 [(0, tr 219), (1, .int 11), (2, .arg 60033)] [], [fBot], 5), [((6, .arg 60033, .long 0), false), ((6, .arg 60033, .long 327688), false), ((6, .arg 60033, .long 393232), false), ((6, .arg 60033, .long 458784), false), ((138, .add (.int 256) (.arg 60033), .int 0), true), ((8, .arg 60033, .long 0), false), ((8, .long 4294967295, .arg 60033), false), ((131, .add (.int 11) (.arg 60033), .int 0), true)], [])
theorem k_mp110bo : cbody kR [] (cpl1 zWP c_mp110 [q_mp110L]) (cpl2 zWP c_mp110 [q_mp110L]) (cleaf kR zWP c_mp110 [q_mp110L]) 60 true false q_mp110bo.2.2.1 q_mp110bo.2.2.2 (cst zWP c_mp110.2.2.1.1 q_mp110bo.1) (cst zWP c_mp110.2.2.1.2 q_mp110bo.2.1) = true := by decide +kernel
theorem t_mp110bo {X : pX} {ρ0 : sR} (hv : vok X ρ0) : CUTOK X kR zWP c_mp110 5 ρ0 q_mp110bo := CUT_run kR_x kR_0 (Cs := []) (fun C hC => by cases hC) c_mp110_f (Q := [q_mp110L]) hv (fun q hq => by
    simp only [List.mem_cons, List.not_mem_nil, or_false] at hq
    rw [hq]; exact t_mp110L hv) 60 (b1 := true) (b2 := false) k_mp110bo
theorem t_mp110b {X : pX} {ρ0 : sR} (hv : vok X ρ0) : CUTOK X kR zWP c_mp110 5 ρ0 q_mp110b := fun ρ k1 hF hI k4 => by
  have z8 : sc X ρ (138, .add (.int 256) (.arg 60033), .int 0) = true := rfl
  have he : ((0 : Int32)).toInt = if evs 11 (ρ.2.1 60033).toInt = true then 1 else 0 := of_decide_eq_true (hF.2 _ (List.mem_cons_of_mem _ (List.mem_cons_of_mem _ (List.mem_cons_self))))
  by_cases h0 : ρ.2.1 60033 = 0
  · rw [h0] at he
    rw [if_pos (show evs 11 (0 : Int64).toInt = true by decide +kernel)] at he
    cases he
  by_cases h1 : ρ.2.1 60033 = 327688
  · rw [h1] at he
    rw [if_pos (show evs 11 (327688 : Int64).toInt = true by decide +kernel)] at he
    cases he
  by_cases h2 : ρ.2.1 60033 = 393232
  · rw [h2] at he
    rw [if_pos (show evs 11 (393232 : Int64).toInt = true by decide +kernel)] at he
    cases he
  by_cases h3 : ρ.2.1 60033 = 458784
  · rw [h3] at he
    rw [if_pos (show evs 11 (458784 : Int64).toInt = true by decide +kernel)] at he
    cases he
  exact t_mp110bo hv ρ k1 ⟨hF.1, fcn (decide_eq_false h0) (fcn (decide_eq_false h1) (fcn (decide_eq_false h2) (fcn (decide_eq_false h3) (fcn (z8) (hF.2)))))⟩ hI k4
theorem e_mp110 : frun kR [] (cpl1 zWP c_mp110 [q_mp110b]) (cpl2 zWP c_mp110 [q_mp110b]) (cleaf kR zWP c_mp110 [q_mp110b]) 10 65536 (isatP (c_mp110.2.2.2.1) c_mp110.2.2.2.2.2.2.2.1) c_mp110.2.2.2.2.2.2.2.1 (sin0 mt_all c_mp110.1.1 5 c_mp110.2.1.1 (foot zWP c_mp110.2.2.1.1)) (sin0 mt_all c_mp110.1.2.1 5 c_mp110.2.1.2 (foot zWP c_mp110.2.2.1.2)) = true := by decide +kernel
theorem s_mp110 {X : pX} : SREL X pF pdfl mt_all kR zWP c_mp110 := SREL_QC kR_x kR_0 (Cs := []) (fun C hC => by cases hC) (d := 5) rfl c_mp110_f (Q := [q_mp110b]) (fun ρ0 hv => fun q hq => by
    simp only [List.mem_cons, List.not_mem_nil, or_false] at hq
    rw [hq]; exact t_mp110b hv) (QC_run 10 e_mp110)
/-! ===== mappedCode and isMapped: 12, it may be named ===== -/
noncomputable def c_mp121 : sC := ((221, 271, 6), ([.arg 60033, .int 512], [tr 219, .int 12, .arg 60033]), ([], [219, 223, 222, 228, 220, 221]), [((8, .arg 60033, .long 0), false), ((8, .long 4294967295, .arg 60033), false), ((131, .add (.int 12) (.arg 60033), .int 1), true)], ([60064, 60160], []), (some (.int 0), some (.int 1)), [], ([], []))
theorem c_mp121_f : cfine zWP 65536 c_mp121 = true := by decide +kernel
noncomputable def q_mp121x1 : sCut := ((fr 0 221 25 [(0, .arg 60033), (2, .int 512), (3, .int 1)] [], [fBot], 5), (fr 0 271 0 [(0, tr 219), (1, .int 12), (2, .arg 60033)] [], [fBot], 5), [((6, .long 1048832, .op2 .lushr (.arg 60033) (.int 8)), true), ((6, .op2 .land (.arg 60033) (.long 255), .long 8), true), ((6, .long 8, .op2 .land (.arg 60033) (.long 255)), true), ((109, .add (.op1 .l2i (.op2 .land (.op2 .lshr (.arg 60033) (.int 16)) (.long 65535))) (.op1 .l2i (.op2 .land (.op2 .lshr (.arg 60033) (.int 8)) (.long 255))), .int 1), true), ((2, .op1 .l2i (.op2 .land (.op2 .lshr (.arg 60033) (.int 16)) (.long 65535)), .int 0), false), ((2, .int 65535, .op1 .l2i (.op2 .land (.op2 .lshr (.arg 60033) (.int 16)) (.long 65535))), false), ((8, .arg 60033, .long 0), false), ((8, .long 4294967295, .arg 60033), false), ((131, .add (.int 12) (.arg 60033), .int 1), true), ((6, .arg 60033, .long 0), false)], [])
theorem k_mp121x1 : cbody kR [(zWP, c_fndl)] (cpl1 zWP c_mp121 []) (cpl2 zWP c_mp121 []) (cleaf kR zWP c_mp121 []) 300 true true q_mp121x1.2.2.1 q_mp121x1.2.2.2 (cst zWP c_mp121.2.2.1.1 q_mp121x1.1) (cst zWP c_mp121.2.2.1.2 q_mp121x1.2.1) = true := by decide +kernel
theorem t_mp121x1 {X : pX} {ρ0 : sR} (hv : vok X ρ0) : CUTOK X kR zWP c_mp121 5 ρ0 q_mp121x1 := CUT_run kR_x kR_0 (Cs := [(zWP, c_fndl)]) (fun C hC => by rw [List.mem_singleton.mp hC]; exact s_fndl) c_mp121_f (Q := []) hv (fun q hq => by cases hq) 300 (b1 := true) (b2 := true) k_mp121x1
noncomputable def q_mp121x114 : sCut := ((fr 0 221 25 [(0, .arg 60033), (2, .int 512), (3, .int 114)] [], [fBot], 5), (fr 0 271 0 [(0, tr 219), (1, .int 12), (2, .arg 60033)] [], [fBot], 5), [((6, .long 6307584, .op2 .lushr (.arg 60033) (.int 8)), true), ((6, .op2 .land (.arg 60033) (.long 255), .long 16), true), ((6, .long 16, .op2 .land (.arg 60033) (.long 255)), true), ((109, .add (.op1 .l2i (.op2 .land (.op2 .lshr (.arg 60033) (.int 16)) (.long 65535))) (.op1 .l2i (.op2 .land (.op2 .lshr (.arg 60033) (.int 8)) (.long 255))), .int 114), true), ((2, .op1 .l2i (.op2 .land (.op2 .lshr (.arg 60033) (.int 16)) (.long 65535)), .int 0), false), ((2, .int 65535, .op1 .l2i (.op2 .land (.op2 .lshr (.arg 60033) (.int 16)) (.long 65535))), false), ((8, .arg 60033, .long 0), false), ((8, .long 4294967295, .arg 60033), false), ((131, .add (.int 12) (.arg 60033), .int 1), true), ((6, .arg 60033, .long 0), false)], [])
theorem k_mp121x114 : cbody kR [(zWP, c_fndl)] (cpl1 zWP c_mp121 []) (cpl2 zWP c_mp121 []) (cleaf kR zWP c_mp121 []) 300 true true q_mp121x114.2.2.1 q_mp121x114.2.2.2 (cst zWP c_mp121.2.2.1.1 q_mp121x114.1) (cst zWP c_mp121.2.2.1.2 q_mp121x114.2.1) = true := by decide +kernel
theorem t_mp121x114 {X : pX} {ρ0 : sR} (hv : vok X ρ0) : CUTOK X kR zWP c_mp121 5 ρ0 q_mp121x114 := CUT_run kR_x kR_0 (Cs := [(zWP, c_fndl)]) (fun C hC => by rw [List.mem_singleton.mp hC]; exact s_fndl) c_mp121_f (Q := []) hv (fun q hq => by cases hq) 300 (b1 := true) (b2 := true) k_mp121x114
noncomputable def q_mp121x116 : sCut := ((fr 0 221 25 [(0, .arg 60033), (2, .int 512), (3, .int 116)] [], [fBot], 5), (fr 0 271 0 [(0, tr 219), (1, .int 12), (2, .arg 60033)] [], [fBot], 5), [((6, .long 6308096, .op2 .lushr (.arg 60033) (.int 8)), true), ((6, .op2 .land (.arg 60033) (.long 255), .long 16), true), ((6, .long 16, .op2 .land (.arg 60033) (.long 255)), true), ((109, .add (.op1 .l2i (.op2 .land (.op2 .lshr (.arg 60033) (.int 16)) (.long 65535))) (.op1 .l2i (.op2 .land (.op2 .lshr (.arg 60033) (.int 8)) (.long 255))), .int 116), true), ((2, .op1 .l2i (.op2 .land (.op2 .lshr (.arg 60033) (.int 16)) (.long 65535)), .int 0), false), ((2, .int 65535, .op1 .l2i (.op2 .land (.op2 .lshr (.arg 60033) (.int 16)) (.long 65535))), false), ((8, .arg 60033, .long 0), false), ((8, .long 4294967295, .arg 60033), false), ((131, .add (.int 12) (.arg 60033), .int 1), true), ((6, .arg 60033, .long 0), false)], [])
theorem k_mp121x116 : cbody kR [(zWP, c_fndl)] (cpl1 zWP c_mp121 []) (cpl2 zWP c_mp121 []) (cleaf kR zWP c_mp121 []) 300 true true q_mp121x116.2.2.1 q_mp121x116.2.2.2 (cst zWP c_mp121.2.2.1.1 q_mp121x116.1) (cst zWP c_mp121.2.2.1.2 q_mp121x116.2.1) = true := by decide +kernel
theorem t_mp121x116 {X : pX} {ρ0 : sR} (hv : vok X ρ0) : CUTOK X kR zWP c_mp121 5 ρ0 q_mp121x116 := CUT_run kR_x kR_0 (Cs := [(zWP, c_fndl)]) (fun C hC => by rw [List.mem_singleton.mp hC]; exact s_fndl) c_mp121_f (Q := []) hv (fun q hq => by cases hq) 300 (b1 := true) (b2 := true) k_mp121x116
noncomputable def q_mp121x123 : sCut := ((fr 0 221 25 [(0, .arg 60033), (2, .int 512), (3, .int 123)] [], [fBot], 5), (fr 0 271 0 [(0, tr 219), (1, .int 12), (2, .arg 60033)] [], [fBot], 5), [((6, .long 6316288, .op2 .lushr (.arg 60033) (.int 8)), true), ((6, .op2 .land (.arg 60033) (.long 255), .long 8), true), ((6, .long 8, .op2 .land (.arg 60033) (.long 255)), true), ((109, .add (.op1 .l2i (.op2 .land (.op2 .lshr (.arg 60033) (.int 16)) (.long 65535))) (.op1 .l2i (.op2 .land (.op2 .lshr (.arg 60033) (.int 8)) (.long 255))), .int 123), true), ((2, .op1 .l2i (.op2 .land (.op2 .lshr (.arg 60033) (.int 16)) (.long 65535)), .int 0), false), ((2, .int 65535, .op1 .l2i (.op2 .land (.op2 .lshr (.arg 60033) (.int 16)) (.long 65535))), false), ((8, .arg 60033, .long 0), false), ((8, .long 4294967295, .arg 60033), false), ((131, .add (.int 12) (.arg 60033), .int 1), true), ((6, .arg 60033, .long 0), false)], [])
theorem k_mp121x123 : cbody kR [(zWP, c_fndl)] (cpl1 zWP c_mp121 []) (cpl2 zWP c_mp121 []) (cleaf kR zWP c_mp121 []) 300 true true q_mp121x123.2.2.1 q_mp121x123.2.2.2 (cst zWP c_mp121.2.2.1.1 q_mp121x123.1) (cst zWP c_mp121.2.2.1.2 q_mp121x123.2.1) = true := by decide +kernel
theorem t_mp121x123 {X : pX} {ρ0 : sR} (hv : vok X ρ0) : CUTOK X kR zWP c_mp121 5 ρ0 q_mp121x123 := CUT_run kR_x kR_0 (Cs := [(zWP, c_fndl)]) (fun C hC => by rw [List.mem_singleton.mp hC]; exact s_fndl) c_mp121_f (Q := []) hv (fun q hq => by cases hq) 300 (b1 := true) (b2 := true) k_mp121x123
noncomputable def q_mp121x124 : sCut := ((fr 0 221 25 [(0, .arg 60033), (2, .int 512), (3, .int 124)] [], [fBot], 5), (fr 0 271 0 [(0, tr 219), (1, .int 12), (2, .arg 60033)] [], [fBot], 5), [((6, .long 6316544, .op2 .lushr (.arg 60033) (.int 8)), true), ((6, .op2 .land (.arg 60033) (.long 255), .long 32), true), ((6, .long 32, .op2 .land (.arg 60033) (.long 255)), true), ((109, .add (.op1 .l2i (.op2 .land (.op2 .lshr (.arg 60033) (.int 16)) (.long 65535))) (.op1 .l2i (.op2 .land (.op2 .lshr (.arg 60033) (.int 8)) (.long 255))), .int 124), true), ((2, .op1 .l2i (.op2 .land (.op2 .lshr (.arg 60033) (.int 16)) (.long 65535)), .int 0), false), ((2, .int 65535, .op1 .l2i (.op2 .land (.op2 .lshr (.arg 60033) (.int 16)) (.long 65535))), false), ((8, .arg 60033, .long 0), false), ((8, .long 4294967295, .arg 60033), false), ((131, .add (.int 12) (.arg 60033), .int 1), true), ((6, .arg 60033, .long 0), false)], [])
theorem k_mp121x124 : cbody kR [(zWP, c_fndl)] (cpl1 zWP c_mp121 []) (cpl2 zWP c_mp121 []) (cleaf kR zWP c_mp121 []) 300 true true q_mp121x124.2.2.1 q_mp121x124.2.2.2 (cst zWP c_mp121.2.2.1.1 q_mp121x124.1) (cst zWP c_mp121.2.2.1.2 q_mp121x124.2.1) = true := by decide +kernel
theorem t_mp121x124 {X : pX} {ρ0 : sR} (hv : vok X ρ0) : CUTOK X kR zWP c_mp121 5 ρ0 q_mp121x124 := CUT_run kR_x kR_0 (Cs := [(zWP, c_fndl)]) (fun C hC => by rw [List.mem_singleton.mp hC]; exact s_fndl) c_mp121_f (Q := []) hv (fun q hq => by cases hq) 300 (b1 := true) (b2 := true) k_mp121x124
noncomputable def q_mp121x125 : sCut := ((fr 0 221 25 [(0, .arg 60033), (2, .int 512), (3, .int 125)] [], [fBot], 5), (fr 0 271 0 [(0, tr 219), (1, .int 12), (2, .arg 60033)] [], [fBot], 5), [((6, .long 6317056, .op2 .lushr (.arg 60033) (.int 8)), true), ((6, .op2 .land (.arg 60033) (.long 255), .long 32), true), ((6, .long 32, .op2 .land (.arg 60033) (.long 255)), true), ((109, .add (.op1 .l2i (.op2 .land (.op2 .lshr (.arg 60033) (.int 16)) (.long 65535))) (.op1 .l2i (.op2 .land (.op2 .lshr (.arg 60033) (.int 8)) (.long 255))), .int 125), true), ((2, .op1 .l2i (.op2 .land (.op2 .lshr (.arg 60033) (.int 16)) (.long 65535)), .int 0), false), ((2, .int 65535, .op1 .l2i (.op2 .land (.op2 .lshr (.arg 60033) (.int 16)) (.long 65535))), false), ((8, .arg 60033, .long 0), false), ((8, .long 4294967295, .arg 60033), false), ((131, .add (.int 12) (.arg 60033), .int 1), true), ((6, .arg 60033, .long 0), false)], [])
theorem k_mp121x125 : cbody kR [(zWP, c_fndl)] (cpl1 zWP c_mp121 []) (cpl2 zWP c_mp121 []) (cleaf kR zWP c_mp121 []) 300 true true q_mp121x125.2.2.1 q_mp121x125.2.2.2 (cst zWP c_mp121.2.2.1.1 q_mp121x125.1) (cst zWP c_mp121.2.2.1.2 q_mp121x125.2.1) = true := by decide +kernel
theorem t_mp121x125 {X : pX} {ρ0 : sR} (hv : vok X ρ0) : CUTOK X kR zWP c_mp121 5 ρ0 q_mp121x125 := CUT_run kR_x kR_0 (Cs := [(zWP, c_fndl)]) (fun C hC => by rw [List.mem_singleton.mp hC]; exact s_fndl) c_mp121_f (Q := []) hv (fun q hq => by cases hq) 300 (b1 := true) (b2 := true) k_mp121x125
noncomputable def q_mp121x130 : sCut := ((fr 0 221 25 [(0, .arg 60033), (2, .int 512), (3, .int 130)] [], [fBot], 5), (fr 0 271 0 [(0, tr 219), (1, .int 12), (2, .arg 60033)] [], [fBot], 5), [((6, .long 6318848, .op2 .lushr (.arg 60033) (.int 8)), true), ((6, .op2 .land (.arg 60033) (.long 255), .long 32), true), ((6, .long 32, .op2 .land (.arg 60033) (.long 255)), true), ((109, .add (.op1 .l2i (.op2 .land (.op2 .lshr (.arg 60033) (.int 16)) (.long 65535))) (.op1 .l2i (.op2 .land (.op2 .lshr (.arg 60033) (.int 8)) (.long 255))), .int 130), true), ((2, .op1 .l2i (.op2 .land (.op2 .lshr (.arg 60033) (.int 16)) (.long 65535)), .int 0), false), ((2, .int 65535, .op1 .l2i (.op2 .land (.op2 .lshr (.arg 60033) (.int 16)) (.long 65535))), false), ((8, .arg 60033, .long 0), false), ((8, .long 4294967295, .arg 60033), false), ((131, .add (.int 12) (.arg 60033), .int 1), true), ((6, .arg 60033, .long 0), false)], [])
theorem k_mp121x130 : cbody kR [(zWP, c_fndl)] (cpl1 zWP c_mp121 []) (cpl2 zWP c_mp121 []) (cleaf kR zWP c_mp121 []) 300 true true q_mp121x130.2.2.1 q_mp121x130.2.2.2 (cst zWP c_mp121.2.2.1.1 q_mp121x130.1) (cst zWP c_mp121.2.2.1.2 q_mp121x130.2.1) = true := by decide +kernel
theorem t_mp121x130 {X : pX} {ρ0 : sR} (hv : vok X ρ0) : CUTOK X kR zWP c_mp121 5 ρ0 q_mp121x130 := CUT_run kR_x kR_0 (Cs := [(zWP, c_fndl)]) (fun C hC => by rw [List.mem_singleton.mp hC]; exact s_fndl) c_mp121_f (Q := []) hv (fun q hq => by cases hq) 300 (b1 := true) (b2 := true) k_mp121x130
noncomputable def q_mp121x131 : sCut := ((fr 0 221 25 [(0, .arg 60033), (2, .int 512), (3, .int 131)] [], [fBot], 5), (fr 0 271 0 [(0, tr 219), (1, .int 12), (2, .arg 60033)] [], [fBot], 5), [((6, .long 6319104, .op2 .lushr (.arg 60033) (.int 8)), true), ((6, .op2 .land (.arg 60033) (.long 255), .long 32), true), ((6, .long 32, .op2 .land (.arg 60033) (.long 255)), true), ((109, .add (.op1 .l2i (.op2 .land (.op2 .lshr (.arg 60033) (.int 16)) (.long 65535))) (.op1 .l2i (.op2 .land (.op2 .lshr (.arg 60033) (.int 8)) (.long 255))), .int 131), true), ((2, .op1 .l2i (.op2 .land (.op2 .lshr (.arg 60033) (.int 16)) (.long 65535)), .int 0), false), ((2, .int 65535, .op1 .l2i (.op2 .land (.op2 .lshr (.arg 60033) (.int 16)) (.long 65535))), false), ((8, .arg 60033, .long 0), false), ((8, .long 4294967295, .arg 60033), false), ((131, .add (.int 12) (.arg 60033), .int 1), true), ((6, .arg 60033, .long 0), false)], [])
theorem k_mp121x131 : cbody kR [(zWP, c_fndl)] (cpl1 zWP c_mp121 []) (cpl2 zWP c_mp121 []) (cleaf kR zWP c_mp121 []) 300 true true q_mp121x131.2.2.1 q_mp121x131.2.2.2 (cst zWP c_mp121.2.2.1.1 q_mp121x131.1) (cst zWP c_mp121.2.2.1.2 q_mp121x131.2.1) = true := by decide +kernel
theorem t_mp121x131 {X : pX} {ρ0 : sR} (hv : vok X ρ0) : CUTOK X kR zWP c_mp121 5 ρ0 q_mp121x131 := CUT_run kR_x kR_0 (Cs := [(zWP, c_fndl)]) (fun C hC => by rw [List.mem_singleton.mp hC]; exact s_fndl) c_mp121_f (Q := []) hv (fun q hq => by cases hq) 300 (b1 := true) (b2 := true) k_mp121x131
noncomputable def q_mp121x148 : sCut := ((fr 0 221 25 [(0, .arg 60033), (2, .int 512), (3, .int 148)] [], [fBot], 5), (fr 0 271 0 [(0, tr 219), (1, .int 12), (2, .arg 60033)] [], [fBot], 5), [((6, .long 6338816, .op2 .lushr (.arg 60033) (.int 8)), true), ((6, .op2 .land (.arg 60033) (.long 255), .long 16), true), ((6, .long 16, .op2 .land (.arg 60033) (.long 255)), true), ((109, .add (.op1 .l2i (.op2 .land (.op2 .lshr (.arg 60033) (.int 16)) (.long 65535))) (.op1 .l2i (.op2 .land (.op2 .lshr (.arg 60033) (.int 8)) (.long 255))), .int 148), true), ((2, .op1 .l2i (.op2 .land (.op2 .lshr (.arg 60033) (.int 16)) (.long 65535)), .int 0), false), ((2, .int 65535, .op1 .l2i (.op2 .land (.op2 .lshr (.arg 60033) (.int 16)) (.long 65535))), false), ((8, .arg 60033, .long 0), false), ((8, .long 4294967295, .arg 60033), false), ((131, .add (.int 12) (.arg 60033), .int 1), true), ((6, .arg 60033, .long 0), false)], [])
theorem k_mp121x148 : cbody kR [(zWP, c_fndl)] (cpl1 zWP c_mp121 []) (cpl2 zWP c_mp121 []) (cleaf kR zWP c_mp121 []) 300 true true q_mp121x148.2.2.1 q_mp121x148.2.2.2 (cst zWP c_mp121.2.2.1.1 q_mp121x148.1) (cst zWP c_mp121.2.2.1.2 q_mp121x148.2.1) = true := by decide +kernel
theorem t_mp121x148 {X : pX} {ρ0 : sR} (hv : vok X ρ0) : CUTOK X kR zWP c_mp121 5 ρ0 q_mp121x148 := CUT_run kR_x kR_0 (Cs := [(zWP, c_fndl)]) (fun C hC => by rw [List.mem_singleton.mp hC]; exact s_fndl) c_mp121_f (Q := []) hv (fun q hq => by cases hq) 300 (b1 := true) (b2 := true) k_mp121x148
noncomputable def q_mp121x149 : sCut := ((fr 0 221 25 [(0, .arg 60033), (2, .int 512), (3, .int 149)] [], [fBot], 5), (fr 0 271 0 [(0, tr 219), (1, .int 12), (2, .arg 60033)] [], [fBot], 5), [((6, .long 6339072, .op2 .lushr (.arg 60033) (.int 8)), true), ((6, .op2 .land (.arg 60033) (.long 255), .long 32), true), ((6, .long 32, .op2 .land (.arg 60033) (.long 255)), true), ((109, .add (.op1 .l2i (.op2 .land (.op2 .lshr (.arg 60033) (.int 16)) (.long 65535))) (.op1 .l2i (.op2 .land (.op2 .lshr (.arg 60033) (.int 8)) (.long 255))), .int 149), true), ((2, .op1 .l2i (.op2 .land (.op2 .lshr (.arg 60033) (.int 16)) (.long 65535)), .int 0), false), ((2, .int 65535, .op1 .l2i (.op2 .land (.op2 .lshr (.arg 60033) (.int 16)) (.long 65535))), false), ((8, .arg 60033, .long 0), false), ((8, .long 4294967295, .arg 60033), false), ((131, .add (.int 12) (.arg 60033), .int 1), true), ((6, .arg 60033, .long 0), false)], [])
theorem k_mp121x149 : cbody kR [(zWP, c_fndl)] (cpl1 zWP c_mp121 []) (cpl2 zWP c_mp121 []) (cleaf kR zWP c_mp121 []) 300 true true q_mp121x149.2.2.1 q_mp121x149.2.2.2 (cst zWP c_mp121.2.2.1.1 q_mp121x149.1) (cst zWP c_mp121.2.2.1.2 q_mp121x149.2.1) = true := by decide +kernel
theorem t_mp121x149 {X : pX} {ρ0 : sR} (hv : vok X ρ0) : CUTOK X kR zWP c_mp121 5 ρ0 q_mp121x149 := CUT_run kR_x kR_0 (Cs := [(zWP, c_fndl)]) (fun C hC => by rw [List.mem_singleton.mp hC]; exact s_fndl) c_mp121_f (Q := []) hv (fun q hq => by cases hq) 300 (b1 := true) (b2 := true) k_mp121x149
noncomputable def q_mp121x150 : sCut := ((fr 0 221 25 [(0, .arg 60033), (2, .int 512), (3, .int 150)] [], [fBot], 5), (fr 0 271 0 [(0, tr 219), (1, .int 12), (2, .arg 60033)] [], [fBot], 5), [((6, .long 6339328, .op2 .lushr (.arg 60033) (.int 8)), true), ((6, .op2 .land (.arg 60033) (.long 255), .long 32), true), ((6, .long 32, .op2 .land (.arg 60033) (.long 255)), true), ((109, .add (.op1 .l2i (.op2 .land (.op2 .lshr (.arg 60033) (.int 16)) (.long 65535))) (.op1 .l2i (.op2 .land (.op2 .lshr (.arg 60033) (.int 8)) (.long 255))), .int 150), true), ((2, .op1 .l2i (.op2 .land (.op2 .lshr (.arg 60033) (.int 16)) (.long 65535)), .int 0), false), ((2, .int 65535, .op1 .l2i (.op2 .land (.op2 .lshr (.arg 60033) (.int 16)) (.long 65535))), false), ((8, .arg 60033, .long 0), false), ((8, .long 4294967295, .arg 60033), false), ((131, .add (.int 12) (.arg 60033), .int 1), true), ((6, .arg 60033, .long 0), false)], [])
theorem k_mp121x150 : cbody kR [(zWP, c_fndl)] (cpl1 zWP c_mp121 []) (cpl2 zWP c_mp121 []) (cleaf kR zWP c_mp121 []) 300 true true q_mp121x150.2.2.1 q_mp121x150.2.2.2 (cst zWP c_mp121.2.2.1.1 q_mp121x150.1) (cst zWP c_mp121.2.2.1.2 q_mp121x150.2.1) = true := by decide +kernel
theorem t_mp121x150 {X : pX} {ρ0 : sR} (hv : vok X ρ0) : CUTOK X kR zWP c_mp121 5 ρ0 q_mp121x150 := CUT_run kR_x kR_0 (Cs := [(zWP, c_fndl)]) (fun C hC => by rw [List.mem_singleton.mp hC]; exact s_fndl) c_mp121_f (Q := []) hv (fun q hq => by cases hq) 300 (b1 := true) (b2 := true) k_mp121x150
noncomputable def q_mp121x151 : sCut := ((fr 0 221 25 [(0, .arg 60033), (2, .int 512), (3, .int 151)] [], [fBot], 5), (fr 0 271 0 [(0, tr 219), (1, .int 12), (2, .arg 60033)] [], [fBot], 5), [((6, .long 6356224, .op2 .lushr (.arg 60033) (.int 8)), true), ((6, .op2 .land (.arg 60033) (.long 255), .long 32), true), ((6, .long 32, .op2 .land (.arg 60033) (.long 255)), true), ((109, .add (.op1 .l2i (.op2 .land (.op2 .lshr (.arg 60033) (.int 16)) (.long 65535))) (.op1 .l2i (.op2 .land (.op2 .lshr (.arg 60033) (.int 8)) (.long 255))), .int 151), true), ((2, .op1 .l2i (.op2 .land (.op2 .lshr (.arg 60033) (.int 16)) (.long 65535)), .int 0), false), ((2, .int 65535, .op1 .l2i (.op2 .land (.op2 .lshr (.arg 60033) (.int 16)) (.long 65535))), false), ((8, .arg 60033, .long 0), false), ((8, .long 4294967295, .arg 60033), false), ((131, .add (.int 12) (.arg 60033), .int 1), true), ((6, .arg 60033, .long 0), false)], [])
theorem k_mp121x151 : cbody kR [(zWP, c_fndl)] (cpl1 zWP c_mp121 []) (cpl2 zWP c_mp121 []) (cleaf kR zWP c_mp121 []) 300 true true q_mp121x151.2.2.1 q_mp121x151.2.2.2 (cst zWP c_mp121.2.2.1.1 q_mp121x151.1) (cst zWP c_mp121.2.2.1.2 q_mp121x151.2.1) = true := by decide +kernel
theorem t_mp121x151 {X : pX} {ρ0 : sR} (hv : vok X ρ0) : CUTOK X kR zWP c_mp121 5 ρ0 q_mp121x151 := CUT_run kR_x kR_0 (Cs := [(zWP, c_fndl)]) (fun C hC => by rw [List.mem_singleton.mp hC]; exact s_fndl) c_mp121_f (Q := []) hv (fun q hq => by cases hq) 300 (b1 := true) (b2 := true) k_mp121x151
noncomputable def q_mp121L : sCut := ((fr 0 221 25 [(0, .arg 60033), (2, .int 512), (3, .arg 60064)] [], [fBot], 5), (fr 0 271 0 [(0, tr 219), (1, .int 12), (2, .arg 60033)] [], [fBot], 5), [((2, .arg 60064, .int 0), false), ((2, .int 156, .arg 60064), false), ((138, .add (.int 512) (.arg 60033), .arg 60064), true), ((8, .arg 60033, .long 0), false), ((8, .long 4294967295, .arg 60033), false), ((131, .add (.int 12) (.arg 60033), .int 1), true), ((6, .arg 60033, .long 0), false)], [])
noncomputable def q_mp121LL : sCut := ((fr 0 221 25 [(0, .arg 60033), (2, .int 512), (3, .arg 60064)] [], [fBot], 5), (fr 0 271 0 [(0, tr 219), (1, .int 12), (2, .arg 60033)] [], [fBot], 5), [((2, .sub (.int 156) (.arg 60064), .arg 64032), true), ((2, .arg 60064, .int 0), false), ((2, .int 156, .arg 60064), false), ((138, .add (.int 512) (.arg 60033), .arg 60064), true), ((8, .arg 60033, .long 0), false), ((8, .long 4294967295, .arg 60033), false), ((131, .add (.int 12) (.arg 60033), .int 1), true), ((6, .arg 60033, .long 0), false)], [])
noncomputable def q_mp121LE : sCut := ((fr 0 221 25 [(0, .arg 60033), (2, .int 512), (3, .arg 60064)] [], [fBot], 5), (fr 0 271 0 [(0, tr 219), (1, .int 12), (2, .arg 60033)] [], [fBot], 5), [((0, .sub (.int 156) (.arg 60064), .arg 64032), true), ((2, .arg 60064, .int 0), false), ((2, .int 156, .arg 60064), false), ((138, .add (.int 512) (.arg 60033), .arg 60064), true), ((8, .arg 60033, .long 0), false), ((8, .long 4294967295, .arg 60033), false), ((131, .add (.int 12) (.arg 60033), .int 1), true), ((6, .arg 60033, .long 0), false)], [])
noncomputable def q_mp121LEk : sCut := ((fr 0 221 25 [(0, .arg 60033), (2, .int 512), (3, .arg 60064)] [], [fBot], 5), (fr 0 271 0 [(0, tr 219), (1, .int 12), (2, .arg 60033)] [], [fBot], 5), [((6, .op1 .i2l (.elem (.string "" 1) (.mul (.arg 60064) (.int 5))), .op2 .lushr (.arg 60033) (.int 8)), false), ((2, .arg 60064, .int 156), true), ((2, .sub (.int 156) (.add (.arg 60064) (.int 1)), .arg 64032), true), ((2, .add (.arg 60064) (.int 1), .int 0), false), ((2, .int 156, .add (.arg 60064) (.int 1)), false), ((138, .add (.int 512) (.arg 60033), .add (.arg 60064) (.int 1)), true), ((0, .sub (.int 156) (.arg 60064), .arg 64032), true), ((2, .arg 60064, .int 0), false), ((2, .int 156, .arg 60064), false), ((138, .add (.int 512) (.arg 60033), .arg 60064), true), ((8, .arg 60033, .long 0), false), ((8, .long 4294967295, .arg 60033), false), ((131, .add (.int 12) (.arg 60033), .int 1), true), ((6, .arg 60033, .long 0), false)], [])
theorem k_mp121LEk : cbody kR [] (cpl1 zWP c_mp121 [q_mp121LL]) (cpl2 zWP c_mp121 [q_mp121LL]) (cleaf kR zWP c_mp121 [q_mp121LL]) 60 true false q_mp121LEk.2.2.1 q_mp121LEk.2.2.2 (cst zWP c_mp121.2.2.1.1 q_mp121LEk.1) (cst zWP c_mp121.2.2.1.2 q_mp121LEk.2.1) = true := by decide +kernel
theorem t_mp121LEk {X : pX} {ρ0 : sR} (hv : vok X ρ0) (hk_ : CUTOK X kR zWP c_mp121 5 ρ0 q_mp121LL) : CUTOK X kR zWP c_mp121 5 ρ0 q_mp121LEk := CUT_run kR_x kR_0 (Cs := []) (fun C hC => by cases hC) c_mp121_f (Q := [q_mp121LL]) hv (fun q hq => by
    simp only [List.mem_cons, List.not_mem_nil, or_false] at hq
    rw [hq]; exact hk_) 60 (b1 := true) (b2 := false) k_mp121LEk
noncomputable def q_mp121LEf : sCut := ((fr 0 221 25 [(0, .arg 60033), (2, .int 512), (3, .arg 60064)] [], [fBot], 5), (fr 0 271 0 [(0, tr 219), (1, .int 12), (2, .arg 60033)] [], [fBot], 5), [((6, .op1 .i2l (.elem (.string "" 1) (.mul (.arg 60064) (.int 5))), .op2 .lushr (.arg 60033) (.int 8)), true), ((0, .op2 .iand (.elem (.string "" 1) (.add (.mul (.arg 60064) (.int 5)) (.int 1))) (.int 512), .int 0), true), ((2, .arg 60064, .int 156), true), ((2, .sub (.int 156) (.add (.arg 60064) (.int 1)), .arg 64032), true), ((2, .add (.arg 60064) (.int 1), .int 0), false), ((2, .int 156, .add (.arg 60064) (.int 1)), false), ((138, .add (.int 512) (.arg 60033), .add (.arg 60064) (.int 1)), true), ((0, .sub (.int 156) (.arg 60064), .arg 64032), true), ((2, .arg 60064, .int 0), false), ((2, .int 156, .arg 60064), false), ((138, .add (.int 512) (.arg 60033), .arg 60064), true), ((8, .arg 60033, .long 0), false), ((8, .long 4294967295, .arg 60033), false), ((131, .add (.int 12) (.arg 60033), .int 1), true), ((6, .arg 60033, .long 0), false)], [])
theorem k_mp121LEf : cbody kR [] (cpl1 zWP c_mp121 [q_mp121LL]) (cpl2 zWP c_mp121 [q_mp121LL]) (cleaf kR zWP c_mp121 [q_mp121LL]) 60 true false q_mp121LEf.2.2.1 q_mp121LEf.2.2.2 (cst zWP c_mp121.2.2.1.1 q_mp121LEf.1) (cst zWP c_mp121.2.2.1.2 q_mp121LEf.2.1) = true := by decide +kernel
theorem t_mp121LEf {X : pX} {ρ0 : sR} (hv : vok X ρ0) (hk_ : CUTOK X kR zWP c_mp121 5 ρ0 q_mp121LL) : CUTOK X kR zWP c_mp121 5 ρ0 q_mp121LEf := CUT_run kR_x kR_0 (Cs := []) (fun C hC => by cases hC) c_mp121_f (Q := [q_mp121LL]) hv (fun q hq => by
    simp only [List.mem_cons, List.not_mem_nil, or_false] at hq
    rw [hq]; exact hk_) 60 (b1 := true) (b2 := false) k_mp121LEf
noncomputable def q_mp121LEp1 : sCut := ((fr 0 221 25 [(0, .arg 60033), (2, .int 512), (3, .arg 60064)] [], [fBot], 5), (fr 0 271 0 [(0, tr 219), (1, .int 12), (2, .arg 60033)] [], [fBot], 5), [((0, .arg 60064, .int 1), true), ((6, .long 1048832, .op2 .lushr (.arg 60033) (.int 8)), true), ((6, .op2 .land (.arg 60033) (.long 255), .long 8), true), ((6, .long 8, .op2 .land (.arg 60033) (.long 255)), true), ((109, .add (.op1 .l2i (.op2 .land (.op2 .lshr (.arg 60033) (.int 16)) (.long 65535))) (.op1 .l2i (.op2 .land (.op2 .lshr (.arg 60033) (.int 8)) (.long 255))), .int 1), true), ((2, .op1 .l2i (.op2 .land (.op2 .lshr (.arg 60033) (.int 16)) (.long 65535)), .int 0), false), ((2, .int 65535, .op1 .l2i (.op2 .land (.op2 .lshr (.arg 60033) (.int 16)) (.long 65535))), false), ((0, .sub (.int 156) (.arg 60064), .arg 64032), true), ((2, .arg 60064, .int 0), false), ((2, .int 156, .arg 60064), false), ((138, .add (.int 512) (.arg 60033), .arg 60064), true), ((8, .arg 60033, .long 0), false), ((8, .long 4294967295, .arg 60033), false), ((131, .add (.int 12) (.arg 60033), .int 1), true), ((6, .arg 60033, .long 0), false)], [])
theorem k_mp121LEp1 : cbody kR [] (cpl1 zWP c_mp121 [q_mp121x1]) (cpl2 zWP c_mp121 [q_mp121x1]) (cleaf kR zWP c_mp121 [q_mp121x1]) 5 false false q_mp121LEp1.2.2.1 q_mp121LEp1.2.2.2 (cst zWP c_mp121.2.2.1.1 q_mp121LEp1.1) (cst zWP c_mp121.2.2.1.2 q_mp121LEp1.2.1) = true := by decide +kernel
theorem t_mp121LEp1 {X : pX} {ρ0 : sR} (hv : vok X ρ0) (hk_ : CUTOK X kR zWP c_mp121 5 ρ0 q_mp121LL) : CUTOK X kR zWP c_mp121 5 ρ0 q_mp121LEp1 := CUT_run kR_x kR_0 (Cs := []) (fun C hC => by cases hC) c_mp121_f (Q := [q_mp121x1]) hv (fun q hq => by
    simp only [List.mem_cons, List.not_mem_nil, or_false] at hq
    rw [hq]; exact t_mp121x1 hv) 5 (b1 := false) (b2 := false) k_mp121LEp1
noncomputable def q_mp121LEp114 : sCut := ((fr 0 221 25 [(0, .arg 60033), (2, .int 512), (3, .arg 60064)] [], [fBot], 5), (fr 0 271 0 [(0, tr 219), (1, .int 12), (2, .arg 60033)] [], [fBot], 5), [((0, .arg 60064, .int 114), true), ((6, .long 6307584, .op2 .lushr (.arg 60033) (.int 8)), true), ((6, .op2 .land (.arg 60033) (.long 255), .long 16), true), ((6, .long 16, .op2 .land (.arg 60033) (.long 255)), true), ((109, .add (.op1 .l2i (.op2 .land (.op2 .lshr (.arg 60033) (.int 16)) (.long 65535))) (.op1 .l2i (.op2 .land (.op2 .lshr (.arg 60033) (.int 8)) (.long 255))), .int 114), true), ((2, .op1 .l2i (.op2 .land (.op2 .lshr (.arg 60033) (.int 16)) (.long 65535)), .int 0), false), ((2, .int 65535, .op1 .l2i (.op2 .land (.op2 .lshr (.arg 60033) (.int 16)) (.long 65535))), false), ((0, .sub (.int 156) (.arg 60064), .arg 64032), true), ((2, .arg 60064, .int 0), false), ((2, .int 156, .arg 60064), false), ((138, .add (.int 512) (.arg 60033), .arg 60064), true), ((8, .arg 60033, .long 0), false), ((8, .long 4294967295, .arg 60033), false), ((131, .add (.int 12) (.arg 60033), .int 1), true), ((6, .arg 60033, .long 0), false)], [])
theorem k_mp121LEp114 : cbody kR [] (cpl1 zWP c_mp121 [q_mp121x114]) (cpl2 zWP c_mp121 [q_mp121x114]) (cleaf kR zWP c_mp121 [q_mp121x114]) 5 false false q_mp121LEp114.2.2.1 q_mp121LEp114.2.2.2 (cst zWP c_mp121.2.2.1.1 q_mp121LEp114.1) (cst zWP c_mp121.2.2.1.2 q_mp121LEp114.2.1) = true := by decide +kernel
theorem t_mp121LEp114 {X : pX} {ρ0 : sR} (hv : vok X ρ0) (hk_ : CUTOK X kR zWP c_mp121 5 ρ0 q_mp121LL) : CUTOK X kR zWP c_mp121 5 ρ0 q_mp121LEp114 := CUT_run kR_x kR_0 (Cs := []) (fun C hC => by cases hC) c_mp121_f (Q := [q_mp121x114]) hv (fun q hq => by
    simp only [List.mem_cons, List.not_mem_nil, or_false] at hq
    rw [hq]; exact t_mp121x114 hv) 5 (b1 := false) (b2 := false) k_mp121LEp114
noncomputable def q_mp121LEp116 : sCut := ((fr 0 221 25 [(0, .arg 60033), (2, .int 512), (3, .arg 60064)] [], [fBot], 5), (fr 0 271 0 [(0, tr 219), (1, .int 12), (2, .arg 60033)] [], [fBot], 5), [((0, .arg 60064, .int 116), true), ((6, .long 6308096, .op2 .lushr (.arg 60033) (.int 8)), true), ((6, .op2 .land (.arg 60033) (.long 255), .long 16), true), ((6, .long 16, .op2 .land (.arg 60033) (.long 255)), true), ((109, .add (.op1 .l2i (.op2 .land (.op2 .lshr (.arg 60033) (.int 16)) (.long 65535))) (.op1 .l2i (.op2 .land (.op2 .lshr (.arg 60033) (.int 8)) (.long 255))), .int 116), true), ((2, .op1 .l2i (.op2 .land (.op2 .lshr (.arg 60033) (.int 16)) (.long 65535)), .int 0), false), ((2, .int 65535, .op1 .l2i (.op2 .land (.op2 .lshr (.arg 60033) (.int 16)) (.long 65535))), false), ((0, .sub (.int 156) (.arg 60064), .arg 64032), true), ((2, .arg 60064, .int 0), false), ((2, .int 156, .arg 60064), false), ((138, .add (.int 512) (.arg 60033), .arg 60064), true), ((8, .arg 60033, .long 0), false), ((8, .long 4294967295, .arg 60033), false), ((131, .add (.int 12) (.arg 60033), .int 1), true), ((6, .arg 60033, .long 0), false)], [])
theorem k_mp121LEp116 : cbody kR [] (cpl1 zWP c_mp121 [q_mp121x116]) (cpl2 zWP c_mp121 [q_mp121x116]) (cleaf kR zWP c_mp121 [q_mp121x116]) 5 false false q_mp121LEp116.2.2.1 q_mp121LEp116.2.2.2 (cst zWP c_mp121.2.2.1.1 q_mp121LEp116.1) (cst zWP c_mp121.2.2.1.2 q_mp121LEp116.2.1) = true := by decide +kernel
theorem t_mp121LEp116 {X : pX} {ρ0 : sR} (hv : vok X ρ0) (hk_ : CUTOK X kR zWP c_mp121 5 ρ0 q_mp121LL) : CUTOK X kR zWP c_mp121 5 ρ0 q_mp121LEp116 := CUT_run kR_x kR_0 (Cs := []) (fun C hC => by cases hC) c_mp121_f (Q := [q_mp121x116]) hv (fun q hq => by
    simp only [List.mem_cons, List.not_mem_nil, or_false] at hq
    rw [hq]; exact t_mp121x116 hv) 5 (b1 := false) (b2 := false) k_mp121LEp116
noncomputable def q_mp121LEp123 : sCut := ((fr 0 221 25 [(0, .arg 60033), (2, .int 512), (3, .arg 60064)] [], [fBot], 5), (fr 0 271 0 [(0, tr 219), (1, .int 12), (2, .arg 60033)] [], [fBot], 5), [((0, .arg 60064, .int 123), true), ((6, .long 6316288, .op2 .lushr (.arg 60033) (.int 8)), true), ((6, .op2 .land (.arg 60033) (.long 255), .long 8), true), ((6, .long 8, .op2 .land (.arg 60033) (.long 255)), true), ((109, .add (.op1 .l2i (.op2 .land (.op2 .lshr (.arg 60033) (.int 16)) (.long 65535))) (.op1 .l2i (.op2 .land (.op2 .lshr (.arg 60033) (.int 8)) (.long 255))), .int 123), true), ((2, .op1 .l2i (.op2 .land (.op2 .lshr (.arg 60033) (.int 16)) (.long 65535)), .int 0), false), ((2, .int 65535, .op1 .l2i (.op2 .land (.op2 .lshr (.arg 60033) (.int 16)) (.long 65535))), false), ((0, .sub (.int 156) (.arg 60064), .arg 64032), true), ((2, .arg 60064, .int 0), false), ((2, .int 156, .arg 60064), false), ((138, .add (.int 512) (.arg 60033), .arg 60064), true), ((8, .arg 60033, .long 0), false), ((8, .long 4294967295, .arg 60033), false), ((131, .add (.int 12) (.arg 60033), .int 1), true), ((6, .arg 60033, .long 0), false)], [])
theorem k_mp121LEp123 : cbody kR [] (cpl1 zWP c_mp121 [q_mp121x123]) (cpl2 zWP c_mp121 [q_mp121x123]) (cleaf kR zWP c_mp121 [q_mp121x123]) 5 false false q_mp121LEp123.2.2.1 q_mp121LEp123.2.2.2 (cst zWP c_mp121.2.2.1.1 q_mp121LEp123.1) (cst zWP c_mp121.2.2.1.2 q_mp121LEp123.2.1) = true := by decide +kernel
theorem t_mp121LEp123 {X : pX} {ρ0 : sR} (hv : vok X ρ0) (hk_ : CUTOK X kR zWP c_mp121 5 ρ0 q_mp121LL) : CUTOK X kR zWP c_mp121 5 ρ0 q_mp121LEp123 := CUT_run kR_x kR_0 (Cs := []) (fun C hC => by cases hC) c_mp121_f (Q := [q_mp121x123]) hv (fun q hq => by
    simp only [List.mem_cons, List.not_mem_nil, or_false] at hq
    rw [hq]; exact t_mp121x123 hv) 5 (b1 := false) (b2 := false) k_mp121LEp123
noncomputable def q_mp121LEp124 : sCut := ((fr 0 221 25 [(0, .arg 60033), (2, .int 512), (3, .arg 60064)] [], [fBot], 5), (fr 0 271 0 [(0, tr 219), (1, .int 12), (2, .arg 60033)] [], [fBot], 5), [((0, .arg 60064, .int 124), true), ((6, .long 6316544, .op2 .lushr (.arg 60033) (.int 8)), true), ((6, .op2 .land (.arg 60033) (.long 255), .long 32), true), ((6, .long 32, .op2 .land (.arg 60033) (.long 255)), true), ((109, .add (.op1 .l2i (.op2 .land (.op2 .lshr (.arg 60033) (.int 16)) (.long 65535))) (.op1 .l2i (.op2 .land (.op2 .lshr (.arg 60033) (.int 8)) (.long 255))), .int 124), true), ((2, .op1 .l2i (.op2 .land (.op2 .lshr (.arg 60033) (.int 16)) (.long 65535)), .int 0), false), ((2, .int 65535, .op1 .l2i (.op2 .land (.op2 .lshr (.arg 60033) (.int 16)) (.long 65535))), false), ((0, .sub (.int 156) (.arg 60064), .arg 64032), true), ((2, .arg 60064, .int 0), false), ((2, .int 156, .arg 60064), false), ((138, .add (.int 512) (.arg 60033), .arg 60064), true), ((8, .arg 60033, .long 0), false), ((8, .long 4294967295, .arg 60033), false), ((131, .add (.int 12) (.arg 60033), .int 1), true), ((6, .arg 60033, .long 0), false)], [])
theorem k_mp121LEp124 : cbody kR [] (cpl1 zWP c_mp121 [q_mp121x124]) (cpl2 zWP c_mp121 [q_mp121x124]) (cleaf kR zWP c_mp121 [q_mp121x124]) 5 false false q_mp121LEp124.2.2.1 q_mp121LEp124.2.2.2 (cst zWP c_mp121.2.2.1.1 q_mp121LEp124.1) (cst zWP c_mp121.2.2.1.2 q_mp121LEp124.2.1) = true := by decide +kernel
theorem t_mp121LEp124 {X : pX} {ρ0 : sR} (hv : vok X ρ0) (hk_ : CUTOK X kR zWP c_mp121 5 ρ0 q_mp121LL) : CUTOK X kR zWP c_mp121 5 ρ0 q_mp121LEp124 := CUT_run kR_x kR_0 (Cs := []) (fun C hC => by cases hC) c_mp121_f (Q := [q_mp121x124]) hv (fun q hq => by
    simp only [List.mem_cons, List.not_mem_nil, or_false] at hq
    rw [hq]; exact t_mp121x124 hv) 5 (b1 := false) (b2 := false) k_mp121LEp124
noncomputable def q_mp121LEp125 : sCut := ((fr 0 221 25 [(0, .arg 60033), (2, .int 512), (3, .arg 60064)] [], [fBot], 5), (fr 0 271 0 [(0, tr 219), (1, .int 12), (2, .arg 60033)] [], [fBot], 5), [((0, .arg 60064, .int 125), true), ((6, .long 6317056, .op2 .lushr (.arg 60033) (.int 8)), true), ((6, .op2 .land (.arg 60033) (.long 255), .long 32), true), ((6, .long 32, .op2 .land (.arg 60033) (.long 255)), true), ((109, .add (.op1 .l2i (.op2 .land (.op2 .lshr (.arg 60033) (.int 16)) (.long 65535))) (.op1 .l2i (.op2 .land (.op2 .lshr (.arg 60033) (.int 8)) (.long 255))), .int 125), true), ((2, .op1 .l2i (.op2 .land (.op2 .lshr (.arg 60033) (.int 16)) (.long 65535)), .int 0), false), ((2, .int 65535, .op1 .l2i (.op2 .land (.op2 .lshr (.arg 60033) (.int 16)) (.long 65535))), false), ((0, .sub (.int 156) (.arg 60064), .arg 64032), true), ((2, .arg 60064, .int 0), false), ((2, .int 156, .arg 60064), false), ((138, .add (.int 512) (.arg 60033), .arg 60064), true), ((8, .arg 60033, .long 0), false), ((8, .long 4294967295, .arg 60033), false), ((131, .add (.int 12) (.arg 60033), .int 1), true), ((6, .arg 60033, .long 0), false)], [])
theorem k_mp121LEp125 : cbody kR [] (cpl1 zWP c_mp121 [q_mp121x125]) (cpl2 zWP c_mp121 [q_mp121x125]) (cleaf kR zWP c_mp121 [q_mp121x125]) 5 false false q_mp121LEp125.2.2.1 q_mp121LEp125.2.2.2 (cst zWP c_mp121.2.2.1.1 q_mp121LEp125.1) (cst zWP c_mp121.2.2.1.2 q_mp121LEp125.2.1) = true := by decide +kernel
theorem t_mp121LEp125 {X : pX} {ρ0 : sR} (hv : vok X ρ0) (hk_ : CUTOK X kR zWP c_mp121 5 ρ0 q_mp121LL) : CUTOK X kR zWP c_mp121 5 ρ0 q_mp121LEp125 := CUT_run kR_x kR_0 (Cs := []) (fun C hC => by cases hC) c_mp121_f (Q := [q_mp121x125]) hv (fun q hq => by
    simp only [List.mem_cons, List.not_mem_nil, or_false] at hq
    rw [hq]; exact t_mp121x125 hv) 5 (b1 := false) (b2 := false) k_mp121LEp125
noncomputable def q_mp121LEp130 : sCut := ((fr 0 221 25 [(0, .arg 60033), (2, .int 512), (3, .arg 60064)] [], [fBot], 5), (fr 0 271 0 [(0, tr 219), (1, .int 12), (2, .arg 60033)] [], [fBot], 5), [((0, .arg 60064, .int 130), true), ((6, .long 6318848, .op2 .lushr (.arg 60033) (.int 8)), true), ((6, .op2 .land (.arg 60033) (.long 255), .long 32), true), ((6, .long 32, .op2 .land (.arg 60033) (.long 255)), true), ((109, .add (.op1 .l2i (.op2 .land (.op2 .lshr (.arg 60033) (.int 16)) (.long 65535))) (.op1 .l2i (.op2 .land (.op2 .lshr (.arg 60033) (.int 8)) (.long 255))), .int 130), true), ((2, .op1 .l2i (.op2 .land (.op2 .lshr (.arg 60033) (.int 16)) (.long 65535)), .int 0), false), ((2, .int 65535, .op1 .l2i (.op2 .land (.op2 .lshr (.arg 60033) (.int 16)) (.long 65535))), false), ((0, .sub (.int 156) (.arg 60064), .arg 64032), true), ((2, .arg 60064, .int 0), false), ((2, .int 156, .arg 60064), false), ((138, .add (.int 512) (.arg 60033), .arg 60064), true), ((8, .arg 60033, .long 0), false), ((8, .long 4294967295, .arg 60033), false), ((131, .add (.int 12) (.arg 60033), .int 1), true), ((6, .arg 60033, .long 0), false)], [])
theorem k_mp121LEp130 : cbody kR [] (cpl1 zWP c_mp121 [q_mp121x130]) (cpl2 zWP c_mp121 [q_mp121x130]) (cleaf kR zWP c_mp121 [q_mp121x130]) 5 false false q_mp121LEp130.2.2.1 q_mp121LEp130.2.2.2 (cst zWP c_mp121.2.2.1.1 q_mp121LEp130.1) (cst zWP c_mp121.2.2.1.2 q_mp121LEp130.2.1) = true := by decide +kernel
theorem t_mp121LEp130 {X : pX} {ρ0 : sR} (hv : vok X ρ0) (hk_ : CUTOK X kR zWP c_mp121 5 ρ0 q_mp121LL) : CUTOK X kR zWP c_mp121 5 ρ0 q_mp121LEp130 := CUT_run kR_x kR_0 (Cs := []) (fun C hC => by cases hC) c_mp121_f (Q := [q_mp121x130]) hv (fun q hq => by
    simp only [List.mem_cons, List.not_mem_nil, or_false] at hq
    rw [hq]; exact t_mp121x130 hv) 5 (b1 := false) (b2 := false) k_mp121LEp130
noncomputable def q_mp121LEp131 : sCut := ((fr 0 221 25 [(0, .arg 60033), (2, .int 512), (3, .arg 60064)] [], [fBot], 5), (fr 0 271 0 [(0, tr 219), (1, .int 12), (2, .arg 60033)] [], [fBot], 5), [((0, .arg 60064, .int 131), true), ((6, .long 6319104, .op2 .lushr (.arg 60033) (.int 8)), true), ((6, .op2 .land (.arg 60033) (.long 255), .long 32), true), ((6, .long 32, .op2 .land (.arg 60033) (.long 255)), true), ((109, .add (.op1 .l2i (.op2 .land (.op2 .lshr (.arg 60033) (.int 16)) (.long 65535))) (.op1 .l2i (.op2 .land (.op2 .lshr (.arg 60033) (.int 8)) (.long 255))), .int 131), true), ((2, .op1 .l2i (.op2 .land (.op2 .lshr (.arg 60033) (.int 16)) (.long 65535)), .int 0), false), ((2, .int 65535, .op1 .l2i (.op2 .land (.op2 .lshr (.arg 60033) (.int 16)) (.long 65535))), false), ((0, .sub (.int 156) (.arg 60064), .arg 64032), true), ((2, .arg 60064, .int 0), false), ((2, .int 156, .arg 60064), false), ((138, .add (.int 512) (.arg 60033), .arg 60064), true), ((8, .arg 60033, .long 0), false), ((8, .long 4294967295, .arg 60033), false), ((131, .add (.int 12) (.arg 60033), .int 1), true), ((6, .arg 60033, .long 0), false)], [])
theorem k_mp121LEp131 : cbody kR [] (cpl1 zWP c_mp121 [q_mp121x131]) (cpl2 zWP c_mp121 [q_mp121x131]) (cleaf kR zWP c_mp121 [q_mp121x131]) 5 false false q_mp121LEp131.2.2.1 q_mp121LEp131.2.2.2 (cst zWP c_mp121.2.2.1.1 q_mp121LEp131.1) (cst zWP c_mp121.2.2.1.2 q_mp121LEp131.2.1) = true := by decide +kernel
theorem t_mp121LEp131 {X : pX} {ρ0 : sR} (hv : vok X ρ0) (hk_ : CUTOK X kR zWP c_mp121 5 ρ0 q_mp121LL) : CUTOK X kR zWP c_mp121 5 ρ0 q_mp121LEp131 := CUT_run kR_x kR_0 (Cs := []) (fun C hC => by cases hC) c_mp121_f (Q := [q_mp121x131]) hv (fun q hq => by
    simp only [List.mem_cons, List.not_mem_nil, or_false] at hq
    rw [hq]; exact t_mp121x131 hv) 5 (b1 := false) (b2 := false) k_mp121LEp131
noncomputable def q_mp121LEp148 : sCut := ((fr 0 221 25 [(0, .arg 60033), (2, .int 512), (3, .arg 60064)] [], [fBot], 5), (fr 0 271 0 [(0, tr 219), (1, .int 12), (2, .arg 60033)] [], [fBot], 5), [((0, .arg 60064, .int 148), true), ((6, .long 6338816, .op2 .lushr (.arg 60033) (.int 8)), true), ((6, .op2 .land (.arg 60033) (.long 255), .long 16), true), ((6, .long 16, .op2 .land (.arg 60033) (.long 255)), true), ((109, .add (.op1 .l2i (.op2 .land (.op2 .lshr (.arg 60033) (.int 16)) (.long 65535))) (.op1 .l2i (.op2 .land (.op2 .lshr (.arg 60033) (.int 8)) (.long 255))), .int 148), true), ((2, .op1 .l2i (.op2 .land (.op2 .lshr (.arg 60033) (.int 16)) (.long 65535)), .int 0), false), ((2, .int 65535, .op1 .l2i (.op2 .land (.op2 .lshr (.arg 60033) (.int 16)) (.long 65535))), false), ((0, .sub (.int 156) (.arg 60064), .arg 64032), true), ((2, .arg 60064, .int 0), false), ((2, .int 156, .arg 60064), false), ((138, .add (.int 512) (.arg 60033), .arg 60064), true), ((8, .arg 60033, .long 0), false), ((8, .long 4294967295, .arg 60033), false), ((131, .add (.int 12) (.arg 60033), .int 1), true), ((6, .arg 60033, .long 0), false)], [])
theorem k_mp121LEp148 : cbody kR [] (cpl1 zWP c_mp121 [q_mp121x148]) (cpl2 zWP c_mp121 [q_mp121x148]) (cleaf kR zWP c_mp121 [q_mp121x148]) 5 false false q_mp121LEp148.2.2.1 q_mp121LEp148.2.2.2 (cst zWP c_mp121.2.2.1.1 q_mp121LEp148.1) (cst zWP c_mp121.2.2.1.2 q_mp121LEp148.2.1) = true := by decide +kernel
theorem t_mp121LEp148 {X : pX} {ρ0 : sR} (hv : vok X ρ0) (hk_ : CUTOK X kR zWP c_mp121 5 ρ0 q_mp121LL) : CUTOK X kR zWP c_mp121 5 ρ0 q_mp121LEp148 := CUT_run kR_x kR_0 (Cs := []) (fun C hC => by cases hC) c_mp121_f (Q := [q_mp121x148]) hv (fun q hq => by
    simp only [List.mem_cons, List.not_mem_nil, or_false] at hq
    rw [hq]; exact t_mp121x148 hv) 5 (b1 := false) (b2 := false) k_mp121LEp148
noncomputable def q_mp121LEp149 : sCut := ((fr 0 221 25 [(0, .arg 60033), (2, .int 512), (3, .arg 60064)] [], [fBot], 5), (fr 0 271 0 [(0, tr 219), (1, .int 12), (2, .arg 60033)] [], [fBot], 5), [((0, .arg 60064, .int 149), true), ((6, .long 6339072, .op2 .lushr (.arg 60033) (.int 8)), true), ((6, .op2 .land (.arg 60033) (.long 255), .long 32), true), ((6, .long 32, .op2 .land (.arg 60033) (.long 255)), true), ((109, .add (.op1 .l2i (.op2 .land (.op2 .lshr (.arg 60033) (.int 16)) (.long 65535))) (.op1 .l2i (.op2 .land (.op2 .lshr (.arg 60033) (.int 8)) (.long 255))), .int 149), true), ((2, .op1 .l2i (.op2 .land (.op2 .lshr (.arg 60033) (.int 16)) (.long 65535)), .int 0), false), ((2, .int 65535, .op1 .l2i (.op2 .land (.op2 .lshr (.arg 60033) (.int 16)) (.long 65535))), false), ((0, .sub (.int 156) (.arg 60064), .arg 64032), true), ((2, .arg 60064, .int 0), false), ((2, .int 156, .arg 60064), false), ((138, .add (.int 512) (.arg 60033), .arg 60064), true), ((8, .arg 60033, .long 0), false), ((8, .long 4294967295, .arg 60033), false), ((131, .add (.int 12) (.arg 60033), .int 1), true), ((6, .arg 60033, .long 0), false)], [])
theorem k_mp121LEp149 : cbody kR [] (cpl1 zWP c_mp121 [q_mp121x149]) (cpl2 zWP c_mp121 [q_mp121x149]) (cleaf kR zWP c_mp121 [q_mp121x149]) 5 false false q_mp121LEp149.2.2.1 q_mp121LEp149.2.2.2 (cst zWP c_mp121.2.2.1.1 q_mp121LEp149.1) (cst zWP c_mp121.2.2.1.2 q_mp121LEp149.2.1) = true := by decide +kernel
theorem t_mp121LEp149 {X : pX} {ρ0 : sR} (hv : vok X ρ0) (hk_ : CUTOK X kR zWP c_mp121 5 ρ0 q_mp121LL) : CUTOK X kR zWP c_mp121 5 ρ0 q_mp121LEp149 := CUT_run kR_x kR_0 (Cs := []) (fun C hC => by cases hC) c_mp121_f (Q := [q_mp121x149]) hv (fun q hq => by
    simp only [List.mem_cons, List.not_mem_nil, or_false] at hq
    rw [hq]; exact t_mp121x149 hv) 5 (b1 := false) (b2 := false) k_mp121LEp149
noncomputable def q_mp121LEp150 : sCut := ((fr 0 221 25 [(0, .arg 60033), (2, .int 512), (3, .arg 60064)] [], [fBot], 5), (fr 0 271 0 [(0, tr 219), (1, .int 12), (2, .arg 60033)] [], [fBot], 5), [((0, .arg 60064, .int 150), true), ((6, .long 6339328, .op2 .lushr (.arg 60033) (.int 8)), true), ((6, .op2 .land (.arg 60033) (.long 255), .long 32), true), ((6, .long 32, .op2 .land (.arg 60033) (.long 255)), true), ((109, .add (.op1 .l2i (.op2 .land (.op2 .lshr (.arg 60033) (.int 16)) (.long 65535))) (.op1 .l2i (.op2 .land (.op2 .lshr (.arg 60033) (.int 8)) (.long 255))), .int 150), true), ((2, .op1 .l2i (.op2 .land (.op2 .lshr (.arg 60033) (.int 16)) (.long 65535)), .int 0), false), ((2, .int 65535, .op1 .l2i (.op2 .land (.op2 .lshr (.arg 60033) (.int 16)) (.long 65535))), false), ((0, .sub (.int 156) (.arg 60064), .arg 64032), true), ((2, .arg 60064, .int 0), false), ((2, .int 156, .arg 60064), false), ((138, .add (.int 512) (.arg 60033), .arg 60064), true), ((8, .arg 60033, .long 0), false), ((8, .long 4294967295, .arg 60033), false), ((131, .add (.int 12) (.arg 60033), .int 1), true), ((6, .arg 60033, .long 0), false)], [])
theorem k_mp121LEp150 : cbody kR [] (cpl1 zWP c_mp121 [q_mp121x150]) (cpl2 zWP c_mp121 [q_mp121x150]) (cleaf kR zWP c_mp121 [q_mp121x150]) 5 false false q_mp121LEp150.2.2.1 q_mp121LEp150.2.2.2 (cst zWP c_mp121.2.2.1.1 q_mp121LEp150.1) (cst zWP c_mp121.2.2.1.2 q_mp121LEp150.2.1) = true := by decide +kernel
theorem t_mp121LEp150 {X : pX} {ρ0 : sR} (hv : vok X ρ0) (hk_ : CUTOK X kR zWP c_mp121 5 ρ0 q_mp121LL) : CUTOK X kR zWP c_mp121 5 ρ0 q_mp121LEp150 := CUT_run kR_x kR_0 (Cs := []) (fun C hC => by cases hC) c_mp121_f (Q := [q_mp121x150]) hv (fun q hq => by
    simp only [List.mem_cons, List.not_mem_nil, or_false] at hq
    rw [hq]; exact t_mp121x150 hv) 5 (b1 := false) (b2 := false) k_mp121LEp150
noncomputable def q_mp121LEp151 : sCut := ((fr 0 221 25 [(0, .arg 60033), (2, .int 512), (3, .arg 60064)] [], [fBot], 5), (fr 0 271 0 [(0, tr 219), (1, .int 12), (2, .arg 60033)] [], [fBot], 5), [((0, .arg 60064, .int 151), true), ((6, .long 6356224, .op2 .lushr (.arg 60033) (.int 8)), true), ((6, .op2 .land (.arg 60033) (.long 255), .long 32), true), ((6, .long 32, .op2 .land (.arg 60033) (.long 255)), true), ((109, .add (.op1 .l2i (.op2 .land (.op2 .lshr (.arg 60033) (.int 16)) (.long 65535))) (.op1 .l2i (.op2 .land (.op2 .lshr (.arg 60033) (.int 8)) (.long 255))), .int 151), true), ((2, .op1 .l2i (.op2 .land (.op2 .lshr (.arg 60033) (.int 16)) (.long 65535)), .int 0), false), ((2, .int 65535, .op1 .l2i (.op2 .land (.op2 .lshr (.arg 60033) (.int 16)) (.long 65535))), false), ((0, .sub (.int 156) (.arg 60064), .arg 64032), true), ((2, .arg 60064, .int 0), false), ((2, .int 156, .arg 60064), false), ((138, .add (.int 512) (.arg 60033), .arg 60064), true), ((8, .arg 60033, .long 0), false), ((8, .long 4294967295, .arg 60033), false), ((131, .add (.int 12) (.arg 60033), .int 1), true), ((6, .arg 60033, .long 0), false)], [])
theorem k_mp121LEp151 : cbody kR [] (cpl1 zWP c_mp121 [q_mp121x151]) (cpl2 zWP c_mp121 [q_mp121x151]) (cleaf kR zWP c_mp121 [q_mp121x151]) 5 false false q_mp121LEp151.2.2.1 q_mp121LEp151.2.2.2 (cst zWP c_mp121.2.2.1.1 q_mp121LEp151.1) (cst zWP c_mp121.2.2.1.2 q_mp121LEp151.2.1) = true := by decide +kernel
theorem t_mp121LEp151 {X : pX} {ρ0 : sR} (hv : vok X ρ0) (hk_ : CUTOK X kR zWP c_mp121 5 ρ0 q_mp121LL) : CUTOK X kR zWP c_mp121 5 ρ0 q_mp121LEp151 := CUT_run kR_x kR_0 (Cs := []) (fun C hC => by cases hC) c_mp121_f (Q := [q_mp121x151]) hv (fun q hq => by
    simp only [List.mem_cons, List.not_mem_nil, or_false] at hq
    rw [hq]; exact t_mp121x151 hv) 5 (b1 := false) (b2 := false) k_mp121LEp151
theorem t_mp121LE {X : pX} {ρ0 : sR} (hv : vok X ρ0) (hk_ : CUTOK X kR zWP c_mp121 5 ρ0 q_mp121LL) : CUTOK X kR zWP c_mp121 5 ρ0 q_mp121LE := fun ρ k1 hF hI k4 => by
  have b0 := rl_lf (x := ρ.2.1 60033) (y := 0) (hF.2 _ (List.mem_cons_of_mem _ (List.mem_cons_of_mem _ (List.mem_cons_of_mem _ (List.mem_cons_of_mem _ (List.mem_cons_self))))))
  have b1 := rl_lf (x := 4294967295) (y := ρ.2.1 60033) (hF.2 _ (List.mem_cons_of_mem _ (List.mem_cons_of_mem _ (List.mem_cons_of_mem _ (List.mem_cons_of_mem _ (List.mem_cons_of_mem _ (List.mem_cons_self)))))))
  have y0 : (0 : Int64).toInt = 0 := rfl
  have y1 : (4294967295 : Int64).toInt = 4294967295 := by decide +kernel
  rw [y0] at b0
  rw [y1] at b1
  have he : ((1 : Int32)).toInt = if evs 12 (ρ.2.1 60033).toInt = true then 1 else 0 := of_decide_eq_true (hF.2 _ (List.mem_cons_of_mem _ (List.mem_cons_of_mem _ (List.mem_cons_of_mem _ (List.mem_cons_of_mem _ (List.mem_cons_of_mem _ (List.mem_cons_of_mem _ (List.mem_cons_self))))))))
  have s0 := ri_lf (x := ρ.1 60064) (y := 0) (hF.2 _ (List.mem_cons_of_mem _ (List.mem_cons_self)))
  have s1 := ri_lf (x := 156) (y := ρ.1 60064) (hF.2 _ (List.mem_cons_of_mem _ (List.mem_cons_of_mem _ (List.mem_cons_self))))
  have x0 : (0 : Int32).toInt = 0 := rfl
  have x1 : (156 : Int32).toInt = 156 := rfl
  rw [x0] at s0
  rw [x1] at s1
  obtain ⟨p, hp, hn⟩ : ∃ p : Nat, p ≤ 156 ∧ (ρ.1 60064).toInt = p := ⟨(ρ.1 60064).toInt.toNat, by omega, by omega⟩
  have hb : (List.range (ρ.1 60064).toInt.toNat).all (fun p => !(amok (Int32.ofInt (512 : Int32).toInt) (ρ.2.1 60033).toInt p)) = true := hF.2 _ (List.mem_cons_of_mem _ (List.mem_cons_of_mem _ (List.mem_cons_of_mem _ (List.mem_cons_self))))
  have hb : ∀ j : Nat, j < p → amok 512 (ρ.2.1 60033).toInt j = false := fun j hj => by
    have := List.all_eq_true.mp hb j (List.mem_range.mpr (by omega))
    rw [Int32.ofInt_toInt] at this
    simpa using this
  obtain ⟨i1, i2⟩ := mv_ix (X := X) (ρ := ρ) b0 b1
  have m8 := mv_8 b0
  have fx : sc X ρ (2, .op1 .l2i (.op2 .land (.op2 .lshr (.arg 60033) (.int 16)) (.long 65535)), .int 0) = false ∧ sc X ρ (2, .int 65535, .op1 .l2i (.op2 .land (.op2 .lshr (.arg 60033) (.int 16)) (.long 65535))) = false := ⟨di_lf (y := 0) (show (0 : Int) ≤ (sd X ρ (.op1 .l2i (.op2 .land (.op2 .lshr (.arg 60033) (.int 16)) (.long 65535)))).1.toInt by rw [i1]; omega), di_lf (x := 65535) (show (sd X ρ (.op1 .l2i (.op2 .land (.op2 .lshr (.arg 60033) (.int 16)) (.long 65535)))).1.toInt ≤ (65535 : Int) by rw [i1]; omega)⟩
  by_cases e6 : p = 156
  · exfalso
    have hv1 : evs 12 (ρ.2.1 60033).toInt = true := by
      by_cases h : evs 12 (ρ.2.1 60033).toInt = true
      · exact h
      · rw [if_neg h] at he; cases he
    have hc : (ρ.2.1 60033).toInt ∈ ([0, 268501000, 1614741520, 1614872592, 1616969736, 1617035296, 1617166368, 1617625120, 1617690656, 1622736912, 1622802464, 1622868000, 1627193376] : List Int) := List.contains_iff_mem.mp hv1
    have j := List.all_eq_true.mp mj_12 _ hc
    simp only [Bool.or_eq_true, decide_eq_true_eq, List.any_eq_true, Bool.and_eq_true, Bool.not_eq_true', decide_eq_false_iff_not] at j
    rcases j with j | ⟨q, -, q1, q2, q3⟩
    · exact rl_ef (x := ρ.2.1 60033) (y := 0) (hF.2 _ (List.mem_cons_of_mem _ (List.mem_cons_of_mem _ (List.mem_cons_of_mem _ (List.mem_cons_of_mem _ (List.mem_cons_of_mem _ (List.mem_cons_of_mem _ (List.mem_cons_of_mem _ (List.mem_cons_self))))))))) j
    · have := hb q.1 (by omega)
      unfold amok at this
      rw [decide_eq_true q1, decide_eq_false q3] at this
      cases this
  have h6 : p < 156 := by omega
  have ky := op_key k1 h6 (s := 60064) hn
  have m1 := op_tab k1 h6 (s := 60064) rfl hn
  have bk : ∀ w : Int32, w = pt_BOOK.getD (5 * p) 0 → w.toInt64.toInt = (pt_BOOK.getD (5 * p) 0).toInt := fun w hw => by rw [Int32.toInt_toInt64, hw]
  have nxp : amok 512 (ρ.2.1 60033).toInt p = false → sc X ρ (2, .arg 60064, .int 156) = true ∧ sc X ρ (2, .sub (.int 156) (.add (.arg 60064) (.int 1)), .arg 64032) = true ∧ sc X ρ (2, .add (.arg 60064) (.int 1), .int 0) = false ∧ sc X ρ (2, .int 156, .add (.arg 60064) (.int 1)) = false ∧ sc X ρ (138, .add (.int 512) (.arg 60033), .add (.arg 60064) (.int 1)) = true := fun ha => by
    have e1 : (ρ.1 60064 + 1).toInt = p + 1 := i_of (n := (p : Int) + 1) (by rw [i_ad (i_s (ρ.1 60064)) i_1, hn]) (by omega) (by omega)
    have gq : (156 : Int32) - ρ.1 60064 = ρ.1 64032 := of_decide_eq_true (hF.2 _ (List.mem_cons_self))
    have g1 : ((156 : Int32) - ρ.1 60064).toInt = 156 - p := i_of (n := 156 - (p : Int)) (by rw [i_sb (show (156 : Int32) = Int32.ofInt 156 from rfl) (i_s (ρ.1 60064)), hn]) (by omega) (by omega)
    have g2 : ((156 : Int32) - (ρ.1 60064 + 1)).toInt = 155 - p := i_of (n := 155 - (p : Int)) (by rw [i_sb (show (156 : Int32) = Int32.ofInt 156 from rfl) (i_s (ρ.1 60064 + 1)), e1]; congr 1; omega) (by omega) (by omega)
    rw [gq] at g1
    refine ⟨di_lt (x := ρ.1 60064) (y := 156) (show _ < (156 : Int) by omega), di_lt (x := (156 : Int32) - (ρ.1 60064 + 1)) (y := ρ.1 64032) (by omega), di_lf (x := ρ.1 60064 + 1) (y := 0) (show (0 : Int) ≤ _ by omega), di_lf (x := 156) (y := ρ.1 60064 + 1) (show _ ≤ (156 : Int) by omega), ?_⟩
    show (List.range (ρ.1 60064 + 1).toInt.toNat).all (fun p => !(amok (Int32.ofInt (512 : Int32).toInt) (ρ.2.1 60033).toInt p)) = true
    rw [Int32.ofInt_toInt]
    refine List.all_eq_true.mpr (fun j hj => ?_)
    have hj := List.mem_range.mp hj
    by_cases ej : j = p
    · rw [ej, ha]; rfl
    · rw [hb j (by omega)]; rfl
  by_cases ke : (pt_BOOK.getD (5 * p) 0).toInt = (ρ.2.1 60033).toInt / 256
  · have kf : sc X ρ (6, .op1 .i2l (.elem (.string "" 1) (.mul (.arg 60064) (.int 5))), .op2 .lushr (.arg 60033) (.int 8)) = true := dl_et (x := (sd X ρ (.elem (.string "" 1) (.mul (.arg 60064) (.int 5)))).1.toInt64) (y := (s2 .lushr (0, ρ.2.1 60033) (8, 0)).2) (by rw [bk _ ky, m8]; exact ke)
    have t := List.all_eq_true.mp mf_12 p (List.mem_range.mpr h6)
    simp only [Bool.or_eq_true, decide_eq_true_eq] at t
    by_cases fe : pt_BOOK.getD (5 * p + 1) 0 &&& 512 = 0
    · have ha : amok 512 (ρ.2.1 60033).toInt p = false := by
        unfold amok
        rw [decide_eq_true fe]
        exact Bool.and_false _
      obtain ⟨n1, n2, n3, n4, n5⟩ := nxp ha
      exact t_mp121LEf hv hk_ ρ k1 ⟨hF.1, fcn (kf) (fcn (decide_eq_true (show (sd X ρ (.elem (.string "" 1) (.add (.mul (.arg 60064) (.int 5)) (.int 1)))).1 &&& 512 = 0 by rw [m1.1]; exact fe)) (fcn (n1) (fcn (n2) (fcn (n3) (fcn (n4) (fcn (n5) (hF.2)))))))⟩ hI k4
    · have t := t.resolve_left fe
      have t := List.contains_iff_mem.mp t
      have tk := List.all_eq_true.mp mk_t p (List.mem_range.mpr h6)
      simp only [Bool.and_eq_true, decide_eq_true_eq] at tk
      have a9 : aslot ((ρ.2.1 60033).toInt / 65536) ((ρ.2.1 60033).toInt / 256 % 256) = p := by
        rw [← ke, show (ρ.2.1 60033).toInt / 65536 = (pt_BOOK.getD (5 * p) 0).toInt / 256 by omega]
        exact tk.2.2
      have ml := mv_a (x := ρ.2.1 60033) (m := 255) (k := 8) b0 rfl
      have p8 : ((2 ^ 8 : Nat) : Int) = 256 := rfl
      rw [p8] at ml
      simp only [List.mem_cons, List.not_mem_nil, or_false] at t
      rcases t with t | t | t | t | t | t | t | t | t | t | t | t
      · subst t
        have w : (ρ.2.1 60033).toInt % 256 = 8 := by
          have hv1 : evs 12 (ρ.2.1 60033).toInt = true := by
            by_cases h : evs 12 (ρ.2.1 60033).toInt = true
            · exact h
            · rw [if_neg h] at he; cases he
          have hc : (ρ.2.1 60033).toInt ∈ ([0, 268501000, 1614741520, 1614872592, 1616969736, 1617035296, 1617166368, 1617625120, 1617690656, 1622736912, 1622802464, 1622868000, 1627193376] : List Int) := List.contains_iff_mem.mp hv1
          have j := List.all_eq_true.mp (List.all_eq_true.mp mh_12 _ hc) (1, 8) (by decide)
          simp only [Bool.or_eq_true, Bool.not_eq_true', decide_eq_false_iff_not, decide_eq_true_eq] at j
          exact j.resolve_left (fun q => q ke.symm)
        have kz : (pt_BOOK.getD (5 * 1) 0).toInt = 1048832 := by decide +kernel
        exact t_mp121LEp1 hv hk_ ρ k1 ⟨hF.1, fcn (di_et (x := ρ.1 60064) (y := 1) hn) (fcn (dl_et (x := 1048832) (y := (s2 .lushr (0, ρ.2.1 60033) (8, 0)).2) (by rw [m8, ← ke, kz]; rfl)) (fcn (dl_et (x := ρ.2.1 60033 &&& 255) (y := 8) (by rw [ml]; exact w)) (fcn (dl_et (x := 8) (y := ρ.2.1 60033 &&& 255) (by rw [ml]; exact w.symm)) (fcn (decide_eq_true (show ((1 : Int32)).toInt = aslot (sd X ρ (.op1 .l2i (.op2 .land (.op2 .lshr (.arg 60033) (.int 16)) (.long 65535)))).1.toInt (sd X ρ (.op1 .l2i (.op2 .land (.op2 .lshr (.arg 60033) (.int 8)) (.long 255)))).1.toInt by rw [i1, i2, a9]; rfl)) (fcn (fx.1) (fcn (fx.2) (hF.2)))))))⟩ hI k4
      · subst t
        have w : (ρ.2.1 60033).toInt % 256 = 16 := by
          have hv1 : evs 12 (ρ.2.1 60033).toInt = true := by
            by_cases h : evs 12 (ρ.2.1 60033).toInt = true
            · exact h
            · rw [if_neg h] at he; cases he
          have hc : (ρ.2.1 60033).toInt ∈ ([0, 268501000, 1614741520, 1614872592, 1616969736, 1617035296, 1617166368, 1617625120, 1617690656, 1622736912, 1622802464, 1622868000, 1627193376] : List Int) := List.contains_iff_mem.mp hv1
          have j := List.all_eq_true.mp (List.all_eq_true.mp mh_12 _ hc) (114, 16) (by decide)
          simp only [Bool.or_eq_true, Bool.not_eq_true', decide_eq_false_iff_not, decide_eq_true_eq] at j
          exact j.resolve_left (fun q => q ke.symm)
        have kz : (pt_BOOK.getD (5 * 114) 0).toInt = 6307584 := by decide +kernel
        exact t_mp121LEp114 hv hk_ ρ k1 ⟨hF.1, fcn (di_et (x := ρ.1 60064) (y := 114) hn) (fcn (dl_et (x := 6307584) (y := (s2 .lushr (0, ρ.2.1 60033) (8, 0)).2) (by rw [m8, ← ke, kz]; rfl)) (fcn (dl_et (x := ρ.2.1 60033 &&& 255) (y := 16) (by rw [ml]; exact w)) (fcn (dl_et (x := 16) (y := ρ.2.1 60033 &&& 255) (by rw [ml]; exact w.symm)) (fcn (decide_eq_true (show ((114 : Int32)).toInt = aslot (sd X ρ (.op1 .l2i (.op2 .land (.op2 .lshr (.arg 60033) (.int 16)) (.long 65535)))).1.toInt (sd X ρ (.op1 .l2i (.op2 .land (.op2 .lshr (.arg 60033) (.int 8)) (.long 255)))).1.toInt by rw [i1, i2, a9]; rfl)) (fcn (fx.1) (fcn (fx.2) (hF.2)))))))⟩ hI k4
      · subst t
        have w : (ρ.2.1 60033).toInt % 256 = 16 := by
          have hv1 : evs 12 (ρ.2.1 60033).toInt = true := by
            by_cases h : evs 12 (ρ.2.1 60033).toInt = true
            · exact h
            · rw [if_neg h] at he; cases he
          have hc : (ρ.2.1 60033).toInt ∈ ([0, 268501000, 1614741520, 1614872592, 1616969736, 1617035296, 1617166368, 1617625120, 1617690656, 1622736912, 1622802464, 1622868000, 1627193376] : List Int) := List.contains_iff_mem.mp hv1
          have j := List.all_eq_true.mp (List.all_eq_true.mp mh_12 _ hc) (116, 16) (by decide)
          simp only [Bool.or_eq_true, Bool.not_eq_true', decide_eq_false_iff_not, decide_eq_true_eq] at j
          exact j.resolve_left (fun q => q ke.symm)
        have kz : (pt_BOOK.getD (5 * 116) 0).toInt = 6308096 := by decide +kernel
        exact t_mp121LEp116 hv hk_ ρ k1 ⟨hF.1, fcn (di_et (x := ρ.1 60064) (y := 116) hn) (fcn (dl_et (x := 6308096) (y := (s2 .lushr (0, ρ.2.1 60033) (8, 0)).2) (by rw [m8, ← ke, kz]; rfl)) (fcn (dl_et (x := ρ.2.1 60033 &&& 255) (y := 16) (by rw [ml]; exact w)) (fcn (dl_et (x := 16) (y := ρ.2.1 60033 &&& 255) (by rw [ml]; exact w.symm)) (fcn (decide_eq_true (show ((116 : Int32)).toInt = aslot (sd X ρ (.op1 .l2i (.op2 .land (.op2 .lshr (.arg 60033) (.int 16)) (.long 65535)))).1.toInt (sd X ρ (.op1 .l2i (.op2 .land (.op2 .lshr (.arg 60033) (.int 8)) (.long 255)))).1.toInt by rw [i1, i2, a9]; rfl)) (fcn (fx.1) (fcn (fx.2) (hF.2)))))))⟩ hI k4
      · subst t
        have w : (ρ.2.1 60033).toInt % 256 = 8 := by
          have hv1 : evs 12 (ρ.2.1 60033).toInt = true := by
            by_cases h : evs 12 (ρ.2.1 60033).toInt = true
            · exact h
            · rw [if_neg h] at he; cases he
          have hc : (ρ.2.1 60033).toInt ∈ ([0, 268501000, 1614741520, 1614872592, 1616969736, 1617035296, 1617166368, 1617625120, 1617690656, 1622736912, 1622802464, 1622868000, 1627193376] : List Int) := List.contains_iff_mem.mp hv1
          have j := List.all_eq_true.mp (List.all_eq_true.mp mh_12 _ hc) (123, 8) (by decide)
          simp only [Bool.or_eq_true, Bool.not_eq_true', decide_eq_false_iff_not, decide_eq_true_eq] at j
          exact j.resolve_left (fun q => q ke.symm)
        have kz : (pt_BOOK.getD (5 * 123) 0).toInt = 6316288 := by decide +kernel
        exact t_mp121LEp123 hv hk_ ρ k1 ⟨hF.1, fcn (di_et (x := ρ.1 60064) (y := 123) hn) (fcn (dl_et (x := 6316288) (y := (s2 .lushr (0, ρ.2.1 60033) (8, 0)).2) (by rw [m8, ← ke, kz]; rfl)) (fcn (dl_et (x := ρ.2.1 60033 &&& 255) (y := 8) (by rw [ml]; exact w)) (fcn (dl_et (x := 8) (y := ρ.2.1 60033 &&& 255) (by rw [ml]; exact w.symm)) (fcn (decide_eq_true (show ((123 : Int32)).toInt = aslot (sd X ρ (.op1 .l2i (.op2 .land (.op2 .lshr (.arg 60033) (.int 16)) (.long 65535)))).1.toInt (sd X ρ (.op1 .l2i (.op2 .land (.op2 .lshr (.arg 60033) (.int 8)) (.long 255)))).1.toInt by rw [i1, i2, a9]; rfl)) (fcn (fx.1) (fcn (fx.2) (hF.2)))))))⟩ hI k4
      · subst t
        have w : (ρ.2.1 60033).toInt % 256 = 32 := by
          have hv1 : evs 12 (ρ.2.1 60033).toInt = true := by
            by_cases h : evs 12 (ρ.2.1 60033).toInt = true
            · exact h
            · rw [if_neg h] at he; cases he
          have hc : (ρ.2.1 60033).toInt ∈ ([0, 268501000, 1614741520, 1614872592, 1616969736, 1617035296, 1617166368, 1617625120, 1617690656, 1622736912, 1622802464, 1622868000, 1627193376] : List Int) := List.contains_iff_mem.mp hv1
          have j := List.all_eq_true.mp (List.all_eq_true.mp mh_12 _ hc) (124, 32) (by decide)
          simp only [Bool.or_eq_true, Bool.not_eq_true', decide_eq_false_iff_not, decide_eq_true_eq] at j
          exact j.resolve_left (fun q => q ke.symm)
        have kz : (pt_BOOK.getD (5 * 124) 0).toInt = 6316544 := by decide +kernel
        exact t_mp121LEp124 hv hk_ ρ k1 ⟨hF.1, fcn (di_et (x := ρ.1 60064) (y := 124) hn) (fcn (dl_et (x := 6316544) (y := (s2 .lushr (0, ρ.2.1 60033) (8, 0)).2) (by rw [m8, ← ke, kz]; rfl)) (fcn (dl_et (x := ρ.2.1 60033 &&& 255) (y := 32) (by rw [ml]; exact w)) (fcn (dl_et (x := 32) (y := ρ.2.1 60033 &&& 255) (by rw [ml]; exact w.symm)) (fcn (decide_eq_true (show ((124 : Int32)).toInt = aslot (sd X ρ (.op1 .l2i (.op2 .land (.op2 .lshr (.arg 60033) (.int 16)) (.long 65535)))).1.toInt (sd X ρ (.op1 .l2i (.op2 .land (.op2 .lshr (.arg 60033) (.int 8)) (.long 255)))).1.toInt by rw [i1, i2, a9]; rfl)) (fcn (fx.1) (fcn (fx.2) (hF.2)))))))⟩ hI k4
      · subst t
        have w : (ρ.2.1 60033).toInt % 256 = 32 := by
          have hv1 : evs 12 (ρ.2.1 60033).toInt = true := by
            by_cases h : evs 12 (ρ.2.1 60033).toInt = true
            · exact h
            · rw [if_neg h] at he; cases he
          have hc : (ρ.2.1 60033).toInt ∈ ([0, 268501000, 1614741520, 1614872592, 1616969736, 1617035296, 1617166368, 1617625120, 1617690656, 1622736912, 1622802464, 1622868000, 1627193376] : List Int) := List.contains_iff_mem.mp hv1
          have j := List.all_eq_true.mp (List.all_eq_true.mp mh_12 _ hc) (125, 32) (by decide)
          simp only [Bool.or_eq_true, Bool.not_eq_true', decide_eq_false_iff_not, decide_eq_true_eq] at j
          exact j.resolve_left (fun q => q ke.symm)
        have kz : (pt_BOOK.getD (5 * 125) 0).toInt = 6317056 := by decide +kernel
        exact t_mp121LEp125 hv hk_ ρ k1 ⟨hF.1, fcn (di_et (x := ρ.1 60064) (y := 125) hn) (fcn (dl_et (x := 6317056) (y := (s2 .lushr (0, ρ.2.1 60033) (8, 0)).2) (by rw [m8, ← ke, kz]; rfl)) (fcn (dl_et (x := ρ.2.1 60033 &&& 255) (y := 32) (by rw [ml]; exact w)) (fcn (dl_et (x := 32) (y := ρ.2.1 60033 &&& 255) (by rw [ml]; exact w.symm)) (fcn (decide_eq_true (show ((125 : Int32)).toInt = aslot (sd X ρ (.op1 .l2i (.op2 .land (.op2 .lshr (.arg 60033) (.int 16)) (.long 65535)))).1.toInt (sd X ρ (.op1 .l2i (.op2 .land (.op2 .lshr (.arg 60033) (.int 8)) (.long 255)))).1.toInt by rw [i1, i2, a9]; rfl)) (fcn (fx.1) (fcn (fx.2) (hF.2)))))))⟩ hI k4
      · subst t
        have w : (ρ.2.1 60033).toInt % 256 = 32 := by
          have hv1 : evs 12 (ρ.2.1 60033).toInt = true := by
            by_cases h : evs 12 (ρ.2.1 60033).toInt = true
            · exact h
            · rw [if_neg h] at he; cases he
          have hc : (ρ.2.1 60033).toInt ∈ ([0, 268501000, 1614741520, 1614872592, 1616969736, 1617035296, 1617166368, 1617625120, 1617690656, 1622736912, 1622802464, 1622868000, 1627193376] : List Int) := List.contains_iff_mem.mp hv1
          have j := List.all_eq_true.mp (List.all_eq_true.mp mh_12 _ hc) (130, 32) (by decide)
          simp only [Bool.or_eq_true, Bool.not_eq_true', decide_eq_false_iff_not, decide_eq_true_eq] at j
          exact j.resolve_left (fun q => q ke.symm)
        have kz : (pt_BOOK.getD (5 * 130) 0).toInt = 6318848 := by decide +kernel
        exact t_mp121LEp130 hv hk_ ρ k1 ⟨hF.1, fcn (di_et (x := ρ.1 60064) (y := 130) hn) (fcn (dl_et (x := 6318848) (y := (s2 .lushr (0, ρ.2.1 60033) (8, 0)).2) (by rw [m8, ← ke, kz]; rfl)) (fcn (dl_et (x := ρ.2.1 60033 &&& 255) (y := 32) (by rw [ml]; exact w)) (fcn (dl_et (x := 32) (y := ρ.2.1 60033 &&& 255) (by rw [ml]; exact w.symm)) (fcn (decide_eq_true (show ((130 : Int32)).toInt = aslot (sd X ρ (.op1 .l2i (.op2 .land (.op2 .lshr (.arg 60033) (.int 16)) (.long 65535)))).1.toInt (sd X ρ (.op1 .l2i (.op2 .land (.op2 .lshr (.arg 60033) (.int 8)) (.long 255)))).1.toInt by rw [i1, i2, a9]; rfl)) (fcn (fx.1) (fcn (fx.2) (hF.2)))))))⟩ hI k4
      · subst t
        have w : (ρ.2.1 60033).toInt % 256 = 32 := by
          have hv1 : evs 12 (ρ.2.1 60033).toInt = true := by
            by_cases h : evs 12 (ρ.2.1 60033).toInt = true
            · exact h
            · rw [if_neg h] at he; cases he
          have hc : (ρ.2.1 60033).toInt ∈ ([0, 268501000, 1614741520, 1614872592, 1616969736, 1617035296, 1617166368, 1617625120, 1617690656, 1622736912, 1622802464, 1622868000, 1627193376] : List Int) := List.contains_iff_mem.mp hv1
          have j := List.all_eq_true.mp (List.all_eq_true.mp mh_12 _ hc) (131, 32) (by decide)
          simp only [Bool.or_eq_true, Bool.not_eq_true', decide_eq_false_iff_not, decide_eq_true_eq] at j
          exact j.resolve_left (fun q => q ke.symm)
        have kz : (pt_BOOK.getD (5 * 131) 0).toInt = 6319104 := by decide +kernel
        exact t_mp121LEp131 hv hk_ ρ k1 ⟨hF.1, fcn (di_et (x := ρ.1 60064) (y := 131) hn) (fcn (dl_et (x := 6319104) (y := (s2 .lushr (0, ρ.2.1 60033) (8, 0)).2) (by rw [m8, ← ke, kz]; rfl)) (fcn (dl_et (x := ρ.2.1 60033 &&& 255) (y := 32) (by rw [ml]; exact w)) (fcn (dl_et (x := 32) (y := ρ.2.1 60033 &&& 255) (by rw [ml]; exact w.symm)) (fcn (decide_eq_true (show ((131 : Int32)).toInt = aslot (sd X ρ (.op1 .l2i (.op2 .land (.op2 .lshr (.arg 60033) (.int 16)) (.long 65535)))).1.toInt (sd X ρ (.op1 .l2i (.op2 .land (.op2 .lshr (.arg 60033) (.int 8)) (.long 255)))).1.toInt by rw [i1, i2, a9]; rfl)) (fcn (fx.1) (fcn (fx.2) (hF.2)))))))⟩ hI k4
      · subst t
        have w : (ρ.2.1 60033).toInt % 256 = 16 := by
          have hv1 : evs 12 (ρ.2.1 60033).toInt = true := by
            by_cases h : evs 12 (ρ.2.1 60033).toInt = true
            · exact h
            · rw [if_neg h] at he; cases he
          have hc : (ρ.2.1 60033).toInt ∈ ([0, 268501000, 1614741520, 1614872592, 1616969736, 1617035296, 1617166368, 1617625120, 1617690656, 1622736912, 1622802464, 1622868000, 1627193376] : List Int) := List.contains_iff_mem.mp hv1
          have j := List.all_eq_true.mp (List.all_eq_true.mp mh_12 _ hc) (148, 16) (by decide)
          simp only [Bool.or_eq_true, Bool.not_eq_true', decide_eq_false_iff_not, decide_eq_true_eq] at j
          exact j.resolve_left (fun q => q ke.symm)
        have kz : (pt_BOOK.getD (5 * 148) 0).toInt = 6338816 := by decide +kernel
        exact t_mp121LEp148 hv hk_ ρ k1 ⟨hF.1, fcn (di_et (x := ρ.1 60064) (y := 148) hn) (fcn (dl_et (x := 6338816) (y := (s2 .lushr (0, ρ.2.1 60033) (8, 0)).2) (by rw [m8, ← ke, kz]; rfl)) (fcn (dl_et (x := ρ.2.1 60033 &&& 255) (y := 16) (by rw [ml]; exact w)) (fcn (dl_et (x := 16) (y := ρ.2.1 60033 &&& 255) (by rw [ml]; exact w.symm)) (fcn (decide_eq_true (show ((148 : Int32)).toInt = aslot (sd X ρ (.op1 .l2i (.op2 .land (.op2 .lshr (.arg 60033) (.int 16)) (.long 65535)))).1.toInt (sd X ρ (.op1 .l2i (.op2 .land (.op2 .lshr (.arg 60033) (.int 8)) (.long 255)))).1.toInt by rw [i1, i2, a9]; rfl)) (fcn (fx.1) (fcn (fx.2) (hF.2)))))))⟩ hI k4
      · subst t
        have w : (ρ.2.1 60033).toInt % 256 = 32 := by
          have hv1 : evs 12 (ρ.2.1 60033).toInt = true := by
            by_cases h : evs 12 (ρ.2.1 60033).toInt = true
            · exact h
            · rw [if_neg h] at he; cases he
          have hc : (ρ.2.1 60033).toInt ∈ ([0, 268501000, 1614741520, 1614872592, 1616969736, 1617035296, 1617166368, 1617625120, 1617690656, 1622736912, 1622802464, 1622868000, 1627193376] : List Int) := List.contains_iff_mem.mp hv1
          have j := List.all_eq_true.mp (List.all_eq_true.mp mh_12 _ hc) (149, 32) (by decide)
          simp only [Bool.or_eq_true, Bool.not_eq_true', decide_eq_false_iff_not, decide_eq_true_eq] at j
          exact j.resolve_left (fun q => q ke.symm)
        have kz : (pt_BOOK.getD (5 * 149) 0).toInt = 6339072 := by decide +kernel
        exact t_mp121LEp149 hv hk_ ρ k1 ⟨hF.1, fcn (di_et (x := ρ.1 60064) (y := 149) hn) (fcn (dl_et (x := 6339072) (y := (s2 .lushr (0, ρ.2.1 60033) (8, 0)).2) (by rw [m8, ← ke, kz]; rfl)) (fcn (dl_et (x := ρ.2.1 60033 &&& 255) (y := 32) (by rw [ml]; exact w)) (fcn (dl_et (x := 32) (y := ρ.2.1 60033 &&& 255) (by rw [ml]; exact w.symm)) (fcn (decide_eq_true (show ((149 : Int32)).toInt = aslot (sd X ρ (.op1 .l2i (.op2 .land (.op2 .lshr (.arg 60033) (.int 16)) (.long 65535)))).1.toInt (sd X ρ (.op1 .l2i (.op2 .land (.op2 .lshr (.arg 60033) (.int 8)) (.long 255)))).1.toInt by rw [i1, i2, a9]; rfl)) (fcn (fx.1) (fcn (fx.2) (hF.2)))))))⟩ hI k4
      · subst t
        have w : (ρ.2.1 60033).toInt % 256 = 32 := by
          have hv1 : evs 12 (ρ.2.1 60033).toInt = true := by
            by_cases h : evs 12 (ρ.2.1 60033).toInt = true
            · exact h
            · rw [if_neg h] at he; cases he
          have hc : (ρ.2.1 60033).toInt ∈ ([0, 268501000, 1614741520, 1614872592, 1616969736, 1617035296, 1617166368, 1617625120, 1617690656, 1622736912, 1622802464, 1622868000, 1627193376] : List Int) := List.contains_iff_mem.mp hv1
          have j := List.all_eq_true.mp (List.all_eq_true.mp mh_12 _ hc) (150, 32) (by decide)
          simp only [Bool.or_eq_true, Bool.not_eq_true', decide_eq_false_iff_not, decide_eq_true_eq] at j
          exact j.resolve_left (fun q => q ke.symm)
        have kz : (pt_BOOK.getD (5 * 150) 0).toInt = 6339328 := by decide +kernel
        exact t_mp121LEp150 hv hk_ ρ k1 ⟨hF.1, fcn (di_et (x := ρ.1 60064) (y := 150) hn) (fcn (dl_et (x := 6339328) (y := (s2 .lushr (0, ρ.2.1 60033) (8, 0)).2) (by rw [m8, ← ke, kz]; rfl)) (fcn (dl_et (x := ρ.2.1 60033 &&& 255) (y := 32) (by rw [ml]; exact w)) (fcn (dl_et (x := 32) (y := ρ.2.1 60033 &&& 255) (by rw [ml]; exact w.symm)) (fcn (decide_eq_true (show ((150 : Int32)).toInt = aslot (sd X ρ (.op1 .l2i (.op2 .land (.op2 .lshr (.arg 60033) (.int 16)) (.long 65535)))).1.toInt (sd X ρ (.op1 .l2i (.op2 .land (.op2 .lshr (.arg 60033) (.int 8)) (.long 255)))).1.toInt by rw [i1, i2, a9]; rfl)) (fcn (fx.1) (fcn (fx.2) (hF.2)))))))⟩ hI k4
      · subst t
        have w : (ρ.2.1 60033).toInt % 256 = 32 := by
          have hv1 : evs 12 (ρ.2.1 60033).toInt = true := by
            by_cases h : evs 12 (ρ.2.1 60033).toInt = true
            · exact h
            · rw [if_neg h] at he; cases he
          have hc : (ρ.2.1 60033).toInt ∈ ([0, 268501000, 1614741520, 1614872592, 1616969736, 1617035296, 1617166368, 1617625120, 1617690656, 1622736912, 1622802464, 1622868000, 1627193376] : List Int) := List.contains_iff_mem.mp hv1
          have j := List.all_eq_true.mp (List.all_eq_true.mp mh_12 _ hc) (151, 32) (by decide)
          simp only [Bool.or_eq_true, Bool.not_eq_true', decide_eq_false_iff_not, decide_eq_true_eq] at j
          exact j.resolve_left (fun q => q ke.symm)
        have kz : (pt_BOOK.getD (5 * 151) 0).toInt = 6356224 := by decide +kernel
        exact t_mp121LEp151 hv hk_ ρ k1 ⟨hF.1, fcn (di_et (x := ρ.1 60064) (y := 151) hn) (fcn (dl_et (x := 6356224) (y := (s2 .lushr (0, ρ.2.1 60033) (8, 0)).2) (by rw [m8, ← ke, kz]; rfl)) (fcn (dl_et (x := ρ.2.1 60033 &&& 255) (y := 32) (by rw [ml]; exact w)) (fcn (dl_et (x := 32) (y := ρ.2.1 60033 &&& 255) (by rw [ml]; exact w.symm)) (fcn (decide_eq_true (show ((151 : Int32)).toInt = aslot (sd X ρ (.op1 .l2i (.op2 .land (.op2 .lshr (.arg 60033) (.int 16)) (.long 65535)))).1.toInt (sd X ρ (.op1 .l2i (.op2 .land (.op2 .lshr (.arg 60033) (.int 8)) (.long 255)))).1.toInt by rw [i1, i2, a9]; rfl)) (fcn (fx.1) (fcn (fx.2) (hF.2)))))))⟩ hI k4
  · have ha : amok 512 (ρ.2.1 60033).toInt p = false := by
      unfold amok
      rw [decide_eq_false ke]
      rfl
    obtain ⟨n1, n2, n3, n4, n5⟩ := nxp ha
    exact t_mp121LEk hv hk_ ρ k1 ⟨hF.1, fcn (dl_ef (x := (sd X ρ (.elem (.string "" 1) (.mul (.arg 60064) (.int 5)))).1.toInt64) (y := (s2 .lushr (0, ρ.2.1 60033) (8, 0)).2) (by rw [bk _ ky, m8]; exact ke)) (fcn (n1) (fcn (n2) (fcn (n3) (fcn (n4) (fcn (n5) (hF.2))))))⟩ hI k4
theorem t_mp121L {X : pX} {ρ0 : sR} (hv : vok X ρ0) : CUTOK X kR zWP c_mp121 5 ρ0 q_mp121L := CUT_again (g := 64032) (mt := .sub (.int 156) (.arg 60064)) kR_x (by decide +kernel) (by decide) (by decide) (by decide) (by decide +kernel) (by decide +kernel) (by decide +kernel) (by decide +kernel) (by decide +kernel) (fun ρ0 hv hk => t_mp121LE hv hk) ρ0 hv
noncomputable def q_mp121b : sCut := ((fr 0 221 0 [(0, .arg 60033), (2, .int 512)] [], [fBot], 5), (fr 0 271 0 [(0, tr 219), (1, .int 12), (2, .arg 60033)] [], [fBot], 5), [((8, .arg 60033, .long 0), false), ((8, .long 4294967295, .arg 60033), false), ((131, .add (.int 12) (.arg 60033), .int 1), true)], [])
noncomputable def q_mp121bd0 : sCut := ((fr 0 221 0 [(0, .arg 60033), (2, .int 512)] [], [fBot], 5), (fr 0 271 0 [(0, tr 219), (1, .int 12), (2, .arg 60033)] [], [fBot], 5), [((6, .arg 60033, .long 0), true), ((8, .arg 60033, .long 0), false), ((8, .long 4294967295, .arg 60033), false), ((131, .add (.int 12) (.arg 60033), .int 1), true)], [])
theorem k_mp121bd0 : cbody kR [] (cpl1 zWP c_mp121 []) (cpl2 zWP c_mp121 []) (cleaf kR zWP c_mp121 []) 60 true true q_mp121bd0.2.2.1 q_mp121bd0.2.2.2 (cst zWP c_mp121.2.2.1.1 q_mp121bd0.1) (cst zWP c_mp121.2.2.1.2 q_mp121bd0.2.1) = true := by decide +kernel
theorem t_mp121bd0 {X : pX} {ρ0 : sR} (hv : vok X ρ0) : CUTOK X kR zWP c_mp121 5 ρ0 q_mp121bd0 := CUT_run kR_x kR_0 (Cs := []) (fun C hC => by cases hC) c_mp121_f (Q := []) hv (fun q hq => by cases hq) 60 (b1 := true) (b2 := true) k_mp121bd0
noncomputable def q_mp121bo : sCut := ((fr 0 221 0 [(0, .arg 60033), (2, .int 512)] [], [fBot], 5), (fr 0 271 0 [(0, tr 219), (1, .int 12), (2, .arg 60033)] [], [fBot], 5), [((6, .arg 60033, .long 0), false), ((138, .add (.int 512) (.arg 60033), .int 0), true), ((8, .arg 60033, .long 0), false), ((8, .long 4294967295, .arg 60033), false), ((131, .add (.int 12) (.arg 60033), .int 1), true)], [])
theorem k_mp121bo : cbody kR [] (cpl1 zWP c_mp121 [q_mp121L]) (cpl2 zWP c_mp121 [q_mp121L]) (cleaf kR zWP c_mp121 [q_mp121L]) 60 true false q_mp121bo.2.2.1 q_mp121bo.2.2.2 (cst zWP c_mp121.2.2.1.1 q_mp121bo.1) (cst zWP c_mp121.2.2.1.2 q_mp121bo.2.1) = true := by decide +kernel
theorem t_mp121bo {X : pX} {ρ0 : sR} (hv : vok X ρ0) : CUTOK X kR zWP c_mp121 5 ρ0 q_mp121bo := CUT_run kR_x kR_0 (Cs := []) (fun C hC => by cases hC) c_mp121_f (Q := [q_mp121L]) hv (fun q hq => by
    simp only [List.mem_cons, List.not_mem_nil, or_false] at hq
    rw [hq]; exact t_mp121L hv) 60 (b1 := true) (b2 := false) k_mp121bo
theorem t_mp121b {X : pX} {ρ0 : sR} (hv : vok X ρ0) : CUTOK X kR zWP c_mp121 5 ρ0 q_mp121b := fun ρ k1 hF hI k4 => by
  have z8 : sc X ρ (138, .add (.int 512) (.arg 60033), .int 0) = true := rfl
  by_cases h0 : ρ.2.1 60033 = 0
  · exact t_mp121bd0 hv ρ k1 ⟨hF.1, fcn (decide_eq_true h0) (hF.2)⟩ hI k4
  exact t_mp121bo hv ρ k1 ⟨hF.1, fcn (decide_eq_false h0) (fcn (z8) (hF.2))⟩ hI k4
theorem e_mp121 : frun kR [] (cpl1 zWP c_mp121 [q_mp121b]) (cpl2 zWP c_mp121 [q_mp121b]) (cleaf kR zWP c_mp121 [q_mp121b]) 10 65536 (isatP (c_mp121.2.2.2.1) c_mp121.2.2.2.2.2.2.2.1) c_mp121.2.2.2.2.2.2.2.1 (sin0 mt_all c_mp121.1.1 5 c_mp121.2.1.1 (foot zWP c_mp121.2.2.1.1)) (sin0 mt_all c_mp121.1.2.1 5 c_mp121.2.1.2 (foot zWP c_mp121.2.2.1.2)) = true := by decide +kernel
theorem s_mp121 {X : pX} : SREL X pF pdfl mt_all kR zWP c_mp121 := SREL_QC kR_x kR_0 (Cs := []) (fun C hC => by cases hC) (d := 5) rfl c_mp121_f (Q := [q_mp121b]) (fun ρ0 hv => fun q hq => by
    simp only [List.mem_cons, List.not_mem_nil, or_false] at hq
    rw [hq]; exact t_mp121b hv) (QC_run 10 e_mp121)
/-! ===== mappedCode and isMapped: 12, it may not ===== -/
noncomputable def c_mp120 : sC := ((221, 271, 6), ([.arg 60033, .int 512], [tr 219, .int 12, .arg 60033]), ([], [219, 223, 222, 228, 220, 221]), [((8, .arg 60033, .long 0), false), ((8, .long 4294967295, .arg 60033), false), ((131, .add (.int 12) (.arg 60033), .int 0), true)], ([60064, 60160], []), (some (.int 100925505), some (.int 0)), [], ([], []))
theorem c_mp120_f : cfine zWP 65536 c_mp120 = true := by decide +kernel
noncomputable def q_mp120e : sCut := ((fr 0 221 77 [] [.int 100925505], [fBot], 5), (fr 0 271 32 [(0, tr 219), (1, .int 12), (2, .arg 60033)] [.arg 60160], [fBot], 5), [((109, .add (.op1 .l2i (.op2 .land (.op2 .lshr (.arg 60033) (.int 16)) (.long 65535))) (.op1 .l2i (.op2 .land (.op2 .lshr (.arg 60033) (.int 8)) (.long 255))), .arg 60160), true), ((138, .add (.int 512) (.arg 60033), .int 156), true), ((8, .arg 60033, .long 0), false), ((8, .long 4294967295, .arg 60033), false), ((131, .add (.int 12) (.arg 60033), .int 0), true), ((6, .arg 60033, .long 0), false)], [])
noncomputable def q_mp120ei : sCut := ((fr 0 221 77 [] [.int 100925505], [fBot], 5), (fr 0 271 32 [(0, tr 219), (1, .int 12), (2, .arg 60033)] [.arg 60160], [fBot], 5), [((0, .arg 60160, .int (-1)), true), ((109, .add (.op1 .l2i (.op2 .land (.op2 .lshr (.arg 60033) (.int 16)) (.long 65535))) (.op1 .l2i (.op2 .land (.op2 .lshr (.arg 60033) (.int 8)) (.long 255))), .arg 60160), true), ((138, .add (.int 512) (.arg 60033), .int 156), true), ((8, .arg 60033, .long 0), false), ((8, .long 4294967295, .arg 60033), false), ((131, .add (.int 12) (.arg 60033), .int 0), true), ((6, .arg 60033, .long 0), false)], [])
theorem k_mp120ei : cbody kR [] (cpl1 zWP c_mp120 []) (cpl2 zWP c_mp120 []) (cleaf kR zWP c_mp120 []) 200 true true q_mp120ei.2.2.1 q_mp120ei.2.2.2 (cst zWP c_mp120.2.2.1.1 q_mp120ei.1) (cst zWP c_mp120.2.2.1.2 q_mp120ei.2.1) = true := by decide +kernel
theorem t_mp120ei {X : pX} {ρ0 : sR} (hv : vok X ρ0) : CUTOK X kR zWP c_mp120 5 ρ0 q_mp120ei := CUT_run kR_x kR_0 (Cs := []) (fun C hC => by cases hC) c_mp120_f (Q := []) hv (fun q hq => by cases hq) 200 (b1 := true) (b2 := true) k_mp120ei
noncomputable def q_mp120es : sCut := ((fr 0 221 77 [] [.int 100925505], [fBot], 5), (fr 0 271 32 [(0, tr 219), (1, .int 12), (2, .arg 60033)] [.arg 60160], [fBot], 5), [((0, .arg 60160, .int (-2)), true), ((109, .add (.op1 .l2i (.op2 .land (.op2 .lshr (.arg 60033) (.int 16)) (.long 65535))) (.op1 .l2i (.op2 .land (.op2 .lshr (.arg 60033) (.int 8)) (.long 255))), .arg 60160), true), ((138, .add (.int 512) (.arg 60033), .int 156), true), ((8, .arg 60033, .long 0), false), ((8, .long 4294967295, .arg 60033), false), ((131, .add (.int 12) (.arg 60033), .int 0), true), ((6, .arg 60033, .long 0), false)], [])
theorem k_mp120es : cbody kR [] (cpl1 zWP c_mp120 []) (cpl2 zWP c_mp120 []) (cleaf kR zWP c_mp120 []) 200 true true q_mp120es.2.2.1 q_mp120es.2.2.2 (cst zWP c_mp120.2.2.1.1 q_mp120es.1) (cst zWP c_mp120.2.2.1.2 q_mp120es.2.1) = true := by decide +kernel
theorem t_mp120es {X : pX} {ρ0 : sR} (hv : vok X ρ0) : CUTOK X kR zWP c_mp120 5 ρ0 q_mp120es := CUT_run kR_x kR_0 (Cs := []) (fun C hC => by cases hC) c_mp120_f (Q := []) hv (fun q hq => by cases hq) 200 (b1 := true) (b2 := true) k_mp120es
noncomputable def q_mp120ee : sCut := ((fr 0 221 77 [] [.int 100925505], [fBot], 5), (fr 0 271 32 [(0, tr 219), (1, .int 12), (2, .arg 60033)] [.arg 60160], [fBot], 5), [((2, .arg 60160, .int 0), false), ((2, .int 155, .arg 60160), false), ((0, .op2 .iand (.elem (.arg 106) (.arg 60160)) (.int 16), .int 0), true), ((109, .add (.op1 .l2i (.op2 .land (.op2 .lshr (.arg 60033) (.int 16)) (.long 65535))) (.op1 .l2i (.op2 .land (.op2 .lshr (.arg 60033) (.int 8)) (.long 255))), .arg 60160), true), ((138, .add (.int 512) (.arg 60033), .int 156), true), ((8, .arg 60033, .long 0), false), ((8, .long 4294967295, .arg 60033), false), ((131, .add (.int 12) (.arg 60033), .int 0), true), ((6, .arg 60033, .long 0), false)], [])
theorem k_mp120ee : cbody kR [] (cpl1 zWP c_mp120 []) (cpl2 zWP c_mp120 []) (cleaf kR zWP c_mp120 []) 200 true true q_mp120ee.2.2.1 q_mp120ee.2.2.2 (cst zWP c_mp120.2.2.1.1 q_mp120ee.1) (cst zWP c_mp120.2.2.1.2 q_mp120ee.2.1) = true := by decide +kernel
theorem t_mp120ee {X : pX} {ρ0 : sR} (hv : vok X ρ0) : CUTOK X kR zWP c_mp120 5 ρ0 q_mp120ee := CUT_run kR_x kR_0 (Cs := []) (fun C hC => by cases hC) c_mp120_f (Q := []) hv (fun q hq => by cases hq) 200 (b1 := true) (b2 := true) k_mp120ee
theorem t_mp120e {X : pX} {ρ0 : sR} (hv : vok X ρ0) : CUTOK X kR zWP c_mp120 5 ρ0 q_mp120e := fun ρ k1 hF hI k4 => by
  have b0 := rl_lf (x := ρ.2.1 60033) (y := 0) (hF.2 _ (List.mem_cons_of_mem _ (List.mem_cons_of_mem _ (List.mem_cons_self))))
  have b1 := rl_lf (x := 4294967295) (y := ρ.2.1 60033) (hF.2 _ (List.mem_cons_of_mem _ (List.mem_cons_of_mem _ (List.mem_cons_of_mem _ (List.mem_cons_self)))))
  have y0 : (0 : Int64).toInt = 0 := rfl
  have y1 : (4294967295 : Int64).toInt = 4294967295 := by decide +kernel
  rw [y0] at b0
  rw [y1] at b1
  have he : ((0 : Int32)).toInt = if evs 12 (ρ.2.1 60033).toInt = true then 1 else 0 := of_decide_eq_true (hF.2 _ (List.mem_cons_of_mem _ (List.mem_cons_of_mem _ (List.mem_cons_of_mem _ (List.mem_cons_of_mem _ (List.mem_cons_self))))))
  obtain ⟨i1, i2⟩ := mv_ix (X := X) (ρ := ρ) b0 b1
  have ha : (ρ.1 60160).toInt = aslot (sd X ρ (.op1 .l2i (.op2 .land (.op2 .lshr (.arg 60033) (.int 16)) (.long 65535)))).1.toInt (sd X ρ (.op1 .l2i (.op2 .land (.op2 .lshr (.arg 60033) (.int 8)) (.long 255)))).1.toInt := of_decide_eq_true (hF.2 _ (List.mem_cons_self))
  have hn := hF.2 _ (List.mem_cons_of_mem _ (List.mem_cons_self))
  have hn : (List.range 156).all (fun p => !(amok (Int32.ofInt (512 : Int32).toInt) (ρ.2.1 60033).toInt p)) = true := hn
  rcases as_cases ha with h | h | ⟨p, hp, hq, hb⟩
  · exact t_mp120ei hv ρ k1 ⟨hF.1, fcn (di_et (x := ρ.1 60160) (y := -1) h) hF.2⟩ hI k4
  · exact t_mp120es hv ρ k1 ⟨hF.1, fcn (di_et (x := ρ.1 60160) (y := -2) h) hF.2⟩ hI k4
  · have t := List.all_eq_true.mp mk_t p (List.mem_range.mpr hp)
    simp only [Bool.and_eq_true, decide_eq_true_eq] at t
    have n := List.all_eq_true.mp hn p (List.mem_range.mpr hp)
    have kk : (pt_BOOK.getD (5 * p) 0).toInt = (ρ.2.1 60033).toInt / 256 := by
      have t1 := t.1
      have t2 := t.2.1
      rw [i1, i2] at hb
      have q1 : bkw.getD p 0 % 65536 = (ρ.2.1 60033).toInt / 65536 := by rw [hb]; omega
      have q2 : bkw.getD p 0 / 65536 = (ρ.2.1 60033).toInt / 256 % 256 := by rw [hb]; omega
      have q3 : (ρ.2.1 60033).toInt / 256 / 256 = (ρ.2.1 60033).toInt / 65536 := by omega
      clear hb
      omega
    have ff : pt_BOOK.getD (5 * p + 1) 0 &&& 512 = 0 := by
      have e : amok (Int32.ofInt (512 : Int32).toInt) (ρ.2.1 60033).toInt p = false := by simpa using n
      unfold amok at e
      rw [decide_eq_true kk, Int32.ofInt_toInt, Bool.true_and] at e
      simpa using e
    have g := of_decide_eq_true (List.all_eq_true.mp mg_12 p (List.mem_range.mpr hp))
    have m1 := op_tab k1 hp (s := 60160) rfl hq
    exact t_mp120ee hv ρ k1 ⟨hF.1, fcn (di_lf (x := ρ.1 60160) (y := 0) (show (0 : Int) ≤ _ by omega)) (fcn (di_lf (x := 155) (y := ρ.1 60160) (show _ ≤ (155 : Int) by omega)) (fcn (decide_eq_true (show ρ.2.2.1 106 (ρ.1 60160).toNatClampNeg &&& 16 = 0 by rw [m1.2.2.2.2, g]; exact ff)) hF.2))⟩ hI k4
noncomputable def q_mp120x1 : sCut := ((fr 0 221 25 [(0, .arg 60033), (2, .int 512), (3, .int 1)] [], [fBot], 5), (fr 0 271 0 [(0, tr 219), (1, .int 12), (2, .arg 60033)] [], [fBot], 5), [((6, .long 1048832, .op2 .lushr (.arg 60033) (.int 8)), true), ((6, .op2 .land (.arg 60033) (.long 255), .long 8), false), ((6, .long 8, .op2 .land (.arg 60033) (.long 255)), false), ((109, .add (.op1 .l2i (.op2 .land (.op2 .lshr (.arg 60033) (.int 16)) (.long 65535))) (.op1 .l2i (.op2 .land (.op2 .lshr (.arg 60033) (.int 8)) (.long 255))), .int 1), true), ((2, .op1 .l2i (.op2 .land (.op2 .lshr (.arg 60033) (.int 16)) (.long 65535)), .int 0), false), ((2, .int 65535, .op1 .l2i (.op2 .land (.op2 .lshr (.arg 60033) (.int 16)) (.long 65535))), false), ((8, .arg 60033, .long 0), false), ((8, .long 4294967295, .arg 60033), false), ((131, .add (.int 12) (.arg 60033), .int 0), true), ((6, .arg 60033, .long 0), false)], [])
theorem k_mp120x1 : cbody kR [(zWP, c_fndl)] (cpl1 zWP c_mp120 []) (cpl2 zWP c_mp120 []) (cleaf kR zWP c_mp120 []) 300 true true q_mp120x1.2.2.1 q_mp120x1.2.2.2 (cst zWP c_mp120.2.2.1.1 q_mp120x1.1) (cst zWP c_mp120.2.2.1.2 q_mp120x1.2.1) = true := by decide +kernel
theorem t_mp120x1 {X : pX} {ρ0 : sR} (hv : vok X ρ0) : CUTOK X kR zWP c_mp120 5 ρ0 q_mp120x1 := CUT_run kR_x kR_0 (Cs := [(zWP, c_fndl)]) (fun C hC => by rw [List.mem_singleton.mp hC]; exact s_fndl) c_mp120_f (Q := []) hv (fun q hq => by cases hq) 300 (b1 := true) (b2 := true) k_mp120x1
noncomputable def q_mp120x114 : sCut := ((fr 0 221 25 [(0, .arg 60033), (2, .int 512), (3, .int 114)] [], [fBot], 5), (fr 0 271 0 [(0, tr 219), (1, .int 12), (2, .arg 60033)] [], [fBot], 5), [((6, .long 6307584, .op2 .lushr (.arg 60033) (.int 8)), true), ((6, .op2 .land (.arg 60033) (.long 255), .long 16), false), ((6, .long 16, .op2 .land (.arg 60033) (.long 255)), false), ((109, .add (.op1 .l2i (.op2 .land (.op2 .lshr (.arg 60033) (.int 16)) (.long 65535))) (.op1 .l2i (.op2 .land (.op2 .lshr (.arg 60033) (.int 8)) (.long 255))), .int 114), true), ((2, .op1 .l2i (.op2 .land (.op2 .lshr (.arg 60033) (.int 16)) (.long 65535)), .int 0), false), ((2, .int 65535, .op1 .l2i (.op2 .land (.op2 .lshr (.arg 60033) (.int 16)) (.long 65535))), false), ((8, .arg 60033, .long 0), false), ((8, .long 4294967295, .arg 60033), false), ((131, .add (.int 12) (.arg 60033), .int 0), true), ((6, .arg 60033, .long 0), false)], [])
theorem k_mp120x114 : cbody kR [(zWP, c_fndl)] (cpl1 zWP c_mp120 []) (cpl2 zWP c_mp120 []) (cleaf kR zWP c_mp120 []) 300 true true q_mp120x114.2.2.1 q_mp120x114.2.2.2 (cst zWP c_mp120.2.2.1.1 q_mp120x114.1) (cst zWP c_mp120.2.2.1.2 q_mp120x114.2.1) = true := by decide +kernel
theorem t_mp120x114 {X : pX} {ρ0 : sR} (hv : vok X ρ0) : CUTOK X kR zWP c_mp120 5 ρ0 q_mp120x114 := CUT_run kR_x kR_0 (Cs := [(zWP, c_fndl)]) (fun C hC => by rw [List.mem_singleton.mp hC]; exact s_fndl) c_mp120_f (Q := []) hv (fun q hq => by cases hq) 300 (b1 := true) (b2 := true) k_mp120x114
noncomputable def q_mp120x116 : sCut := ((fr 0 221 25 [(0, .arg 60033), (2, .int 512), (3, .int 116)] [], [fBot], 5), (fr 0 271 0 [(0, tr 219), (1, .int 12), (2, .arg 60033)] [], [fBot], 5), [((6, .long 6308096, .op2 .lushr (.arg 60033) (.int 8)), true), ((6, .op2 .land (.arg 60033) (.long 255), .long 16), false), ((6, .long 16, .op2 .land (.arg 60033) (.long 255)), false), ((109, .add (.op1 .l2i (.op2 .land (.op2 .lshr (.arg 60033) (.int 16)) (.long 65535))) (.op1 .l2i (.op2 .land (.op2 .lshr (.arg 60033) (.int 8)) (.long 255))), .int 116), true), ((2, .op1 .l2i (.op2 .land (.op2 .lshr (.arg 60033) (.int 16)) (.long 65535)), .int 0), false), ((2, .int 65535, .op1 .l2i (.op2 .land (.op2 .lshr (.arg 60033) (.int 16)) (.long 65535))), false), ((8, .arg 60033, .long 0), false), ((8, .long 4294967295, .arg 60033), false), ((131, .add (.int 12) (.arg 60033), .int 0), true), ((6, .arg 60033, .long 0), false)], [])
theorem k_mp120x116 : cbody kR [(zWP, c_fndl)] (cpl1 zWP c_mp120 []) (cpl2 zWP c_mp120 []) (cleaf kR zWP c_mp120 []) 300 true true q_mp120x116.2.2.1 q_mp120x116.2.2.2 (cst zWP c_mp120.2.2.1.1 q_mp120x116.1) (cst zWP c_mp120.2.2.1.2 q_mp120x116.2.1) = true := by decide +kernel
theorem t_mp120x116 {X : pX} {ρ0 : sR} (hv : vok X ρ0) : CUTOK X kR zWP c_mp120 5 ρ0 q_mp120x116 := CUT_run kR_x kR_0 (Cs := [(zWP, c_fndl)]) (fun C hC => by rw [List.mem_singleton.mp hC]; exact s_fndl) c_mp120_f (Q := []) hv (fun q hq => by cases hq) 300 (b1 := true) (b2 := true) k_mp120x116
noncomputable def q_mp120x123 : sCut := ((fr 0 221 25 [(0, .arg 60033), (2, .int 512), (3, .int 123)] [], [fBot], 5), (fr 0 271 0 [(0, tr 219), (1, .int 12), (2, .arg 60033)] [], [fBot], 5), [((6, .long 6316288, .op2 .lushr (.arg 60033) (.int 8)), true), ((6, .op2 .land (.arg 60033) (.long 255), .long 8), false), ((6, .long 8, .op2 .land (.arg 60033) (.long 255)), false), ((109, .add (.op1 .l2i (.op2 .land (.op2 .lshr (.arg 60033) (.int 16)) (.long 65535))) (.op1 .l2i (.op2 .land (.op2 .lshr (.arg 60033) (.int 8)) (.long 255))), .int 123), true), ((2, .op1 .l2i (.op2 .land (.op2 .lshr (.arg 60033) (.int 16)) (.long 65535)), .int 0), false), ((2, .int 65535, .op1 .l2i (.op2 .land (.op2 .lshr (.arg 60033) (.int 16)) (.long 65535))), false), ((8, .arg 60033, .long 0), false), ((8, .long 4294967295, .arg 60033), false), ((131, .add (.int 12) (.arg 60033), .int 0), true), ((6, .arg 60033, .long 0), false)], [])
theorem k_mp120x123 : cbody kR [(zWP, c_fndl)] (cpl1 zWP c_mp120 []) (cpl2 zWP c_mp120 []) (cleaf kR zWP c_mp120 []) 300 true true q_mp120x123.2.2.1 q_mp120x123.2.2.2 (cst zWP c_mp120.2.2.1.1 q_mp120x123.1) (cst zWP c_mp120.2.2.1.2 q_mp120x123.2.1) = true := by decide +kernel
theorem t_mp120x123 {X : pX} {ρ0 : sR} (hv : vok X ρ0) : CUTOK X kR zWP c_mp120 5 ρ0 q_mp120x123 := CUT_run kR_x kR_0 (Cs := [(zWP, c_fndl)]) (fun C hC => by rw [List.mem_singleton.mp hC]; exact s_fndl) c_mp120_f (Q := []) hv (fun q hq => by cases hq) 300 (b1 := true) (b2 := true) k_mp120x123
noncomputable def q_mp120x124 : sCut := ((fr 0 221 25 [(0, .arg 60033), (2, .int 512), (3, .int 124)] [], [fBot], 5), (fr 0 271 0 [(0, tr 219), (1, .int 12), (2, .arg 60033)] [], [fBot], 5), [((6, .long 6316544, .op2 .lushr (.arg 60033) (.int 8)), true), ((6, .op2 .land (.arg 60033) (.long 255), .long 32), false), ((6, .long 32, .op2 .land (.arg 60033) (.long 255)), false), ((109, .add (.op1 .l2i (.op2 .land (.op2 .lshr (.arg 60033) (.int 16)) (.long 65535))) (.op1 .l2i (.op2 .land (.op2 .lshr (.arg 60033) (.int 8)) (.long 255))), .int 124), true), ((2, .op1 .l2i (.op2 .land (.op2 .lshr (.arg 60033) (.int 16)) (.long 65535)), .int 0), false), ((2, .int 65535, .op1 .l2i (.op2 .land (.op2 .lshr (.arg 60033) (.int 16)) (.long 65535))), false), ((8, .arg 60033, .long 0), false), ((8, .long 4294967295, .arg 60033), false), ((131, .add (.int 12) (.arg 60033), .int 0), true), ((6, .arg 60033, .long 0), false)], [])
theorem k_mp120x124 : cbody kR [(zWP, c_fndl)] (cpl1 zWP c_mp120 []) (cpl2 zWP c_mp120 []) (cleaf kR zWP c_mp120 []) 300 true true q_mp120x124.2.2.1 q_mp120x124.2.2.2 (cst zWP c_mp120.2.2.1.1 q_mp120x124.1) (cst zWP c_mp120.2.2.1.2 q_mp120x124.2.1) = true := by decide +kernel
theorem t_mp120x124 {X : pX} {ρ0 : sR} (hv : vok X ρ0) : CUTOK X kR zWP c_mp120 5 ρ0 q_mp120x124 := CUT_run kR_x kR_0 (Cs := [(zWP, c_fndl)]) (fun C hC => by rw [List.mem_singleton.mp hC]; exact s_fndl) c_mp120_f (Q := []) hv (fun q hq => by cases hq) 300 (b1 := true) (b2 := true) k_mp120x124
noncomputable def q_mp120x125 : sCut := ((fr 0 221 25 [(0, .arg 60033), (2, .int 512), (3, .int 125)] [], [fBot], 5), (fr 0 271 0 [(0, tr 219), (1, .int 12), (2, .arg 60033)] [], [fBot], 5), [((6, .long 6317056, .op2 .lushr (.arg 60033) (.int 8)), true), ((6, .op2 .land (.arg 60033) (.long 255), .long 32), false), ((6, .long 32, .op2 .land (.arg 60033) (.long 255)), false), ((109, .add (.op1 .l2i (.op2 .land (.op2 .lshr (.arg 60033) (.int 16)) (.long 65535))) (.op1 .l2i (.op2 .land (.op2 .lshr (.arg 60033) (.int 8)) (.long 255))), .int 125), true), ((2, .op1 .l2i (.op2 .land (.op2 .lshr (.arg 60033) (.int 16)) (.long 65535)), .int 0), false), ((2, .int 65535, .op1 .l2i (.op2 .land (.op2 .lshr (.arg 60033) (.int 16)) (.long 65535))), false), ((8, .arg 60033, .long 0), false), ((8, .long 4294967295, .arg 60033), false), ((131, .add (.int 12) (.arg 60033), .int 0), true), ((6, .arg 60033, .long 0), false)], [])
theorem k_mp120x125 : cbody kR [(zWP, c_fndl)] (cpl1 zWP c_mp120 []) (cpl2 zWP c_mp120 []) (cleaf kR zWP c_mp120 []) 300 true true q_mp120x125.2.2.1 q_mp120x125.2.2.2 (cst zWP c_mp120.2.2.1.1 q_mp120x125.1) (cst zWP c_mp120.2.2.1.2 q_mp120x125.2.1) = true := by decide +kernel
theorem t_mp120x125 {X : pX} {ρ0 : sR} (hv : vok X ρ0) : CUTOK X kR zWP c_mp120 5 ρ0 q_mp120x125 := CUT_run kR_x kR_0 (Cs := [(zWP, c_fndl)]) (fun C hC => by rw [List.mem_singleton.mp hC]; exact s_fndl) c_mp120_f (Q := []) hv (fun q hq => by cases hq) 300 (b1 := true) (b2 := true) k_mp120x125
noncomputable def q_mp120x130 : sCut := ((fr 0 221 25 [(0, .arg 60033), (2, .int 512), (3, .int 130)] [], [fBot], 5), (fr 0 271 0 [(0, tr 219), (1, .int 12), (2, .arg 60033)] [], [fBot], 5), [((6, .long 6318848, .op2 .lushr (.arg 60033) (.int 8)), true), ((6, .op2 .land (.arg 60033) (.long 255), .long 32), false), ((6, .long 32, .op2 .land (.arg 60033) (.long 255)), false), ((109, .add (.op1 .l2i (.op2 .land (.op2 .lshr (.arg 60033) (.int 16)) (.long 65535))) (.op1 .l2i (.op2 .land (.op2 .lshr (.arg 60033) (.int 8)) (.long 255))), .int 130), true), ((2, .op1 .l2i (.op2 .land (.op2 .lshr (.arg 60033) (.int 16)) (.long 65535)), .int 0), false), ((2, .int 65535, .op1 .l2i (.op2 .land (.op2 .lshr (.arg 60033) (.int 16)) (.long 65535))), false), ((8, .arg 60033, .long 0), false), ((8, .long 4294967295, .arg 60033), false), ((131, .add (.int 12) (.arg 60033), .int 0), true), ((6, .arg 60033, .long 0), false)], [])
theorem k_mp120x130 : cbody kR [(zWP, c_fndl)] (cpl1 zWP c_mp120 []) (cpl2 zWP c_mp120 []) (cleaf kR zWP c_mp120 []) 300 true true q_mp120x130.2.2.1 q_mp120x130.2.2.2 (cst zWP c_mp120.2.2.1.1 q_mp120x130.1) (cst zWP c_mp120.2.2.1.2 q_mp120x130.2.1) = true := by decide +kernel
theorem t_mp120x130 {X : pX} {ρ0 : sR} (hv : vok X ρ0) : CUTOK X kR zWP c_mp120 5 ρ0 q_mp120x130 := CUT_run kR_x kR_0 (Cs := [(zWP, c_fndl)]) (fun C hC => by rw [List.mem_singleton.mp hC]; exact s_fndl) c_mp120_f (Q := []) hv (fun q hq => by cases hq) 300 (b1 := true) (b2 := true) k_mp120x130
noncomputable def q_mp120x131 : sCut := ((fr 0 221 25 [(0, .arg 60033), (2, .int 512), (3, .int 131)] [], [fBot], 5), (fr 0 271 0 [(0, tr 219), (1, .int 12), (2, .arg 60033)] [], [fBot], 5), [((6, .long 6319104, .op2 .lushr (.arg 60033) (.int 8)), true), ((6, .op2 .land (.arg 60033) (.long 255), .long 32), false), ((6, .long 32, .op2 .land (.arg 60033) (.long 255)), false), ((109, .add (.op1 .l2i (.op2 .land (.op2 .lshr (.arg 60033) (.int 16)) (.long 65535))) (.op1 .l2i (.op2 .land (.op2 .lshr (.arg 60033) (.int 8)) (.long 255))), .int 131), true), ((2, .op1 .l2i (.op2 .land (.op2 .lshr (.arg 60033) (.int 16)) (.long 65535)), .int 0), false), ((2, .int 65535, .op1 .l2i (.op2 .land (.op2 .lshr (.arg 60033) (.int 16)) (.long 65535))), false), ((8, .arg 60033, .long 0), false), ((8, .long 4294967295, .arg 60033), false), ((131, .add (.int 12) (.arg 60033), .int 0), true), ((6, .arg 60033, .long 0), false)], [])
theorem k_mp120x131 : cbody kR [(zWP, c_fndl)] (cpl1 zWP c_mp120 []) (cpl2 zWP c_mp120 []) (cleaf kR zWP c_mp120 []) 300 true true q_mp120x131.2.2.1 q_mp120x131.2.2.2 (cst zWP c_mp120.2.2.1.1 q_mp120x131.1) (cst zWP c_mp120.2.2.1.2 q_mp120x131.2.1) = true := by decide +kernel
theorem t_mp120x131 {X : pX} {ρ0 : sR} (hv : vok X ρ0) : CUTOK X kR zWP c_mp120 5 ρ0 q_mp120x131 := CUT_run kR_x kR_0 (Cs := [(zWP, c_fndl)]) (fun C hC => by rw [List.mem_singleton.mp hC]; exact s_fndl) c_mp120_f (Q := []) hv (fun q hq => by cases hq) 300 (b1 := true) (b2 := true) k_mp120x131
noncomputable def q_mp120x148 : sCut := ((fr 0 221 25 [(0, .arg 60033), (2, .int 512), (3, .int 148)] [], [fBot], 5), (fr 0 271 0 [(0, tr 219), (1, .int 12), (2, .arg 60033)] [], [fBot], 5), [((6, .long 6338816, .op2 .lushr (.arg 60033) (.int 8)), true), ((6, .op2 .land (.arg 60033) (.long 255), .long 16), false), ((6, .long 16, .op2 .land (.arg 60033) (.long 255)), false), ((109, .add (.op1 .l2i (.op2 .land (.op2 .lshr (.arg 60033) (.int 16)) (.long 65535))) (.op1 .l2i (.op2 .land (.op2 .lshr (.arg 60033) (.int 8)) (.long 255))), .int 148), true), ((2, .op1 .l2i (.op2 .land (.op2 .lshr (.arg 60033) (.int 16)) (.long 65535)), .int 0), false), ((2, .int 65535, .op1 .l2i (.op2 .land (.op2 .lshr (.arg 60033) (.int 16)) (.long 65535))), false), ((8, .arg 60033, .long 0), false), ((8, .long 4294967295, .arg 60033), false), ((131, .add (.int 12) (.arg 60033), .int 0), true), ((6, .arg 60033, .long 0), false)], [])
theorem k_mp120x148 : cbody kR [(zWP, c_fndl)] (cpl1 zWP c_mp120 []) (cpl2 zWP c_mp120 []) (cleaf kR zWP c_mp120 []) 300 true true q_mp120x148.2.2.1 q_mp120x148.2.2.2 (cst zWP c_mp120.2.2.1.1 q_mp120x148.1) (cst zWP c_mp120.2.2.1.2 q_mp120x148.2.1) = true := by decide +kernel
theorem t_mp120x148 {X : pX} {ρ0 : sR} (hv : vok X ρ0) : CUTOK X kR zWP c_mp120 5 ρ0 q_mp120x148 := CUT_run kR_x kR_0 (Cs := [(zWP, c_fndl)]) (fun C hC => by rw [List.mem_singleton.mp hC]; exact s_fndl) c_mp120_f (Q := []) hv (fun q hq => by cases hq) 300 (b1 := true) (b2 := true) k_mp120x148
noncomputable def q_mp120x149 : sCut := ((fr 0 221 25 [(0, .arg 60033), (2, .int 512), (3, .int 149)] [], [fBot], 5), (fr 0 271 0 [(0, tr 219), (1, .int 12), (2, .arg 60033)] [], [fBot], 5), [((6, .long 6339072, .op2 .lushr (.arg 60033) (.int 8)), true), ((6, .op2 .land (.arg 60033) (.long 255), .long 32), false), ((6, .long 32, .op2 .land (.arg 60033) (.long 255)), false), ((109, .add (.op1 .l2i (.op2 .land (.op2 .lshr (.arg 60033) (.int 16)) (.long 65535))) (.op1 .l2i (.op2 .land (.op2 .lshr (.arg 60033) (.int 8)) (.long 255))), .int 149), true), ((2, .op1 .l2i (.op2 .land (.op2 .lshr (.arg 60033) (.int 16)) (.long 65535)), .int 0), false), ((2, .int 65535, .op1 .l2i (.op2 .land (.op2 .lshr (.arg 60033) (.int 16)) (.long 65535))), false), ((8, .arg 60033, .long 0), false), ((8, .long 4294967295, .arg 60033), false), ((131, .add (.int 12) (.arg 60033), .int 0), true), ((6, .arg 60033, .long 0), false)], [])
theorem k_mp120x149 : cbody kR [(zWP, c_fndl)] (cpl1 zWP c_mp120 []) (cpl2 zWP c_mp120 []) (cleaf kR zWP c_mp120 []) 300 true true q_mp120x149.2.2.1 q_mp120x149.2.2.2 (cst zWP c_mp120.2.2.1.1 q_mp120x149.1) (cst zWP c_mp120.2.2.1.2 q_mp120x149.2.1) = true := by decide +kernel
theorem t_mp120x149 {X : pX} {ρ0 : sR} (hv : vok X ρ0) : CUTOK X kR zWP c_mp120 5 ρ0 q_mp120x149 := CUT_run kR_x kR_0 (Cs := [(zWP, c_fndl)]) (fun C hC => by rw [List.mem_singleton.mp hC]; exact s_fndl) c_mp120_f (Q := []) hv (fun q hq => by cases hq) 300 (b1 := true) (b2 := true) k_mp120x149
noncomputable def q_mp120x150 : sCut := ((fr 0 221 25 [(0, .arg 60033), (2, .int 512), (3, .int 150)] [], [fBot], 5), (fr 0 271 0 [(0, tr 219), (1, .int 12), (2, .arg 60033)] [], [fBot], 5), [((6, .long 6339328, .op2 .lushr (.arg 60033) (.int 8)), true), ((6, .op2 .land (.arg 60033) (.long 255), .long 32), false), ((6, .long 32, .op2 .land (.arg 60033) (.long 255)), false), ((109, .add (.op1 .l2i (.op2 .land (.op2 .lshr (.arg 60033) (.int 16)) (.long 65535))) (.op1 .l2i (.op2 .land (.op2 .lshr (.arg 60033) (.int 8)) (.long 255))), .int 150), true), ((2, .op1 .l2i (.op2 .land (.op2 .lshr (.arg 60033) (.int 16)) (.long 65535)), .int 0), false), ((2, .int 65535, .op1 .l2i (.op2 .land (.op2 .lshr (.arg 60033) (.int 16)) (.long 65535))), false), ((8, .arg 60033, .long 0), false), ((8, .long 4294967295, .arg 60033), false), ((131, .add (.int 12) (.arg 60033), .int 0), true), ((6, .arg 60033, .long 0), false)], [])
theorem k_mp120x150 : cbody kR [(zWP, c_fndl)] (cpl1 zWP c_mp120 []) (cpl2 zWP c_mp120 []) (cleaf kR zWP c_mp120 []) 300 true true q_mp120x150.2.2.1 q_mp120x150.2.2.2 (cst zWP c_mp120.2.2.1.1 q_mp120x150.1) (cst zWP c_mp120.2.2.1.2 q_mp120x150.2.1) = true := by decide +kernel
theorem t_mp120x150 {X : pX} {ρ0 : sR} (hv : vok X ρ0) : CUTOK X kR zWP c_mp120 5 ρ0 q_mp120x150 := CUT_run kR_x kR_0 (Cs := [(zWP, c_fndl)]) (fun C hC => by rw [List.mem_singleton.mp hC]; exact s_fndl) c_mp120_f (Q := []) hv (fun q hq => by cases hq) 300 (b1 := true) (b2 := true) k_mp120x150
noncomputable def q_mp120x151 : sCut := ((fr 0 221 25 [(0, .arg 60033), (2, .int 512), (3, .int 151)] [], [fBot], 5), (fr 0 271 0 [(0, tr 219), (1, .int 12), (2, .arg 60033)] [], [fBot], 5), [((6, .long 6356224, .op2 .lushr (.arg 60033) (.int 8)), true), ((6, .op2 .land (.arg 60033) (.long 255), .long 32), false), ((6, .long 32, .op2 .land (.arg 60033) (.long 255)), false), ((109, .add (.op1 .l2i (.op2 .land (.op2 .lshr (.arg 60033) (.int 16)) (.long 65535))) (.op1 .l2i (.op2 .land (.op2 .lshr (.arg 60033) (.int 8)) (.long 255))), .int 151), true), ((2, .op1 .l2i (.op2 .land (.op2 .lshr (.arg 60033) (.int 16)) (.long 65535)), .int 0), false), ((2, .int 65535, .op1 .l2i (.op2 .land (.op2 .lshr (.arg 60033) (.int 16)) (.long 65535))), false), ((8, .arg 60033, .long 0), false), ((8, .long 4294967295, .arg 60033), false), ((131, .add (.int 12) (.arg 60033), .int 0), true), ((6, .arg 60033, .long 0), false)], [])
theorem k_mp120x151 : cbody kR [(zWP, c_fndl)] (cpl1 zWP c_mp120 []) (cpl2 zWP c_mp120 []) (cleaf kR zWP c_mp120 []) 300 true true q_mp120x151.2.2.1 q_mp120x151.2.2.2 (cst zWP c_mp120.2.2.1.1 q_mp120x151.1) (cst zWP c_mp120.2.2.1.2 q_mp120x151.2.1) = true := by decide +kernel
theorem t_mp120x151 {X : pX} {ρ0 : sR} (hv : vok X ρ0) : CUTOK X kR zWP c_mp120 5 ρ0 q_mp120x151 := CUT_run kR_x kR_0 (Cs := [(zWP, c_fndl)]) (fun C hC => by rw [List.mem_singleton.mp hC]; exact s_fndl) c_mp120_f (Q := []) hv (fun q hq => by cases hq) 300 (b1 := true) (b2 := true) k_mp120x151
noncomputable def q_mp120L : sCut := ((fr 0 221 25 [(0, .arg 60033), (2, .int 512), (3, .arg 60064)] [], [fBot], 5), (fr 0 271 0 [(0, tr 219), (1, .int 12), (2, .arg 60033)] [], [fBot], 5), [((2, .arg 60064, .int 0), false), ((2, .int 156, .arg 60064), false), ((138, .add (.int 512) (.arg 60033), .arg 60064), true), ((8, .arg 60033, .long 0), false), ((8, .long 4294967295, .arg 60033), false), ((131, .add (.int 12) (.arg 60033), .int 0), true), ((6, .arg 60033, .long 0), false)], [])
noncomputable def q_mp120LL : sCut := ((fr 0 221 25 [(0, .arg 60033), (2, .int 512), (3, .arg 60064)] [], [fBot], 5), (fr 0 271 0 [(0, tr 219), (1, .int 12), (2, .arg 60033)] [], [fBot], 5), [((2, .sub (.int 156) (.arg 60064), .arg 64032), true), ((2, .arg 60064, .int 0), false), ((2, .int 156, .arg 60064), false), ((138, .add (.int 512) (.arg 60033), .arg 60064), true), ((8, .arg 60033, .long 0), false), ((8, .long 4294967295, .arg 60033), false), ((131, .add (.int 12) (.arg 60033), .int 0), true), ((6, .arg 60033, .long 0), false)], [])
noncomputable def q_mp120LE : sCut := ((fr 0 221 25 [(0, .arg 60033), (2, .int 512), (3, .arg 60064)] [], [fBot], 5), (fr 0 271 0 [(0, tr 219), (1, .int 12), (2, .arg 60033)] [], [fBot], 5), [((0, .sub (.int 156) (.arg 60064), .arg 64032), true), ((2, .arg 60064, .int 0), false), ((2, .int 156, .arg 60064), false), ((138, .add (.int 512) (.arg 60033), .arg 60064), true), ((8, .arg 60033, .long 0), false), ((8, .long 4294967295, .arg 60033), false), ((131, .add (.int 12) (.arg 60033), .int 0), true), ((6, .arg 60033, .long 0), false)], [])
noncomputable def q_mp120LEk : sCut := ((fr 0 221 25 [(0, .arg 60033), (2, .int 512), (3, .arg 60064)] [], [fBot], 5), (fr 0 271 0 [(0, tr 219), (1, .int 12), (2, .arg 60033)] [], [fBot], 5), [((6, .op1 .i2l (.elem (.string "" 1) (.mul (.arg 60064) (.int 5))), .op2 .lushr (.arg 60033) (.int 8)), false), ((2, .arg 60064, .int 156), true), ((2, .sub (.int 156) (.add (.arg 60064) (.int 1)), .arg 64032), true), ((2, .add (.arg 60064) (.int 1), .int 0), false), ((2, .int 156, .add (.arg 60064) (.int 1)), false), ((138, .add (.int 512) (.arg 60033), .add (.arg 60064) (.int 1)), true), ((0, .sub (.int 156) (.arg 60064), .arg 64032), true), ((2, .arg 60064, .int 0), false), ((2, .int 156, .arg 60064), false), ((138, .add (.int 512) (.arg 60033), .arg 60064), true), ((8, .arg 60033, .long 0), false), ((8, .long 4294967295, .arg 60033), false), ((131, .add (.int 12) (.arg 60033), .int 0), true), ((6, .arg 60033, .long 0), false)], [])
theorem k_mp120LEk : cbody kR [] (cpl1 zWP c_mp120 [q_mp120LL]) (cpl2 zWP c_mp120 [q_mp120LL]) (cleaf kR zWP c_mp120 [q_mp120LL]) 60 true false q_mp120LEk.2.2.1 q_mp120LEk.2.2.2 (cst zWP c_mp120.2.2.1.1 q_mp120LEk.1) (cst zWP c_mp120.2.2.1.2 q_mp120LEk.2.1) = true := by decide +kernel
theorem t_mp120LEk {X : pX} {ρ0 : sR} (hv : vok X ρ0) (hk_ : CUTOK X kR zWP c_mp120 5 ρ0 q_mp120LL) : CUTOK X kR zWP c_mp120 5 ρ0 q_mp120LEk := CUT_run kR_x kR_0 (Cs := []) (fun C hC => by cases hC) c_mp120_f (Q := [q_mp120LL]) hv (fun q hq => by
    simp only [List.mem_cons, List.not_mem_nil, or_false] at hq
    rw [hq]; exact hk_) 60 (b1 := true) (b2 := false) k_mp120LEk
noncomputable def q_mp120LEf : sCut := ((fr 0 221 25 [(0, .arg 60033), (2, .int 512), (3, .arg 60064)] [], [fBot], 5), (fr 0 271 0 [(0, tr 219), (1, .int 12), (2, .arg 60033)] [], [fBot], 5), [((6, .op1 .i2l (.elem (.string "" 1) (.mul (.arg 60064) (.int 5))), .op2 .lushr (.arg 60033) (.int 8)), true), ((0, .op2 .iand (.elem (.string "" 1) (.add (.mul (.arg 60064) (.int 5)) (.int 1))) (.int 512), .int 0), true), ((2, .arg 60064, .int 156), true), ((2, .sub (.int 156) (.add (.arg 60064) (.int 1)), .arg 64032), true), ((2, .add (.arg 60064) (.int 1), .int 0), false), ((2, .int 156, .add (.arg 60064) (.int 1)), false), ((138, .add (.int 512) (.arg 60033), .add (.arg 60064) (.int 1)), true), ((0, .sub (.int 156) (.arg 60064), .arg 64032), true), ((2, .arg 60064, .int 0), false), ((2, .int 156, .arg 60064), false), ((138, .add (.int 512) (.arg 60033), .arg 60064), true), ((8, .arg 60033, .long 0), false), ((8, .long 4294967295, .arg 60033), false), ((131, .add (.int 12) (.arg 60033), .int 0), true), ((6, .arg 60033, .long 0), false)], [])
theorem k_mp120LEf : cbody kR [] (cpl1 zWP c_mp120 [q_mp120LL]) (cpl2 zWP c_mp120 [q_mp120LL]) (cleaf kR zWP c_mp120 [q_mp120LL]) 60 true false q_mp120LEf.2.2.1 q_mp120LEf.2.2.2 (cst zWP c_mp120.2.2.1.1 q_mp120LEf.1) (cst zWP c_mp120.2.2.1.2 q_mp120LEf.2.1) = true := by decide +kernel
theorem t_mp120LEf {X : pX} {ρ0 : sR} (hv : vok X ρ0) (hk_ : CUTOK X kR zWP c_mp120 5 ρ0 q_mp120LL) : CUTOK X kR zWP c_mp120 5 ρ0 q_mp120LEf := CUT_run kR_x kR_0 (Cs := []) (fun C hC => by cases hC) c_mp120_f (Q := [q_mp120LL]) hv (fun q hq => by
    simp only [List.mem_cons, List.not_mem_nil, or_false] at hq
    rw [hq]; exact hk_) 60 (b1 := true) (b2 := false) k_mp120LEf
noncomputable def q_mp120LEp1 : sCut := ((fr 0 221 25 [(0, .arg 60033), (2, .int 512), (3, .arg 60064)] [], [fBot], 5), (fr 0 271 0 [(0, tr 219), (1, .int 12), (2, .arg 60033)] [], [fBot], 5), [((0, .arg 60064, .int 1), true), ((6, .long 1048832, .op2 .lushr (.arg 60033) (.int 8)), true), ((6, .op2 .land (.arg 60033) (.long 255), .long 8), false), ((6, .long 8, .op2 .land (.arg 60033) (.long 255)), false), ((109, .add (.op1 .l2i (.op2 .land (.op2 .lshr (.arg 60033) (.int 16)) (.long 65535))) (.op1 .l2i (.op2 .land (.op2 .lshr (.arg 60033) (.int 8)) (.long 255))), .int 1), true), ((2, .op1 .l2i (.op2 .land (.op2 .lshr (.arg 60033) (.int 16)) (.long 65535)), .int 0), false), ((2, .int 65535, .op1 .l2i (.op2 .land (.op2 .lshr (.arg 60033) (.int 16)) (.long 65535))), false), ((0, .sub (.int 156) (.arg 60064), .arg 64032), true), ((2, .arg 60064, .int 0), false), ((2, .int 156, .arg 60064), false), ((138, .add (.int 512) (.arg 60033), .arg 60064), true), ((8, .arg 60033, .long 0), false), ((8, .long 4294967295, .arg 60033), false), ((131, .add (.int 12) (.arg 60033), .int 0), true), ((6, .arg 60033, .long 0), false)], [])
theorem k_mp120LEp1 : cbody kR [] (cpl1 zWP c_mp120 [q_mp120x1]) (cpl2 zWP c_mp120 [q_mp120x1]) (cleaf kR zWP c_mp120 [q_mp120x1]) 5 false false q_mp120LEp1.2.2.1 q_mp120LEp1.2.2.2 (cst zWP c_mp120.2.2.1.1 q_mp120LEp1.1) (cst zWP c_mp120.2.2.1.2 q_mp120LEp1.2.1) = true := by decide +kernel
theorem t_mp120LEp1 {X : pX} {ρ0 : sR} (hv : vok X ρ0) (hk_ : CUTOK X kR zWP c_mp120 5 ρ0 q_mp120LL) : CUTOK X kR zWP c_mp120 5 ρ0 q_mp120LEp1 := CUT_run kR_x kR_0 (Cs := []) (fun C hC => by cases hC) c_mp120_f (Q := [q_mp120x1]) hv (fun q hq => by
    simp only [List.mem_cons, List.not_mem_nil, or_false] at hq
    rw [hq]; exact t_mp120x1 hv) 5 (b1 := false) (b2 := false) k_mp120LEp1
noncomputable def q_mp120LEp114 : sCut := ((fr 0 221 25 [(0, .arg 60033), (2, .int 512), (3, .arg 60064)] [], [fBot], 5), (fr 0 271 0 [(0, tr 219), (1, .int 12), (2, .arg 60033)] [], [fBot], 5), [((0, .arg 60064, .int 114), true), ((6, .long 6307584, .op2 .lushr (.arg 60033) (.int 8)), true), ((6, .op2 .land (.arg 60033) (.long 255), .long 16), false), ((6, .long 16, .op2 .land (.arg 60033) (.long 255)), false), ((109, .add (.op1 .l2i (.op2 .land (.op2 .lshr (.arg 60033) (.int 16)) (.long 65535))) (.op1 .l2i (.op2 .land (.op2 .lshr (.arg 60033) (.int 8)) (.long 255))), .int 114), true), ((2, .op1 .l2i (.op2 .land (.op2 .lshr (.arg 60033) (.int 16)) (.long 65535)), .int 0), false), ((2, .int 65535, .op1 .l2i (.op2 .land (.op2 .lshr (.arg 60033) (.int 16)) (.long 65535))), false), ((0, .sub (.int 156) (.arg 60064), .arg 64032), true), ((2, .arg 60064, .int 0), false), ((2, .int 156, .arg 60064), false), ((138, .add (.int 512) (.arg 60033), .arg 60064), true), ((8, .arg 60033, .long 0), false), ((8, .long 4294967295, .arg 60033), false), ((131, .add (.int 12) (.arg 60033), .int 0), true), ((6, .arg 60033, .long 0), false)], [])
theorem k_mp120LEp114 : cbody kR [] (cpl1 zWP c_mp120 [q_mp120x114]) (cpl2 zWP c_mp120 [q_mp120x114]) (cleaf kR zWP c_mp120 [q_mp120x114]) 5 false false q_mp120LEp114.2.2.1 q_mp120LEp114.2.2.2 (cst zWP c_mp120.2.2.1.1 q_mp120LEp114.1) (cst zWP c_mp120.2.2.1.2 q_mp120LEp114.2.1) = true := by decide +kernel
theorem t_mp120LEp114 {X : pX} {ρ0 : sR} (hv : vok X ρ0) (hk_ : CUTOK X kR zWP c_mp120 5 ρ0 q_mp120LL) : CUTOK X kR zWP c_mp120 5 ρ0 q_mp120LEp114 := CUT_run kR_x kR_0 (Cs := []) (fun C hC => by cases hC) c_mp120_f (Q := [q_mp120x114]) hv (fun q hq => by
    simp only [List.mem_cons, List.not_mem_nil, or_false] at hq
    rw [hq]; exact t_mp120x114 hv) 5 (b1 := false) (b2 := false) k_mp120LEp114
noncomputable def q_mp120LEp116 : sCut := ((fr 0 221 25 [(0, .arg 60033), (2, .int 512), (3, .arg 60064)] [], [fBot], 5), (fr 0 271 0 [(0, tr 219), (1, .int 12), (2, .arg 60033)] [], [fBot], 5), [((0, .arg 60064, .int 116), true), ((6, .long 6308096, .op2 .lushr (.arg 60033) (.int 8)), true), ((6, .op2 .land (.arg 60033) (.long 255), .long 16), false), ((6, .long 16, .op2 .land (.arg 60033) (.long 255)), false), ((109, .add (.op1 .l2i (.op2 .land (.op2 .lshr (.arg 60033) (.int 16)) (.long 65535))) (.op1 .l2i (.op2 .land (.op2 .lshr (.arg 60033) (.int 8)) (.long 255))), .int 116), true), ((2, .op1 .l2i (.op2 .land (.op2 .lshr (.arg 60033) (.int 16)) (.long 65535)), .int 0), false), ((2, .int 65535, .op1 .l2i (.op2 .land (.op2 .lshr (.arg 60033) (.int 16)) (.long 65535))), false), ((0, .sub (.int 156) (.arg 60064), .arg 64032), true), ((2, .arg 60064, .int 0), false), ((2, .int 156, .arg 60064), false), ((138, .add (.int 512) (.arg 60033), .arg 60064), true), ((8, .arg 60033, .long 0), false), ((8, .long 4294967295, .arg 60033), false), ((131, .add (.int 12) (.arg 60033), .int 0), true), ((6, .arg 60033, .long 0), false)], [])
theorem k_mp120LEp116 : cbody kR [] (cpl1 zWP c_mp120 [q_mp120x116]) (cpl2 zWP c_mp120 [q_mp120x116]) (cleaf kR zWP c_mp120 [q_mp120x116]) 5 false false q_mp120LEp116.2.2.1 q_mp120LEp116.2.2.2 (cst zWP c_mp120.2.2.1.1 q_mp120LEp116.1) (cst zWP c_mp120.2.2.1.2 q_mp120LEp116.2.1) = true := by decide +kernel
theorem t_mp120LEp116 {X : pX} {ρ0 : sR} (hv : vok X ρ0) (hk_ : CUTOK X kR zWP c_mp120 5 ρ0 q_mp120LL) : CUTOK X kR zWP c_mp120 5 ρ0 q_mp120LEp116 := CUT_run kR_x kR_0 (Cs := []) (fun C hC => by cases hC) c_mp120_f (Q := [q_mp120x116]) hv (fun q hq => by
    simp only [List.mem_cons, List.not_mem_nil, or_false] at hq
    rw [hq]; exact t_mp120x116 hv) 5 (b1 := false) (b2 := false) k_mp120LEp116
noncomputable def q_mp120LEp123 : sCut := ((fr 0 221 25 [(0, .arg 60033), (2, .int 512), (3, .arg 60064)] [], [fBot], 5), (fr 0 271 0 [(0, tr 219), (1, .int 12), (2, .arg 60033)] [], [fBot], 5), [((0, .arg 60064, .int 123), true), ((6, .long 6316288, .op2 .lushr (.arg 60033) (.int 8)), true), ((6, .op2 .land (.arg 60033) (.long 255), .long 8), false), ((6, .long 8, .op2 .land (.arg 60033) (.long 255)), false), ((109, .add (.op1 .l2i (.op2 .land (.op2 .lshr (.arg 60033) (.int 16)) (.long 65535))) (.op1 .l2i (.op2 .land (.op2 .lshr (.arg 60033) (.int 8)) (.long 255))), .int 123), true), ((2, .op1 .l2i (.op2 .land (.op2 .lshr (.arg 60033) (.int 16)) (.long 65535)), .int 0), false), ((2, .int 65535, .op1 .l2i (.op2 .land (.op2 .lshr (.arg 60033) (.int 16)) (.long 65535))), false), ((0, .sub (.int 156) (.arg 60064), .arg 64032), true), ((2, .arg 60064, .int 0), false), ((2, .int 156, .arg 60064), false), ((138, .add (.int 512) (.arg 60033), .arg 60064), true), ((8, .arg 60033, .long 0), false), ((8, .long 4294967295, .arg 60033), false), ((131, .add (.int 12) (.arg 60033), .int 0), true), ((6, .arg 60033, .long 0), false)], [])
theorem k_mp120LEp123 : cbody kR [] (cpl1 zWP c_mp120 [q_mp120x123]) (cpl2 zWP c_mp120 [q_mp120x123]) (cleaf kR zWP c_mp120 [q_mp120x123]) 5 false false q_mp120LEp123.2.2.1 q_mp120LEp123.2.2.2 (cst zWP c_mp120.2.2.1.1 q_mp120LEp123.1) (cst zWP c_mp120.2.2.1.2 q_mp120LEp123.2.1) = true := by decide +kernel
theorem t_mp120LEp123 {X : pX} {ρ0 : sR} (hv : vok X ρ0) (hk_ : CUTOK X kR zWP c_mp120 5 ρ0 q_mp120LL) : CUTOK X kR zWP c_mp120 5 ρ0 q_mp120LEp123 := CUT_run kR_x kR_0 (Cs := []) (fun C hC => by cases hC) c_mp120_f (Q := [q_mp120x123]) hv (fun q hq => by
    simp only [List.mem_cons, List.not_mem_nil, or_false] at hq
    rw [hq]; exact t_mp120x123 hv) 5 (b1 := false) (b2 := false) k_mp120LEp123
noncomputable def q_mp120LEp124 : sCut := ((fr 0 221 25 [(0, .arg 60033), (2, .int 512), (3, .arg 60064)] [], [fBot], 5), (fr 0 271 0 [(0, tr 219), (1, .int 12), (2, .arg 60033)] [], [fBot], 5), [((0, .arg 60064, .int 124), true), ((6, .long 6316544, .op2 .lushr (.arg 60033) (.int 8)), true), ((6, .op2 .land (.arg 60033) (.long 255), .long 32), false), ((6, .long 32, .op2 .land (.arg 60033) (.long 255)), false), ((109, .add (.op1 .l2i (.op2 .land (.op2 .lshr (.arg 60033) (.int 16)) (.long 65535))) (.op1 .l2i (.op2 .land (.op2 .lshr (.arg 60033) (.int 8)) (.long 255))), .int 124), true), ((2, .op1 .l2i (.op2 .land (.op2 .lshr (.arg 60033) (.int 16)) (.long 65535)), .int 0), false), ((2, .int 65535, .op1 .l2i (.op2 .land (.op2 .lshr (.arg 60033) (.int 16)) (.long 65535))), false), ((0, .sub (.int 156) (.arg 60064), .arg 64032), true), ((2, .arg 60064, .int 0), false), ((2, .int 156, .arg 60064), false), ((138, .add (.int 512) (.arg 60033), .arg 60064), true), ((8, .arg 60033, .long 0), false), ((8, .long 4294967295, .arg 60033), false), ((131, .add (.int 12) (.arg 60033), .int 0), true), ((6, .arg 60033, .long 0), false)], [])
theorem k_mp120LEp124 : cbody kR [] (cpl1 zWP c_mp120 [q_mp120x124]) (cpl2 zWP c_mp120 [q_mp120x124]) (cleaf kR zWP c_mp120 [q_mp120x124]) 5 false false q_mp120LEp124.2.2.1 q_mp120LEp124.2.2.2 (cst zWP c_mp120.2.2.1.1 q_mp120LEp124.1) (cst zWP c_mp120.2.2.1.2 q_mp120LEp124.2.1) = true := by decide +kernel
theorem t_mp120LEp124 {X : pX} {ρ0 : sR} (hv : vok X ρ0) (hk_ : CUTOK X kR zWP c_mp120 5 ρ0 q_mp120LL) : CUTOK X kR zWP c_mp120 5 ρ0 q_mp120LEp124 := CUT_run kR_x kR_0 (Cs := []) (fun C hC => by cases hC) c_mp120_f (Q := [q_mp120x124]) hv (fun q hq => by
    simp only [List.mem_cons, List.not_mem_nil, or_false] at hq
    rw [hq]; exact t_mp120x124 hv) 5 (b1 := false) (b2 := false) k_mp120LEp124
noncomputable def q_mp120LEp125 : sCut := ((fr 0 221 25 [(0, .arg 60033), (2, .int 512), (3, .arg 60064)] [], [fBot], 5), (fr 0 271 0 [(0, tr 219), (1, .int 12), (2, .arg 60033)] [], [fBot], 5), [((0, .arg 60064, .int 125), true), ((6, .long 6317056, .op2 .lushr (.arg 60033) (.int 8)), true), ((6, .op2 .land (.arg 60033) (.long 255), .long 32), false), ((6, .long 32, .op2 .land (.arg 60033) (.long 255)), false), ((109, .add (.op1 .l2i (.op2 .land (.op2 .lshr (.arg 60033) (.int 16)) (.long 65535))) (.op1 .l2i (.op2 .land (.op2 .lshr (.arg 60033) (.int 8)) (.long 255))), .int 125), true), ((2, .op1 .l2i (.op2 .land (.op2 .lshr (.arg 60033) (.int 16)) (.long 65535)), .int 0), false), ((2, .int 65535, .op1 .l2i (.op2 .land (.op2 .lshr (.arg 60033) (.int 16)) (.long 65535))), false), ((0, .sub (.int 156) (.arg 60064), .arg 64032), true), ((2, .arg 60064, .int 0), false), ((2, .int 156, .arg 60064), false), ((138, .add (.int 512) (.arg 60033), .arg 60064), true), ((8, .arg 60033, .long 0), false), ((8, .long 4294967295, .arg 60033), false), ((131, .add (.int 12) (.arg 60033), .int 0), true), ((6, .arg 60033, .long 0), false)], [])
theorem k_mp120LEp125 : cbody kR [] (cpl1 zWP c_mp120 [q_mp120x125]) (cpl2 zWP c_mp120 [q_mp120x125]) (cleaf kR zWP c_mp120 [q_mp120x125]) 5 false false q_mp120LEp125.2.2.1 q_mp120LEp125.2.2.2 (cst zWP c_mp120.2.2.1.1 q_mp120LEp125.1) (cst zWP c_mp120.2.2.1.2 q_mp120LEp125.2.1) = true := by decide +kernel
theorem t_mp120LEp125 {X : pX} {ρ0 : sR} (hv : vok X ρ0) (hk_ : CUTOK X kR zWP c_mp120 5 ρ0 q_mp120LL) : CUTOK X kR zWP c_mp120 5 ρ0 q_mp120LEp125 := CUT_run kR_x kR_0 (Cs := []) (fun C hC => by cases hC) c_mp120_f (Q := [q_mp120x125]) hv (fun q hq => by
    simp only [List.mem_cons, List.not_mem_nil, or_false] at hq
    rw [hq]; exact t_mp120x125 hv) 5 (b1 := false) (b2 := false) k_mp120LEp125
noncomputable def q_mp120LEp130 : sCut := ((fr 0 221 25 [(0, .arg 60033), (2, .int 512), (3, .arg 60064)] [], [fBot], 5), (fr 0 271 0 [(0, tr 219), (1, .int 12), (2, .arg 60033)] [], [fBot], 5), [((0, .arg 60064, .int 130), true), ((6, .long 6318848, .op2 .lushr (.arg 60033) (.int 8)), true), ((6, .op2 .land (.arg 60033) (.long 255), .long 32), false), ((6, .long 32, .op2 .land (.arg 60033) (.long 255)), false), ((109, .add (.op1 .l2i (.op2 .land (.op2 .lshr (.arg 60033) (.int 16)) (.long 65535))) (.op1 .l2i (.op2 .land (.op2 .lshr (.arg 60033) (.int 8)) (.long 255))), .int 130), true), ((2, .op1 .l2i (.op2 .land (.op2 .lshr (.arg 60033) (.int 16)) (.long 65535)), .int 0), false), ((2, .int 65535, .op1 .l2i (.op2 .land (.op2 .lshr (.arg 60033) (.int 16)) (.long 65535))), false), ((0, .sub (.int 156) (.arg 60064), .arg 64032), true), ((2, .arg 60064, .int 0), false), ((2, .int 156, .arg 60064), false), ((138, .add (.int 512) (.arg 60033), .arg 60064), true), ((8, .arg 60033, .long 0), false), ((8, .long 4294967295, .arg 60033), false), ((131, .add (.int 12) (.arg 60033), .int 0), true), ((6, .arg 60033, .long 0), false)], [])
theorem k_mp120LEp130 : cbody kR [] (cpl1 zWP c_mp120 [q_mp120x130]) (cpl2 zWP c_mp120 [q_mp120x130]) (cleaf kR zWP c_mp120 [q_mp120x130]) 5 false false q_mp120LEp130.2.2.1 q_mp120LEp130.2.2.2 (cst zWP c_mp120.2.2.1.1 q_mp120LEp130.1) (cst zWP c_mp120.2.2.1.2 q_mp120LEp130.2.1) = true := by decide +kernel
theorem t_mp120LEp130 {X : pX} {ρ0 : sR} (hv : vok X ρ0) (hk_ : CUTOK X kR zWP c_mp120 5 ρ0 q_mp120LL) : CUTOK X kR zWP c_mp120 5 ρ0 q_mp120LEp130 := CUT_run kR_x kR_0 (Cs := []) (fun C hC => by cases hC) c_mp120_f (Q := [q_mp120x130]) hv (fun q hq => by
    simp only [List.mem_cons, List.not_mem_nil, or_false] at hq
    rw [hq]; exact t_mp120x130 hv) 5 (b1 := false) (b2 := false) k_mp120LEp130
noncomputable def q_mp120LEp131 : sCut := ((fr 0 221 25 [(0, .arg 60033), (2, .int 512), (3, .arg 60064)] [], [fBot], 5), (fr 0 271 0 [(0, tr 219), (1, .int 12), (2, .arg 60033)] [], [fBot], 5), [((0, .arg 60064, .int 131), true), ((6, .long 6319104, .op2 .lushr (.arg 60033) (.int 8)), true), ((6, .op2 .land (.arg 60033) (.long 255), .long 32), false), ((6, .long 32, .op2 .land (.arg 60033) (.long 255)), false), ((109, .add (.op1 .l2i (.op2 .land (.op2 .lshr (.arg 60033) (.int 16)) (.long 65535))) (.op1 .l2i (.op2 .land (.op2 .lshr (.arg 60033) (.int 8)) (.long 255))), .int 131), true), ((2, .op1 .l2i (.op2 .land (.op2 .lshr (.arg 60033) (.int 16)) (.long 65535)), .int 0), false), ((2, .int 65535, .op1 .l2i (.op2 .land (.op2 .lshr (.arg 60033) (.int 16)) (.long 65535))), false), ((0, .sub (.int 156) (.arg 60064), .arg 64032), true), ((2, .arg 60064, .int 0), false), ((2, .int 156, .arg 60064), false), ((138, .add (.int 512) (.arg 60033), .arg 60064), true), ((8, .arg 60033, .long 0), false), ((8, .long 4294967295, .arg 60033), false), ((131, .add (.int 12) (.arg 60033), .int 0), true), ((6, .arg 60033, .long 0), false)], [])
theorem k_mp120LEp131 : cbody kR [] (cpl1 zWP c_mp120 [q_mp120x131]) (cpl2 zWP c_mp120 [q_mp120x131]) (cleaf kR zWP c_mp120 [q_mp120x131]) 5 false false q_mp120LEp131.2.2.1 q_mp120LEp131.2.2.2 (cst zWP c_mp120.2.2.1.1 q_mp120LEp131.1) (cst zWP c_mp120.2.2.1.2 q_mp120LEp131.2.1) = true := by decide +kernel
theorem t_mp120LEp131 {X : pX} {ρ0 : sR} (hv : vok X ρ0) (hk_ : CUTOK X kR zWP c_mp120 5 ρ0 q_mp120LL) : CUTOK X kR zWP c_mp120 5 ρ0 q_mp120LEp131 := CUT_run kR_x kR_0 (Cs := []) (fun C hC => by cases hC) c_mp120_f (Q := [q_mp120x131]) hv (fun q hq => by
    simp only [List.mem_cons, List.not_mem_nil, or_false] at hq
    rw [hq]; exact t_mp120x131 hv) 5 (b1 := false) (b2 := false) k_mp120LEp131
noncomputable def q_mp120LEp148 : sCut := ((fr 0 221 25 [(0, .arg 60033), (2, .int 512), (3, .arg 60064)] [], [fBot], 5), (fr 0 271 0 [(0, tr 219), (1, .int 12), (2, .arg 60033)] [], [fBot], 5), [((0, .arg 60064, .int 148), true), ((6, .long 6338816, .op2 .lushr (.arg 60033) (.int 8)), true), ((6, .op2 .land (.arg 60033) (.long 255), .long 16), false), ((6, .long 16, .op2 .land (.arg 60033) (.long 255)), false), ((109, .add (.op1 .l2i (.op2 .land (.op2 .lshr (.arg 60033) (.int 16)) (.long 65535))) (.op1 .l2i (.op2 .land (.op2 .lshr (.arg 60033) (.int 8)) (.long 255))), .int 148), true), ((2, .op1 .l2i (.op2 .land (.op2 .lshr (.arg 60033) (.int 16)) (.long 65535)), .int 0), false), ((2, .int 65535, .op1 .l2i (.op2 .land (.op2 .lshr (.arg 60033) (.int 16)) (.long 65535))), false), ((0, .sub (.int 156) (.arg 60064), .arg 64032), true), ((2, .arg 60064, .int 0), false), ((2, .int 156, .arg 60064), false), ((138, .add (.int 512) (.arg 60033), .arg 60064), true), ((8, .arg 60033, .long 0), false), ((8, .long 4294967295, .arg 60033), false), ((131, .add (.int 12) (.arg 60033), .int 0), true), ((6, .arg 60033, .long 0), false)], [])
theorem k_mp120LEp148 : cbody kR [] (cpl1 zWP c_mp120 [q_mp120x148]) (cpl2 zWP c_mp120 [q_mp120x148]) (cleaf kR zWP c_mp120 [q_mp120x148]) 5 false false q_mp120LEp148.2.2.1 q_mp120LEp148.2.2.2 (cst zWP c_mp120.2.2.1.1 q_mp120LEp148.1) (cst zWP c_mp120.2.2.1.2 q_mp120LEp148.2.1) = true := by decide +kernel
theorem t_mp120LEp148 {X : pX} {ρ0 : sR} (hv : vok X ρ0) (hk_ : CUTOK X kR zWP c_mp120 5 ρ0 q_mp120LL) : CUTOK X kR zWP c_mp120 5 ρ0 q_mp120LEp148 := CUT_run kR_x kR_0 (Cs := []) (fun C hC => by cases hC) c_mp120_f (Q := [q_mp120x148]) hv (fun q hq => by
    simp only [List.mem_cons, List.not_mem_nil, or_false] at hq
    rw [hq]; exact t_mp120x148 hv) 5 (b1 := false) (b2 := false) k_mp120LEp148
noncomputable def q_mp120LEp149 : sCut := ((fr 0 221 25 [(0, .arg 60033), (2, .int 512), (3, .arg 60064)] [], [fBot], 5), (fr 0 271 0 [(0, tr 219), (1, .int 12), (2, .arg 60033)] [], [fBot], 5), [((0, .arg 60064, .int 149), true), ((6, .long 6339072, .op2 .lushr (.arg 60033) (.int 8)), true), ((6, .op2 .land (.arg 60033) (.long 255), .long 32), false), ((6, .long 32, .op2 .land (.arg 60033) (.long 255)), false), ((109, .add (.op1 .l2i (.op2 .land (.op2 .lshr (.arg 60033) (.int 16)) (.long 65535))) (.op1 .l2i (.op2 .land (.op2 .lshr (.arg 60033) (.int 8)) (.long 255))), .int 149), true), ((2, .op1 .l2i (.op2 .land (.op2 .lshr (.arg 60033) (.int 16)) (.long 65535)), .int 0), false), ((2, .int 65535, .op1 .l2i (.op2 .land (.op2 .lshr (.arg 60033) (.int 16)) (.long 65535))), false), ((0, .sub (.int 156) (.arg 60064), .arg 64032), true), ((2, .arg 60064, .int 0), false), ((2, .int 156, .arg 60064), false), ((138, .add (.int 512) (.arg 60033), .arg 60064), true), ((8, .arg 60033, .long 0), false), ((8, .long 4294967295, .arg 60033), false), ((131, .add (.int 12) (.arg 60033), .int 0), true), ((6, .arg 60033, .long 0), false)], [])
theorem k_mp120LEp149 : cbody kR [] (cpl1 zWP c_mp120 [q_mp120x149]) (cpl2 zWP c_mp120 [q_mp120x149]) (cleaf kR zWP c_mp120 [q_mp120x149]) 5 false false q_mp120LEp149.2.2.1 q_mp120LEp149.2.2.2 (cst zWP c_mp120.2.2.1.1 q_mp120LEp149.1) (cst zWP c_mp120.2.2.1.2 q_mp120LEp149.2.1) = true := by decide +kernel
theorem t_mp120LEp149 {X : pX} {ρ0 : sR} (hv : vok X ρ0) (hk_ : CUTOK X kR zWP c_mp120 5 ρ0 q_mp120LL) : CUTOK X kR zWP c_mp120 5 ρ0 q_mp120LEp149 := CUT_run kR_x kR_0 (Cs := []) (fun C hC => by cases hC) c_mp120_f (Q := [q_mp120x149]) hv (fun q hq => by
    simp only [List.mem_cons, List.not_mem_nil, or_false] at hq
    rw [hq]; exact t_mp120x149 hv) 5 (b1 := false) (b2 := false) k_mp120LEp149
noncomputable def q_mp120LEp150 : sCut := ((fr 0 221 25 [(0, .arg 60033), (2, .int 512), (3, .arg 60064)] [], [fBot], 5), (fr 0 271 0 [(0, tr 219), (1, .int 12), (2, .arg 60033)] [], [fBot], 5), [((0, .arg 60064, .int 150), true), ((6, .long 6339328, .op2 .lushr (.arg 60033) (.int 8)), true), ((6, .op2 .land (.arg 60033) (.long 255), .long 32), false), ((6, .long 32, .op2 .land (.arg 60033) (.long 255)), false), ((109, .add (.op1 .l2i (.op2 .land (.op2 .lshr (.arg 60033) (.int 16)) (.long 65535))) (.op1 .l2i (.op2 .land (.op2 .lshr (.arg 60033) (.int 8)) (.long 255))), .int 150), true), ((2, .op1 .l2i (.op2 .land (.op2 .lshr (.arg 60033) (.int 16)) (.long 65535)), .int 0), false), ((2, .int 65535, .op1 .l2i (.op2 .land (.op2 .lshr (.arg 60033) (.int 16)) (.long 65535))), false), ((0, .sub (.int 156) (.arg 60064), .arg 64032), true), ((2, .arg 60064, .int 0), false), ((2, .int 156, .arg 60064), false), ((138, .add (.int 512) (.arg 60033), .arg 60064), true), ((8, .arg 60033, .long 0), false), ((8, .long 4294967295, .arg 60033), false), ((131, .add (.int 12) (.arg 60033), .int 0), true), ((6, .arg 60033, .long 0), false)], [])
theorem k_mp120LEp150 : cbody kR [] (cpl1 zWP c_mp120 [q_mp120x150]) (cpl2 zWP c_mp120 [q_mp120x150]) (cleaf kR zWP c_mp120 [q_mp120x150]) 5 false false q_mp120LEp150.2.2.1 q_mp120LEp150.2.2.2 (cst zWP c_mp120.2.2.1.1 q_mp120LEp150.1) (cst zWP c_mp120.2.2.1.2 q_mp120LEp150.2.1) = true := by decide +kernel
theorem t_mp120LEp150 {X : pX} {ρ0 : sR} (hv : vok X ρ0) (hk_ : CUTOK X kR zWP c_mp120 5 ρ0 q_mp120LL) : CUTOK X kR zWP c_mp120 5 ρ0 q_mp120LEp150 := CUT_run kR_x kR_0 (Cs := []) (fun C hC => by cases hC) c_mp120_f (Q := [q_mp120x150]) hv (fun q hq => by
    simp only [List.mem_cons, List.not_mem_nil, or_false] at hq
    rw [hq]; exact t_mp120x150 hv) 5 (b1 := false) (b2 := false) k_mp120LEp150
noncomputable def q_mp120LEp151 : sCut := ((fr 0 221 25 [(0, .arg 60033), (2, .int 512), (3, .arg 60064)] [], [fBot], 5), (fr 0 271 0 [(0, tr 219), (1, .int 12), (2, .arg 60033)] [], [fBot], 5), [((0, .arg 60064, .int 151), true), ((6, .long 6356224, .op2 .lushr (.arg 60033) (.int 8)), true), ((6, .op2 .land (.arg 60033) (.long 255), .long 32), false), ((6, .long 32, .op2 .land (.arg 60033) (.long 255)), false), ((109, .add (.op1 .l2i (.op2 .land (.op2 .lshr (.arg 60033) (.int 16)) (.long 65535))) (.op1 .l2i (.op2 .land (.op2 .lshr (.arg 60033) (.int 8)) (.long 255))), .int 151), true), ((2, .op1 .l2i (.op2 .land (.op2 .lshr (.arg 60033) (.int 16)) (.long 65535)), .int 0), false), ((2, .int 65535, .op1 .l2i (.op2 .land (.op2 .lshr (.arg 60033) (.int 16)) (.long 65535))), false), ((0, .sub (.int 156) (.arg 60064), .arg 64032), true), ((2, .arg 60064, .int 0), false), ((2, .int 156, .arg 60064), false), ((138, .add (.int 512) (.arg 60033), .arg 60064), true), ((8, .arg 60033, .long 0), false), ((8, .long 4294967295, .arg 60033), false), ((131, .add (.int 12) (.arg 60033), .int 0), true), ((6, .arg 60033, .long 0), false)], [])
theorem k_mp120LEp151 : cbody kR [] (cpl1 zWP c_mp120 [q_mp120x151]) (cpl2 zWP c_mp120 [q_mp120x151]) (cleaf kR zWP c_mp120 [q_mp120x151]) 5 false false q_mp120LEp151.2.2.1 q_mp120LEp151.2.2.2 (cst zWP c_mp120.2.2.1.1 q_mp120LEp151.1) (cst zWP c_mp120.2.2.1.2 q_mp120LEp151.2.1) = true := by decide +kernel
theorem t_mp120LEp151 {X : pX} {ρ0 : sR} (hv : vok X ρ0) (hk_ : CUTOK X kR zWP c_mp120 5 ρ0 q_mp120LL) : CUTOK X kR zWP c_mp120 5 ρ0 q_mp120LEp151 := CUT_run kR_x kR_0 (Cs := []) (fun C hC => by cases hC) c_mp120_f (Q := [q_mp120x151]) hv (fun q hq => by
    simp only [List.mem_cons, List.not_mem_nil, or_false] at hq
    rw [hq]; exact t_mp120x151 hv) 5 (b1 := false) (b2 := false) k_mp120LEp151
noncomputable def q_mp120LEz : sCut := ((fr 0 221 25 [(0, .arg 60033), (2, .int 512), (3, .arg 60064)] [], [fBot], 5), (fr 0 271 0 [(0, tr 219), (1, .int 12), (2, .arg 60033)] [], [fBot], 5), [((0, .arg 60064, .int 156), true), ((138, .add (.int 512) (.arg 60033), .int 156), true), ((2, .op1 .l2i (.op2 .land (.op2 .lshr (.arg 60033) (.int 16)) (.long 65535)), .int 0), false), ((2, .int 65535, .op1 .l2i (.op2 .land (.op2 .lshr (.arg 60033) (.int 16)) (.long 65535))), false), ((0, .sub (.int 156) (.arg 60064), .arg 64032), true), ((2, .arg 60064, .int 0), false), ((2, .int 156, .arg 60064), false), ((138, .add (.int 512) (.arg 60033), .arg 60064), true), ((8, .arg 60033, .long 0), false), ((8, .long 4294967295, .arg 60033), false), ((131, .add (.int 12) (.arg 60033), .int 0), true), ((6, .arg 60033, .long 0), false)], [])
theorem k_mp120LEz : cbody kR [(zWP, c_fndm)] (cpl1 zWP c_mp120 [q_mp120e]) (cpl2 zWP c_mp120 [q_mp120e]) (cleaf kR zWP c_mp120 [q_mp120e]) 60 true true q_mp120LEz.2.2.1 q_mp120LEz.2.2.2 (cst zWP c_mp120.2.2.1.1 q_mp120LEz.1) (cst zWP c_mp120.2.2.1.2 q_mp120LEz.2.1) = true := by decide +kernel
theorem t_mp120LEz {X : pX} {ρ0 : sR} (hv : vok X ρ0) (hk_ : CUTOK X kR zWP c_mp120 5 ρ0 q_mp120LL) : CUTOK X kR zWP c_mp120 5 ρ0 q_mp120LEz := CUT_run kR_x kR_0 (Cs := [(zWP, c_fndm)]) (fun C hC => by rw [List.mem_singleton.mp hC]; exact s_fndm) c_mp120_f (Q := [q_mp120e]) hv (fun q hq => by
    simp only [List.mem_cons, List.not_mem_nil, or_false] at hq
    rw [hq]; exact t_mp120e hv) 60 (b1 := true) (b2 := true) k_mp120LEz
theorem t_mp120LE {X : pX} {ρ0 : sR} (hv : vok X ρ0) (hk_ : CUTOK X kR zWP c_mp120 5 ρ0 q_mp120LL) : CUTOK X kR zWP c_mp120 5 ρ0 q_mp120LE := fun ρ k1 hF hI k4 => by
  have b0 := rl_lf (x := ρ.2.1 60033) (y := 0) (hF.2 _ (List.mem_cons_of_mem _ (List.mem_cons_of_mem _ (List.mem_cons_of_mem _ (List.mem_cons_of_mem _ (List.mem_cons_self))))))
  have b1 := rl_lf (x := 4294967295) (y := ρ.2.1 60033) (hF.2 _ (List.mem_cons_of_mem _ (List.mem_cons_of_mem _ (List.mem_cons_of_mem _ (List.mem_cons_of_mem _ (List.mem_cons_of_mem _ (List.mem_cons_self)))))))
  have y0 : (0 : Int64).toInt = 0 := rfl
  have y1 : (4294967295 : Int64).toInt = 4294967295 := by decide +kernel
  rw [y0] at b0
  rw [y1] at b1
  have he : ((0 : Int32)).toInt = if evs 12 (ρ.2.1 60033).toInt = true then 1 else 0 := of_decide_eq_true (hF.2 _ (List.mem_cons_of_mem _ (List.mem_cons_of_mem _ (List.mem_cons_of_mem _ (List.mem_cons_of_mem _ (List.mem_cons_of_mem _ (List.mem_cons_of_mem _ (List.mem_cons_self))))))))
  have s0 := ri_lf (x := ρ.1 60064) (y := 0) (hF.2 _ (List.mem_cons_of_mem _ (List.mem_cons_self)))
  have s1 := ri_lf (x := 156) (y := ρ.1 60064) (hF.2 _ (List.mem_cons_of_mem _ (List.mem_cons_of_mem _ (List.mem_cons_self))))
  have x0 : (0 : Int32).toInt = 0 := rfl
  have x1 : (156 : Int32).toInt = 156 := rfl
  rw [x0] at s0
  rw [x1] at s1
  obtain ⟨p, hp, hn⟩ : ∃ p : Nat, p ≤ 156 ∧ (ρ.1 60064).toInt = p := ⟨(ρ.1 60064).toInt.toNat, by omega, by omega⟩
  have hb : (List.range (ρ.1 60064).toInt.toNat).all (fun p => !(amok (Int32.ofInt (512 : Int32).toInt) (ρ.2.1 60033).toInt p)) = true := hF.2 _ (List.mem_cons_of_mem _ (List.mem_cons_of_mem _ (List.mem_cons_of_mem _ (List.mem_cons_self))))
  have hb : ∀ j : Nat, j < p → amok 512 (ρ.2.1 60033).toInt j = false := fun j hj => by
    have := List.all_eq_true.mp hb j (List.mem_range.mpr (by omega))
    rw [Int32.ofInt_toInt] at this
    simpa using this
  obtain ⟨i1, i2⟩ := mv_ix (X := X) (ρ := ρ) b0 b1
  have m8 := mv_8 b0
  have fx : sc X ρ (2, .op1 .l2i (.op2 .land (.op2 .lshr (.arg 60033) (.int 16)) (.long 65535)), .int 0) = false ∧ sc X ρ (2, .int 65535, .op1 .l2i (.op2 .land (.op2 .lshr (.arg 60033) (.int 16)) (.long 65535))) = false := ⟨di_lf (y := 0) (show (0 : Int) ≤ (sd X ρ (.op1 .l2i (.op2 .land (.op2 .lshr (.arg 60033) (.int 16)) (.long 65535)))).1.toInt by rw [i1]; omega), di_lf (x := 65535) (show (sd X ρ (.op1 .l2i (.op2 .land (.op2 .lshr (.arg 60033) (.int 16)) (.long 65535)))).1.toInt ≤ (65535 : Int) by rw [i1]; omega)⟩
  by_cases e6 : p = 156
  · have es : (ρ.1 60064).toInt = 156 := by omega
    have nb : sc X ρ (138, .add (.int 512) (.arg 60033), .int 156) = true := by
      show (List.range (156 : Int32).toInt.toNat).all (fun p => !(amok (Int32.ofInt (512 : Int32).toInt) (ρ.2.1 60033).toInt p)) = true
      rw [Int32.ofInt_toInt]
      refine List.all_eq_true.mpr (fun j hj => ?_)
      have := List.mem_range.mp hj
      have x2 : (156 : Int32).toInt.toNat = 156 := rfl
      rw [hb j (by omega)]
      rfl
    exact t_mp120LEz hv hk_ ρ k1 ⟨hF.1, fcn (di_et (x := ρ.1 60064) (y := 156) es) (fcn (nb) (fcn (fx.1) (fcn (fx.2) (hF.2))))⟩ hI k4
  have h6 : p < 156 := by omega
  have ky := op_key k1 h6 (s := 60064) hn
  have m1 := op_tab k1 h6 (s := 60064) rfl hn
  have bk : ∀ w : Int32, w = pt_BOOK.getD (5 * p) 0 → w.toInt64.toInt = (pt_BOOK.getD (5 * p) 0).toInt := fun w hw => by rw [Int32.toInt_toInt64, hw]
  have nxp : amok 512 (ρ.2.1 60033).toInt p = false → sc X ρ (2, .arg 60064, .int 156) = true ∧ sc X ρ (2, .sub (.int 156) (.add (.arg 60064) (.int 1)), .arg 64032) = true ∧ sc X ρ (2, .add (.arg 60064) (.int 1), .int 0) = false ∧ sc X ρ (2, .int 156, .add (.arg 60064) (.int 1)) = false ∧ sc X ρ (138, .add (.int 512) (.arg 60033), .add (.arg 60064) (.int 1)) = true := fun ha => by
    have e1 : (ρ.1 60064 + 1).toInt = p + 1 := i_of (n := (p : Int) + 1) (by rw [i_ad (i_s (ρ.1 60064)) i_1, hn]) (by omega) (by omega)
    have gq : (156 : Int32) - ρ.1 60064 = ρ.1 64032 := of_decide_eq_true (hF.2 _ (List.mem_cons_self))
    have g1 : ((156 : Int32) - ρ.1 60064).toInt = 156 - p := i_of (n := 156 - (p : Int)) (by rw [i_sb (show (156 : Int32) = Int32.ofInt 156 from rfl) (i_s (ρ.1 60064)), hn]) (by omega) (by omega)
    have g2 : ((156 : Int32) - (ρ.1 60064 + 1)).toInt = 155 - p := i_of (n := 155 - (p : Int)) (by rw [i_sb (show (156 : Int32) = Int32.ofInt 156 from rfl) (i_s (ρ.1 60064 + 1)), e1]; congr 1; omega) (by omega) (by omega)
    rw [gq] at g1
    refine ⟨di_lt (x := ρ.1 60064) (y := 156) (show _ < (156 : Int) by omega), di_lt (x := (156 : Int32) - (ρ.1 60064 + 1)) (y := ρ.1 64032) (by omega), di_lf (x := ρ.1 60064 + 1) (y := 0) (show (0 : Int) ≤ _ by omega), di_lf (x := 156) (y := ρ.1 60064 + 1) (show _ ≤ (156 : Int) by omega), ?_⟩
    show (List.range (ρ.1 60064 + 1).toInt.toNat).all (fun p => !(amok (Int32.ofInt (512 : Int32).toInt) (ρ.2.1 60033).toInt p)) = true
    rw [Int32.ofInt_toInt]
    refine List.all_eq_true.mpr (fun j hj => ?_)
    have hj := List.mem_range.mp hj
    by_cases ej : j = p
    · rw [ej, ha]; rfl
    · rw [hb j (by omega)]; rfl
  by_cases ke : (pt_BOOK.getD (5 * p) 0).toInt = (ρ.2.1 60033).toInt / 256
  · have kf : sc X ρ (6, .op1 .i2l (.elem (.string "" 1) (.mul (.arg 60064) (.int 5))), .op2 .lushr (.arg 60033) (.int 8)) = true := dl_et (x := (sd X ρ (.elem (.string "" 1) (.mul (.arg 60064) (.int 5)))).1.toInt64) (y := (s2 .lushr (0, ρ.2.1 60033) (8, 0)).2) (by rw [bk _ ky, m8]; exact ke)
    have t := List.all_eq_true.mp mf_12 p (List.mem_range.mpr h6)
    simp only [Bool.or_eq_true, decide_eq_true_eq] at t
    by_cases fe : pt_BOOK.getD (5 * p + 1) 0 &&& 512 = 0
    · have ha : amok 512 (ρ.2.1 60033).toInt p = false := by
        unfold amok
        rw [decide_eq_true fe]
        exact Bool.and_false _
      obtain ⟨n1, n2, n3, n4, n5⟩ := nxp ha
      exact t_mp120LEf hv hk_ ρ k1 ⟨hF.1, fcn (kf) (fcn (decide_eq_true (show (sd X ρ (.elem (.string "" 1) (.add (.mul (.arg 60064) (.int 5)) (.int 1)))).1 &&& 512 = 0 by rw [m1.1]; exact fe)) (fcn (n1) (fcn (n2) (fcn (n3) (fcn (n4) (fcn (n5) (hF.2)))))))⟩ hI k4
    · have t := t.resolve_left fe
      have t := List.contains_iff_mem.mp t
      have tk := List.all_eq_true.mp mk_t p (List.mem_range.mpr h6)
      simp only [Bool.and_eq_true, decide_eq_true_eq] at tk
      have a9 : aslot ((ρ.2.1 60033).toInt / 65536) ((ρ.2.1 60033).toInt / 256 % 256) = p := by
        rw [← ke, show (ρ.2.1 60033).toInt / 65536 = (pt_BOOK.getD (5 * p) 0).toInt / 256 by omega]
        exact tk.2.2
      have ml := mv_a (x := ρ.2.1 60033) (m := 255) (k := 8) b0 rfl
      have p8 : ((2 ^ 8 : Nat) : Int) = 256 := rfl
      rw [p8] at ml
      simp only [List.mem_cons, List.not_mem_nil, or_false] at t
      rcases t with t | t | t | t | t | t | t | t | t | t | t | t
      · subst t
        have w : ¬ (ρ.2.1 60033).toInt % 256 = 8 := fun q => by
          have j := List.all_eq_true.mp mi_12 (1, 8) (by decide)
          have e : (pt_BOOK.getD (5 * 1) 0).toInt * 256 + 8 = (ρ.2.1 60033).toInt := by omega
          dsimp only at j
          rw [e] at j
          rw [if_pos (show evs 12 (ρ.2.1 60033).toInt = true from j)] at he
          cases he
        have kz : (pt_BOOK.getD (5 * 1) 0).toInt = 1048832 := by decide +kernel
        exact t_mp120LEp1 hv hk_ ρ k1 ⟨hF.1, fcn (di_et (x := ρ.1 60064) (y := 1) hn) (fcn (dl_et (x := 1048832) (y := (s2 .lushr (0, ρ.2.1 60033) (8, 0)).2) (by rw [m8, ← ke, kz]; rfl)) (fcn (dl_ef (x := ρ.2.1 60033 &&& 255) (y := 8) (by rw [ml]; exact w)) (fcn (dl_ef (x := 8) (y := ρ.2.1 60033 &&& 255) (by rw [ml]; exact fun q => w q.symm)) (fcn (decide_eq_true (show ((1 : Int32)).toInt = aslot (sd X ρ (.op1 .l2i (.op2 .land (.op2 .lshr (.arg 60033) (.int 16)) (.long 65535)))).1.toInt (sd X ρ (.op1 .l2i (.op2 .land (.op2 .lshr (.arg 60033) (.int 8)) (.long 255)))).1.toInt by rw [i1, i2, a9]; rfl)) (fcn (fx.1) (fcn (fx.2) (hF.2)))))))⟩ hI k4
      · subst t
        have w : ¬ (ρ.2.1 60033).toInt % 256 = 16 := fun q => by
          have j := List.all_eq_true.mp mi_12 (114, 16) (by decide)
          have e : (pt_BOOK.getD (5 * 114) 0).toInt * 256 + 16 = (ρ.2.1 60033).toInt := by omega
          dsimp only at j
          rw [e] at j
          rw [if_pos (show evs 12 (ρ.2.1 60033).toInt = true from j)] at he
          cases he
        have kz : (pt_BOOK.getD (5 * 114) 0).toInt = 6307584 := by decide +kernel
        exact t_mp120LEp114 hv hk_ ρ k1 ⟨hF.1, fcn (di_et (x := ρ.1 60064) (y := 114) hn) (fcn (dl_et (x := 6307584) (y := (s2 .lushr (0, ρ.2.1 60033) (8, 0)).2) (by rw [m8, ← ke, kz]; rfl)) (fcn (dl_ef (x := ρ.2.1 60033 &&& 255) (y := 16) (by rw [ml]; exact w)) (fcn (dl_ef (x := 16) (y := ρ.2.1 60033 &&& 255) (by rw [ml]; exact fun q => w q.symm)) (fcn (decide_eq_true (show ((114 : Int32)).toInt = aslot (sd X ρ (.op1 .l2i (.op2 .land (.op2 .lshr (.arg 60033) (.int 16)) (.long 65535)))).1.toInt (sd X ρ (.op1 .l2i (.op2 .land (.op2 .lshr (.arg 60033) (.int 8)) (.long 255)))).1.toInt by rw [i1, i2, a9]; rfl)) (fcn (fx.1) (fcn (fx.2) (hF.2)))))))⟩ hI k4
      · subst t
        have w : ¬ (ρ.2.1 60033).toInt % 256 = 16 := fun q => by
          have j := List.all_eq_true.mp mi_12 (116, 16) (by decide)
          have e : (pt_BOOK.getD (5 * 116) 0).toInt * 256 + 16 = (ρ.2.1 60033).toInt := by omega
          dsimp only at j
          rw [e] at j
          rw [if_pos (show evs 12 (ρ.2.1 60033).toInt = true from j)] at he
          cases he
        have kz : (pt_BOOK.getD (5 * 116) 0).toInt = 6308096 := by decide +kernel
        exact t_mp120LEp116 hv hk_ ρ k1 ⟨hF.1, fcn (di_et (x := ρ.1 60064) (y := 116) hn) (fcn (dl_et (x := 6308096) (y := (s2 .lushr (0, ρ.2.1 60033) (8, 0)).2) (by rw [m8, ← ke, kz]; rfl)) (fcn (dl_ef (x := ρ.2.1 60033 &&& 255) (y := 16) (by rw [ml]; exact w)) (fcn (dl_ef (x := 16) (y := ρ.2.1 60033 &&& 255) (by rw [ml]; exact fun q => w q.symm)) (fcn (decide_eq_true (show ((116 : Int32)).toInt = aslot (sd X ρ (.op1 .l2i (.op2 .land (.op2 .lshr (.arg 60033) (.int 16)) (.long 65535)))).1.toInt (sd X ρ (.op1 .l2i (.op2 .land (.op2 .lshr (.arg 60033) (.int 8)) (.long 255)))).1.toInt by rw [i1, i2, a9]; rfl)) (fcn (fx.1) (fcn (fx.2) (hF.2)))))))⟩ hI k4
      · subst t
        have w : ¬ (ρ.2.1 60033).toInt % 256 = 8 := fun q => by
          have j := List.all_eq_true.mp mi_12 (123, 8) (by decide)
          have e : (pt_BOOK.getD (5 * 123) 0).toInt * 256 + 8 = (ρ.2.1 60033).toInt := by omega
          dsimp only at j
          rw [e] at j
          rw [if_pos (show evs 12 (ρ.2.1 60033).toInt = true from j)] at he
          cases he
        have kz : (pt_BOOK.getD (5 * 123) 0).toInt = 6316288 := by decide +kernel
        exact t_mp120LEp123 hv hk_ ρ k1 ⟨hF.1, fcn (di_et (x := ρ.1 60064) (y := 123) hn) (fcn (dl_et (x := 6316288) (y := (s2 .lushr (0, ρ.2.1 60033) (8, 0)).2) (by rw [m8, ← ke, kz]; rfl)) (fcn (dl_ef (x := ρ.2.1 60033 &&& 255) (y := 8) (by rw [ml]; exact w)) (fcn (dl_ef (x := 8) (y := ρ.2.1 60033 &&& 255) (by rw [ml]; exact fun q => w q.symm)) (fcn (decide_eq_true (show ((123 : Int32)).toInt = aslot (sd X ρ (.op1 .l2i (.op2 .land (.op2 .lshr (.arg 60033) (.int 16)) (.long 65535)))).1.toInt (sd X ρ (.op1 .l2i (.op2 .land (.op2 .lshr (.arg 60033) (.int 8)) (.long 255)))).1.toInt by rw [i1, i2, a9]; rfl)) (fcn (fx.1) (fcn (fx.2) (hF.2)))))))⟩ hI k4
      · subst t
        have w : ¬ (ρ.2.1 60033).toInt % 256 = 32 := fun q => by
          have j := List.all_eq_true.mp mi_12 (124, 32) (by decide)
          have e : (pt_BOOK.getD (5 * 124) 0).toInt * 256 + 32 = (ρ.2.1 60033).toInt := by omega
          dsimp only at j
          rw [e] at j
          rw [if_pos (show evs 12 (ρ.2.1 60033).toInt = true from j)] at he
          cases he
        have kz : (pt_BOOK.getD (5 * 124) 0).toInt = 6316544 := by decide +kernel
        exact t_mp120LEp124 hv hk_ ρ k1 ⟨hF.1, fcn (di_et (x := ρ.1 60064) (y := 124) hn) (fcn (dl_et (x := 6316544) (y := (s2 .lushr (0, ρ.2.1 60033) (8, 0)).2) (by rw [m8, ← ke, kz]; rfl)) (fcn (dl_ef (x := ρ.2.1 60033 &&& 255) (y := 32) (by rw [ml]; exact w)) (fcn (dl_ef (x := 32) (y := ρ.2.1 60033 &&& 255) (by rw [ml]; exact fun q => w q.symm)) (fcn (decide_eq_true (show ((124 : Int32)).toInt = aslot (sd X ρ (.op1 .l2i (.op2 .land (.op2 .lshr (.arg 60033) (.int 16)) (.long 65535)))).1.toInt (sd X ρ (.op1 .l2i (.op2 .land (.op2 .lshr (.arg 60033) (.int 8)) (.long 255)))).1.toInt by rw [i1, i2, a9]; rfl)) (fcn (fx.1) (fcn (fx.2) (hF.2)))))))⟩ hI k4
      · subst t
        have w : ¬ (ρ.2.1 60033).toInt % 256 = 32 := fun q => by
          have j := List.all_eq_true.mp mi_12 (125, 32) (by decide)
          have e : (pt_BOOK.getD (5 * 125) 0).toInt * 256 + 32 = (ρ.2.1 60033).toInt := by omega
          dsimp only at j
          rw [e] at j
          rw [if_pos (show evs 12 (ρ.2.1 60033).toInt = true from j)] at he
          cases he
        have kz : (pt_BOOK.getD (5 * 125) 0).toInt = 6317056 := by decide +kernel
        exact t_mp120LEp125 hv hk_ ρ k1 ⟨hF.1, fcn (di_et (x := ρ.1 60064) (y := 125) hn) (fcn (dl_et (x := 6317056) (y := (s2 .lushr (0, ρ.2.1 60033) (8, 0)).2) (by rw [m8, ← ke, kz]; rfl)) (fcn (dl_ef (x := ρ.2.1 60033 &&& 255) (y := 32) (by rw [ml]; exact w)) (fcn (dl_ef (x := 32) (y := ρ.2.1 60033 &&& 255) (by rw [ml]; exact fun q => w q.symm)) (fcn (decide_eq_true (show ((125 : Int32)).toInt = aslot (sd X ρ (.op1 .l2i (.op2 .land (.op2 .lshr (.arg 60033) (.int 16)) (.long 65535)))).1.toInt (sd X ρ (.op1 .l2i (.op2 .land (.op2 .lshr (.arg 60033) (.int 8)) (.long 255)))).1.toInt by rw [i1, i2, a9]; rfl)) (fcn (fx.1) (fcn (fx.2) (hF.2)))))))⟩ hI k4
      · subst t
        have w : ¬ (ρ.2.1 60033).toInt % 256 = 32 := fun q => by
          have j := List.all_eq_true.mp mi_12 (130, 32) (by decide)
          have e : (pt_BOOK.getD (5 * 130) 0).toInt * 256 + 32 = (ρ.2.1 60033).toInt := by omega
          dsimp only at j
          rw [e] at j
          rw [if_pos (show evs 12 (ρ.2.1 60033).toInt = true from j)] at he
          cases he
        have kz : (pt_BOOK.getD (5 * 130) 0).toInt = 6318848 := by decide +kernel
        exact t_mp120LEp130 hv hk_ ρ k1 ⟨hF.1, fcn (di_et (x := ρ.1 60064) (y := 130) hn) (fcn (dl_et (x := 6318848) (y := (s2 .lushr (0, ρ.2.1 60033) (8, 0)).2) (by rw [m8, ← ke, kz]; rfl)) (fcn (dl_ef (x := ρ.2.1 60033 &&& 255) (y := 32) (by rw [ml]; exact w)) (fcn (dl_ef (x := 32) (y := ρ.2.1 60033 &&& 255) (by rw [ml]; exact fun q => w q.symm)) (fcn (decide_eq_true (show ((130 : Int32)).toInt = aslot (sd X ρ (.op1 .l2i (.op2 .land (.op2 .lshr (.arg 60033) (.int 16)) (.long 65535)))).1.toInt (sd X ρ (.op1 .l2i (.op2 .land (.op2 .lshr (.arg 60033) (.int 8)) (.long 255)))).1.toInt by rw [i1, i2, a9]; rfl)) (fcn (fx.1) (fcn (fx.2) (hF.2)))))))⟩ hI k4
      · subst t
        have w : ¬ (ρ.2.1 60033).toInt % 256 = 32 := fun q => by
          have j := List.all_eq_true.mp mi_12 (131, 32) (by decide)
          have e : (pt_BOOK.getD (5 * 131) 0).toInt * 256 + 32 = (ρ.2.1 60033).toInt := by omega
          dsimp only at j
          rw [e] at j
          rw [if_pos (show evs 12 (ρ.2.1 60033).toInt = true from j)] at he
          cases he
        have kz : (pt_BOOK.getD (5 * 131) 0).toInt = 6319104 := by decide +kernel
        exact t_mp120LEp131 hv hk_ ρ k1 ⟨hF.1, fcn (di_et (x := ρ.1 60064) (y := 131) hn) (fcn (dl_et (x := 6319104) (y := (s2 .lushr (0, ρ.2.1 60033) (8, 0)).2) (by rw [m8, ← ke, kz]; rfl)) (fcn (dl_ef (x := ρ.2.1 60033 &&& 255) (y := 32) (by rw [ml]; exact w)) (fcn (dl_ef (x := 32) (y := ρ.2.1 60033 &&& 255) (by rw [ml]; exact fun q => w q.symm)) (fcn (decide_eq_true (show ((131 : Int32)).toInt = aslot (sd X ρ (.op1 .l2i (.op2 .land (.op2 .lshr (.arg 60033) (.int 16)) (.long 65535)))).1.toInt (sd X ρ (.op1 .l2i (.op2 .land (.op2 .lshr (.arg 60033) (.int 8)) (.long 255)))).1.toInt by rw [i1, i2, a9]; rfl)) (fcn (fx.1) (fcn (fx.2) (hF.2)))))))⟩ hI k4
      · subst t
        have w : ¬ (ρ.2.1 60033).toInt % 256 = 16 := fun q => by
          have j := List.all_eq_true.mp mi_12 (148, 16) (by decide)
          have e : (pt_BOOK.getD (5 * 148) 0).toInt * 256 + 16 = (ρ.2.1 60033).toInt := by omega
          dsimp only at j
          rw [e] at j
          rw [if_pos (show evs 12 (ρ.2.1 60033).toInt = true from j)] at he
          cases he
        have kz : (pt_BOOK.getD (5 * 148) 0).toInt = 6338816 := by decide +kernel
        exact t_mp120LEp148 hv hk_ ρ k1 ⟨hF.1, fcn (di_et (x := ρ.1 60064) (y := 148) hn) (fcn (dl_et (x := 6338816) (y := (s2 .lushr (0, ρ.2.1 60033) (8, 0)).2) (by rw [m8, ← ke, kz]; rfl)) (fcn (dl_ef (x := ρ.2.1 60033 &&& 255) (y := 16) (by rw [ml]; exact w)) (fcn (dl_ef (x := 16) (y := ρ.2.1 60033 &&& 255) (by rw [ml]; exact fun q => w q.symm)) (fcn (decide_eq_true (show ((148 : Int32)).toInt = aslot (sd X ρ (.op1 .l2i (.op2 .land (.op2 .lshr (.arg 60033) (.int 16)) (.long 65535)))).1.toInt (sd X ρ (.op1 .l2i (.op2 .land (.op2 .lshr (.arg 60033) (.int 8)) (.long 255)))).1.toInt by rw [i1, i2, a9]; rfl)) (fcn (fx.1) (fcn (fx.2) (hF.2)))))))⟩ hI k4
      · subst t
        have w : ¬ (ρ.2.1 60033).toInt % 256 = 32 := fun q => by
          have j := List.all_eq_true.mp mi_12 (149, 32) (by decide)
          have e : (pt_BOOK.getD (5 * 149) 0).toInt * 256 + 32 = (ρ.2.1 60033).toInt := by omega
          dsimp only at j
          rw [e] at j
          rw [if_pos (show evs 12 (ρ.2.1 60033).toInt = true from j)] at he
          cases he
        have kz : (pt_BOOK.getD (5 * 149) 0).toInt = 6339072 := by decide +kernel
        exact t_mp120LEp149 hv hk_ ρ k1 ⟨hF.1, fcn (di_et (x := ρ.1 60064) (y := 149) hn) (fcn (dl_et (x := 6339072) (y := (s2 .lushr (0, ρ.2.1 60033) (8, 0)).2) (by rw [m8, ← ke, kz]; rfl)) (fcn (dl_ef (x := ρ.2.1 60033 &&& 255) (y := 32) (by rw [ml]; exact w)) (fcn (dl_ef (x := 32) (y := ρ.2.1 60033 &&& 255) (by rw [ml]; exact fun q => w q.symm)) (fcn (decide_eq_true (show ((149 : Int32)).toInt = aslot (sd X ρ (.op1 .l2i (.op2 .land (.op2 .lshr (.arg 60033) (.int 16)) (.long 65535)))).1.toInt (sd X ρ (.op1 .l2i (.op2 .land (.op2 .lshr (.arg 60033) (.int 8)) (.long 255)))).1.toInt by rw [i1, i2, a9]; rfl)) (fcn (fx.1) (fcn (fx.2) (hF.2)))))))⟩ hI k4
      · subst t
        have w : ¬ (ρ.2.1 60033).toInt % 256 = 32 := fun q => by
          have j := List.all_eq_true.mp mi_12 (150, 32) (by decide)
          have e : (pt_BOOK.getD (5 * 150) 0).toInt * 256 + 32 = (ρ.2.1 60033).toInt := by omega
          dsimp only at j
          rw [e] at j
          rw [if_pos (show evs 12 (ρ.2.1 60033).toInt = true from j)] at he
          cases he
        have kz : (pt_BOOK.getD (5 * 150) 0).toInt = 6339328 := by decide +kernel
        exact t_mp120LEp150 hv hk_ ρ k1 ⟨hF.1, fcn (di_et (x := ρ.1 60064) (y := 150) hn) (fcn (dl_et (x := 6339328) (y := (s2 .lushr (0, ρ.2.1 60033) (8, 0)).2) (by rw [m8, ← ke, kz]; rfl)) (fcn (dl_ef (x := ρ.2.1 60033 &&& 255) (y := 32) (by rw [ml]; exact w)) (fcn (dl_ef (x := 32) (y := ρ.2.1 60033 &&& 255) (by rw [ml]; exact fun q => w q.symm)) (fcn (decide_eq_true (show ((150 : Int32)).toInt = aslot (sd X ρ (.op1 .l2i (.op2 .land (.op2 .lshr (.arg 60033) (.int 16)) (.long 65535)))).1.toInt (sd X ρ (.op1 .l2i (.op2 .land (.op2 .lshr (.arg 60033) (.int 8)) (.long 255)))).1.toInt by rw [i1, i2, a9]; rfl)) (fcn (fx.1) (fcn (fx.2) (hF.2)))))))⟩ hI k4
      · subst t
        have w : ¬ (ρ.2.1 60033).toInt % 256 = 32 := fun q => by
          have j := List.all_eq_true.mp mi_12 (151, 32) (by decide)
          have e : (pt_BOOK.getD (5 * 151) 0).toInt * 256 + 32 = (ρ.2.1 60033).toInt := by omega
          dsimp only at j
          rw [e] at j
          rw [if_pos (show evs 12 (ρ.2.1 60033).toInt = true from j)] at he
          cases he
        have kz : (pt_BOOK.getD (5 * 151) 0).toInt = 6356224 := by decide +kernel
        exact t_mp120LEp151 hv hk_ ρ k1 ⟨hF.1, fcn (di_et (x := ρ.1 60064) (y := 151) hn) (fcn (dl_et (x := 6356224) (y := (s2 .lushr (0, ρ.2.1 60033) (8, 0)).2) (by rw [m8, ← ke, kz]; rfl)) (fcn (dl_ef (x := ρ.2.1 60033 &&& 255) (y := 32) (by rw [ml]; exact w)) (fcn (dl_ef (x := 32) (y := ρ.2.1 60033 &&& 255) (by rw [ml]; exact fun q => w q.symm)) (fcn (decide_eq_true (show ((151 : Int32)).toInt = aslot (sd X ρ (.op1 .l2i (.op2 .land (.op2 .lshr (.arg 60033) (.int 16)) (.long 65535)))).1.toInt (sd X ρ (.op1 .l2i (.op2 .land (.op2 .lshr (.arg 60033) (.int 8)) (.long 255)))).1.toInt by rw [i1, i2, a9]; rfl)) (fcn (fx.1) (fcn (fx.2) (hF.2)))))))⟩ hI k4
  · have ha : amok 512 (ρ.2.1 60033).toInt p = false := by
      unfold amok
      rw [decide_eq_false ke]
      rfl
    obtain ⟨n1, n2, n3, n4, n5⟩ := nxp ha
    exact t_mp120LEk hv hk_ ρ k1 ⟨hF.1, fcn (dl_ef (x := (sd X ρ (.elem (.string "" 1) (.mul (.arg 60064) (.int 5)))).1.toInt64) (y := (s2 .lushr (0, ρ.2.1 60033) (8, 0)).2) (by rw [bk _ ky, m8]; exact ke)) (fcn (n1) (fcn (n2) (fcn (n3) (fcn (n4) (fcn (n5) (hF.2))))))⟩ hI k4
theorem t_mp120L {X : pX} {ρ0 : sR} (hv : vok X ρ0) : CUTOK X kR zWP c_mp120 5 ρ0 q_mp120L := CUT_again (g := 64032) (mt := .sub (.int 156) (.arg 60064)) kR_x (by decide +kernel) (by decide) (by decide) (by decide) (by decide +kernel) (by decide +kernel) (by decide +kernel) (by decide +kernel) (by decide +kernel) (fun ρ0 hv hk => t_mp120LE hv hk) ρ0 hv
noncomputable def q_mp120b : sCut := ((fr 0 221 0 [(0, .arg 60033), (2, .int 512)] [], [fBot], 5), (fr 0 271 0 [(0, tr 219), (1, .int 12), (2, .arg 60033)] [], [fBot], 5), [((8, .arg 60033, .long 0), false), ((8, .long 4294967295, .arg 60033), false), ((131, .add (.int 12) (.arg 60033), .int 0), true)], [])
noncomputable def q_mp120bo : sCut := ((fr 0 221 0 [(0, .arg 60033), (2, .int 512)] [], [fBot], 5), (fr 0 271 0 [(0, tr 219), (1, .int 12), (2, .arg 60033)] [], [fBot], 5), [((6, .arg 60033, .long 0), false), ((138, .add (.int 512) (.arg 60033), .int 0), true), ((8, .arg 60033, .long 0), false), ((8, .long 4294967295, .arg 60033), false), ((131, .add (.int 12) (.arg 60033), .int 0), true)], [])
theorem k_mp120bo : cbody kR [] (cpl1 zWP c_mp120 [q_mp120L]) (cpl2 zWP c_mp120 [q_mp120L]) (cleaf kR zWP c_mp120 [q_mp120L]) 60 true false q_mp120bo.2.2.1 q_mp120bo.2.2.2 (cst zWP c_mp120.2.2.1.1 q_mp120bo.1) (cst zWP c_mp120.2.2.1.2 q_mp120bo.2.1) = true := by decide +kernel
theorem t_mp120bo {X : pX} {ρ0 : sR} (hv : vok X ρ0) : CUTOK X kR zWP c_mp120 5 ρ0 q_mp120bo := CUT_run kR_x kR_0 (Cs := []) (fun C hC => by cases hC) c_mp120_f (Q := [q_mp120L]) hv (fun q hq => by
    simp only [List.mem_cons, List.not_mem_nil, or_false] at hq
    rw [hq]; exact t_mp120L hv) 60 (b1 := true) (b2 := false) k_mp120bo
theorem t_mp120b {X : pX} {ρ0 : sR} (hv : vok X ρ0) : CUTOK X kR zWP c_mp120 5 ρ0 q_mp120b := fun ρ k1 hF hI k4 => by
  have z8 : sc X ρ (138, .add (.int 512) (.arg 60033), .int 0) = true := rfl
  have he : ((0 : Int32)).toInt = if evs 12 (ρ.2.1 60033).toInt = true then 1 else 0 := of_decide_eq_true (hF.2 _ (List.mem_cons_of_mem _ (List.mem_cons_of_mem _ (List.mem_cons_self))))
  by_cases h0 : ρ.2.1 60033 = 0
  · rw [h0] at he
    rw [if_pos (show evs 12 (0 : Int64).toInt = true by decide +kernel)] at he
    cases he
  exact t_mp120bo hv ρ k1 ⟨hF.1, fcn (decide_eq_false h0) (fcn (z8) (hF.2))⟩ hI k4
theorem e_mp120 : frun kR [] (cpl1 zWP c_mp120 [q_mp120b]) (cpl2 zWP c_mp120 [q_mp120b]) (cleaf kR zWP c_mp120 [q_mp120b]) 10 65536 (isatP (c_mp120.2.2.2.1) c_mp120.2.2.2.2.2.2.2.1) c_mp120.2.2.2.2.2.2.2.1 (sin0 mt_all c_mp120.1.1 5 c_mp120.2.1.1 (foot zWP c_mp120.2.2.1.1)) (sin0 mt_all c_mp120.1.2.1 5 c_mp120.2.1.2 (foot zWP c_mp120.2.2.1.2)) = true := by decide +kernel
theorem s_mp120 {X : pX} : SREL X pF pdfl mt_all kR zWP c_mp120 := SREL_QC kR_x kR_0 (Cs := []) (fun C hC => by cases hC) (d := 5) rfl c_mp120_f (Q := [q_mp120b]) (fun ρ0 hv => fun q hq => by
    simp only [List.mem_cons, List.not_mem_nil, or_false] at hq
    rw [hq]; exact t_mp120b hv) (QC_run 10 e_mp120)
