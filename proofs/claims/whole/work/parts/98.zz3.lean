set_option maxRecDepth 20000
theorem e_fls : frun kR [] (cpl1 zWS c_fls [q_f0, q_f1]) (cpl2 zWS c_fls [q_f0, q_f1]) (cleaf kR zWS c_fls [q_f0, q_f1]) 400 65536 (isatP (c_fls.2.2.2.1) c_fls.2.2.2.2.2.2.2.1) c_fls.2.2.2.2.2.2.2.1 (sin0 mt_all c_fls.1.1 9 c_fls.2.1.1 (foot zWS c_fls.2.2.1.1)) (sin0 mt_all c_fls.1.2.1 9 c_fls.2.1.2 (foot zWS c_fls.2.2.1.2)) = true := by decide +kernel
theorem s_fls {X : pX} : SREL X pF pdfl mt_all kR zWS c_fls := SREL_QC kR_x kR_0 (Cs := []) (fun C hC => by cases hC) (d := 9) rfl c_fls_f (Q := [q_f0, q_f1]) (fun ρ0 hv => fun q hq => by
    simp only [List.mem_cons, List.not_mem_nil, or_false] at hq
    rcases hq with hq | hq
    · rw [hq]; exact t_f0 hv
    · rw [hq]; exact t_f1 hv) (QC_run 400 e_fls)
noncomputable def f_fo : sFs := [((8, .long 65535, .op1 .i2l (.arg 20448)), false), ((8, .op1 .i2l (.arg 20448), .long 0), false), ((8, .elem (.arg 1761) (.int 126), .long 0), false), ((8, .long 1000000, .elem (.arg 1761) (.int 126)), false), ((8, .elem (.arg 1761) (.int 127), .long 0), false), ((8, .long 65535, .elem (.arg 1761) (.int 127)), false), ((8, .elem (.arg 1761) (.int 128), .long 0), false), ((8, .long 1000000, .elem (.arg 1761) (.int 128)), false), ((8, .elem (.arg 1761) (.int 113), .long 1), false), ((8, .long 100, .elem (.arg 1761) (.int 113)), false), ((100, .elem (.arg 2944) (.int 0), .arg 1318), true), ((104, .add (.arg 6625) (.add (.arg 7041) (.elem (.arg 2944) (.int 0))), .arg 1318), true), ((2, .arg 2816, .int 1), false), ((2, .int 7, .arg 2816), false), ((102, .add (.arg 1300) (.add (.elem (.arg 2880) (.int 0)) (.elem (.arg 19616) (.int 0))), .arg 1302), true)]
noncomputable def i_fo : sI := [([((0, .arg 2816, .int 4), true)], (0, .arg 3232, .arg 1340), true), ([((0, .arg 2816, .int 4), false)], (0, .arg 1340, .int 0), true), ([((0, .arg 2816, .int 4), true)], (0, .arg 64000, .int 4), true), ([((0, .op2 .iand (.op2 .iushr (.arg 2848) (.int 4)) (.int 1), .int 0), true)], (0, .arg 3328, .arg 21088), true), ([((0, .arg 2816, .int 4), true), ((6, .arg 7073, .long 1), true)], (0, .arg 3008, .arg 20576), true)]
noncomputable def c_follq : sC := ((35, 364, 10), ([tr 56], [tr 219, .arg 1308]), ([56, 52, 53, 42, 43, 48, 49, 50, 51], [219, 228, 229, 220, 221, 267, 268, 269, 265, 270, 266, 273, 275, 274, 281, 271, 287, 272, 288, 289, 234, 235, 297, 302, 290, 291, 292, 293, 260, 261]), [((6, .op2 .ladd (.op1 .i2l (.arg 20448)) (.long 1), .op1 .i2l (.add (.arg 20448) (.int 1))), true), ((0, .op2 .iand (.op2 .iand (.arg 2848) (.int (-17))) (.int (-17)), .op2 .iand (.arg 60192) (.int (-17))), true), ((0, .op2 .iand (.arg 2848) (.int (-17)), .op2 .iand (.arg 60192) (.int (-17))), true), ((8, .long 65535, .op1 .i2l (.arg 20448)), false), ((8, .op1 .i2l (.arg 20448), .long 0), false), ((8, .elem (.arg 1761) (.int 126), .long 0), false), ((8, .long 1000000, .elem (.arg 1761) (.int 126)), false), ((8, .elem (.arg 1761) (.int 127), .long 0), false), ((8, .long 65535, .elem (.arg 1761) (.int 127)), false), ((8, .elem (.arg 1761) (.int 128), .long 0), false), ((8, .long 1000000, .elem (.arg 1761) (.int 128)), false), ((8, .elem (.arg 1761) (.int 113), .long 1), false), ((8, .long 100, .elem (.arg 1761) (.int 113)), false), ((100, .elem (.arg 2944) (.int 0), .arg 1318), true), ((104, .add (.arg 6625) (.add (.arg 7041) (.elem (.arg 2944) (.int 0))), .arg 1318), true), ((2, .arg 2816, .int 1), false), ((2, .int 7, .arg 2816), false), ((102, .add (.arg 1300) (.add (.elem (.arg 2880) (.int 0)) (.elem (.arg 19616) (.int 0))), .arg 1302), true), ((0, .arg 2848, .arg 60192), true)], ([1697, 1729, 2081, 1633, 20448, 3008, 20576, 3328, 21088, 2848, 1300, 1302, 6338, 7105, 7137, 7169, 1318, 1350, 2816, 1340, 6625, 7041, 6753, 6785, 6817, 6849, 6881, 6913, 6945, 6977, 7009], [2944, 2976, 2880, 19616]), (none, none), [((8, .long 65535, .op1 .i2l (.arg 20448)), false), ((8, .op1 .i2l (.arg 20448), .long 0), false), ((8, .elem (.arg 1761) (.int 126), .long 0), false), ((8, .long 1000000, .elem (.arg 1761) (.int 126)), false), ((8, .elem (.arg 1761) (.int 127), .long 0), false), ((8, .long 65535, .elem (.arg 1761) (.int 127)), false), ((8, .elem (.arg 1761) (.int 128), .long 0), false), ((8, .long 1000000, .elem (.arg 1761) (.int 128)), false), ((8, .elem (.arg 1761) (.int 113), .long 1), false), ((8, .long 100, .elem (.arg 1761) (.int 113)), false), ((100, .elem (.arg 2944) (.int 0), .arg 1318), true), ((104, .add (.arg 6625) (.add (.arg 7041) (.elem (.arg 2944) (.int 0))), .arg 1318), true), ((2, .arg 2816, .int 1), false), ((2, .int 7, .arg 2816), false), ((102, .add (.arg 1300) (.add (.elem (.arg 2880) (.int 0)) (.elem (.arg 19616) (.int 0))), .arg 1302), true), ((0, .op2 .iand (.arg 2848) (.int (-17)), .op2 .iand (.arg 60192) (.int (-17))), true)], ([([((8, .elem (.arg 1761) (.int 127), .op2 .ladd (.op1 .i2l (.arg 20448)) (.long 1)), false)], (8, .long 65535, .op1 .i2l (.add (.arg 20448) (.int 1))), false), ([((0, .op2 .iand (.arg 2848) (.int 16), .int 0), true)], (0, .add (.arg 3328) (.int 1), .add (.arg 21088) (.int 1)), true), ([((0, .op2 .iand (.arg 2848) (.int 16), .int 0), true)], (6, .op1 .i2l (.add (.arg 3328) (.int 1)), .op1 .i2l (.add (.arg 21088) (.int 1))), true), ([((0, .arg 2816, .int 4), true), ((6, .arg 7073, .long 1), true)], (0, .add (.arg 3008) (.int 1), .add (.arg 20576) (.int 1)), true), ([((2, .arg 2816, .int 4), true)], (6, .arg 1633, .arg 1697), true), ([((2, .int 6, .arg 2816), true)], (6, .arg 1633, .arg 1697), true), ([((0, .arg 2816, .int 4), true)], (0, .arg 3232, .arg 1340), true), ([((0, .arg 2816, .int 4), false)], (0, .arg 1340, .int 0), true), ([((0, .arg 2816, .int 4), true)], (0, .arg 64000, .int 4), true), ([((0, .op2 .iand (.op2 .iushr (.arg 2848) (.int 4)) (.int 1), .int 0), true)], (0, .arg 3328, .arg 21088), true), ([((0, .arg 2816, .int 4), true), ((6, .arg 7073, .long 1), true)], (0, .arg 3008, .arg 20576), true)], [([((0, .arg 2816, .int 4), true)], (0, .arg 3232, .arg 1340), true), ([((0, .arg 2816, .int 4), false)], (0, .arg 1340, .int 0), true), ([((0, .arg 2816, .int 4), true)], (0, .arg 64000, .int 4), true), ([((0, .op2 .iand (.op2 .iushr (.arg 2848) (.int 4)) (.int 1), .int 0), true)], (0, .arg 3328, .arg 21088), true), ([((0, .arg 2816, .int 4), true), ((6, .arg 7073, .long 1), true)], (0, .arg 3008, .arg 20576), true)]))
theorem c_follq_f : cfine zWP 65536 c_follq = true := by decide +kernel
theorem g_fls : cgood 65536 c_fls = true := by decide +kernel
theorem k_fls : ruse kR zWS c_fls zWP c_follq = true := by decide +kernel
theorem s_follq {X : pX} : SREL X pF pdfl mt_all kR zWP c_follq := SREL_use kR_x kR_0 s_fls g_fls c_follq_f k_fls
theorem b_16 {x : Int32} (h : x &&& 16 = 0) : (x.toUInt32 >>> ((4 : Int32).toUInt32 &&& Int32.toUInt32 31)).toInt32 &&& 1 = 0 := by
  have hb : x.toBitVec.getLsbD 4 = false := by
    have h' := congrArg (fun y : Int32 => y.toBitVec.getLsbD 4) h
    have e : (16 : Int32).toBitVec.getLsbD 4 = true := by decide
    have e0 : (0 : Int32).toBitVec.getLsbD 4 = false := by decide
    simpa only [Int32.toBitVec_and, BitVec.getLsbD_and, e, e0, Bool.and_true] using h'
  apply Int32.toBitVec_inj.mp
  have h4 : ((4 : Int32).toUInt32 &&& Int32.toUInt32 31) = 4 := by decide
  rw [h4]
  apply BitVec.eq_of_getLsbD_eq
  intro k hk
  have e0 : (0 : Int32).toBitVec.getLsbD k = false := by
    have : (0 : Int32).toBitVec = 0#32 := by decide
    rw [this]
    simp
  rw [e0, Int32.toBitVec_and, BitVec.getLsbD_and]
  by_cases h0 : k = 0
  · subst h0
    have e1 : (x.toUInt32 >>> (4 : UInt32)).toInt32.toBitVec.getLsbD 0 = x.toBitVec.getLsbD 4 := by
      show (x.toUInt32 >>> (4 : UInt32)).toBitVec.getLsbD 0 = _
      rw [UInt32.toBitVec_shiftRight]
      have : (4 : UInt32).toBitVec % 32 = 4#32 := by decide
      rw [this]
      show (x.toBitVec >>> (4#32)).getLsbD 0 = _
      rw [BitVec.ushiftRight_eq', BitVec.getLsbD_ushiftRight]
      rfl
    rw [e1, hb, Bool.false_and]
  · have e1 : (1 : Int32).toBitVec.getLsbD k = false := by
      have : (1 : Int32).toBitVec = 1#32 := by decide
      rw [this]
      simp [BitVec.getLsbD_one, h0]
    rw [e1, Bool.and_false]
theorem fo_e1 {x : Int32} (h0 : 0 ≤ x.toInt) (h1 : x.toInt ≤ 65535) : x.toInt64 + 1 = (x + 1).toInt64 := by
  have e : x.toInt64.toInt = x.toInt := Int32.toInt_toInt64 x
  have z : (1 : Int64).toInt = 1 := rfl
  have z2 : (1 : Int32).toInt = 1 := rfl
  apply Int64.toInt_inj.mp
  rw [l_add (by rw [e, z]; omega) (by rw [e, z]; omega), Int32.toInt_toInt64, Int32.toInt_toInt64, s_add (by rw [z2]; omega) (by rw [z2]; omega), z, z2]
noncomputable def c_foll0 : sC := (c_follq.1, c_follq.2.1, c_follq.2.2.1, [((8, .long 65535, .op1 .i2l (.arg 20448)), false), ((8, .op1 .i2l (.arg 20448), .long 0), false), ((8, .elem (.arg 1761) (.int 126), .long 0), false), ((8, .long 1000000, .elem (.arg 1761) (.int 126)), false), ((8, .elem (.arg 1761) (.int 127), .long 0), false), ((8, .long 65535, .elem (.arg 1761) (.int 127)), false), ((8, .elem (.arg 1761) (.int 128), .long 0), false), ((8, .long 1000000, .elem (.arg 1761) (.int 128)), false), ((8, .elem (.arg 1761) (.int 113), .long 1), false), ((8, .long 100, .elem (.arg 1761) (.int 113)), false), ((100, .elem (.arg 2944) (.int 0), .arg 1318), true), ((104, .add (.arg 6625) (.add (.arg 7041) (.elem (.arg 2944) (.int 0))), .arg 1318), true), ((2, .arg 2816, .int 1), false), ((2, .int 7, .arg 2816), false), ((102, .add (.arg 1300) (.add (.elem (.arg 2880) (.int 0)) (.elem (.arg 19616) (.int 0))), .arg 1302), true), ((0, .arg 2848, .arg 60192), true)], c_follq.2.2.2.2.1, c_follq.2.2.2.2.2.1, c_follq.2.2.2.2.2.2.1, ([([((2, .arg 2816, .int 4), true)], (6, .arg 1633, .arg 1697), true), ([((2, .int 6, .arg 2816), true)], (6, .arg 1633, .arg 1697), true), ([((0, .arg 2816, .int 4), true)], (0, .arg 3232, .arg 1340), true), ([((0, .arg 2816, .int 4), false)], (0, .arg 1340, .int 0), true), ([((0, .arg 2816, .int 4), true)], (0, .arg 64000, .int 4), true), ([((0, .op2 .iand (.op2 .iushr (.arg 2848) (.int 4)) (.int 1), .int 0), true)], (0, .arg 3328, .arg 21088), true), ([((0, .arg 2816, .int 4), true), ((6, .arg 7073, .long 1), true)], (0, .arg 3008, .arg 20576), true)], c_follq.2.2.2.2.2.2.2.2))
theorem s_foll0 {X : pX} : SREL X pF pdfl mt_all kR zWP c_foll0 := SREL_mono s_follq
  (fun ρ hF hI => by
    have hu : ¬ (65535 : Int64) < (ρ.1 20448).toInt64 := of_decide_eq_false (hF.2 ((8, .long 65535, .op1 .i2l (.arg 20448)), false) List.mem_cons_self)
    have hl : ¬ (ρ.1 20448).toInt64 < 0 := of_decide_eq_false (hF.2 ((8, .op1 .i2l (.arg 20448), .long 0), false) (List.mem_cons_of_mem _ List.mem_cons_self))
    have hv : ¬ (65535 : Int64) < ρ.2.2.2.1 1761 127 := of_decide_eq_false (hF.2 ((8, .long 65535, .elem (.arg 1761) (.int 127)), false) (List.mem_cons_of_mem _ (List.mem_cons_of_mem _ (List.mem_cons_of_mem _ (List.mem_cons_of_mem _ (List.mem_cons_of_mem _ (List.mem_cons_self)))))))
    have hu : (ρ.1 20448).toInt64.toInt ≤ 65535 := Int64.le_iff_toInt_le.mp (Int64.not_lt.mp hu)
    have hl : 0 ≤ (ρ.1 20448).toInt64.toInt := Int64.le_iff_toInt_le.mp (Int64.not_lt.mp hl)
    rw [Int32.toInt_toInt64] at hu hl
    have e1 := fo_e1 hl hu
    have ea : ρ.1 2848 = ρ.1 60192 := of_decide_eq_true (hF.2 _ (List.mem_cons_of_mem _ (List.mem_cons_of_mem _ (List.mem_cons_of_mem _ (List.mem_cons_of_mem _ (List.mem_cons_of_mem _ (List.mem_cons_of_mem _ (List.mem_cons_of_mem _ (List.mem_cons_of_mem _ (List.mem_cons_of_mem _ (List.mem_cons_of_mem _ (List.mem_cons_of_mem _ (List.mem_cons_of_mem _ (List.mem_cons_of_mem _ (List.mem_cons_of_mem _ (List.mem_cons_of_mem _ (List.mem_cons_self)))))))))))))))))
    refine ⟨⟨hF.1, fa_cons (decide_eq_true e1) (fa_cons (decide_eq_true (show (ρ.1 2848 &&& -17) &&& -17 = ρ.1 60192 &&& -17 by rw [ea, Int32.and_assoc, Int32.and_self])) (fa_cons (decide_eq_true (show ρ.1 2848 &&& -17 = ρ.1 60192 &&& -17 by rw [ea])) hF.2))⟩, fun c hc => ?_⟩
    rcases List.mem_cons.mp hc with hc | hc
    · subst hc
      intro hg
      have g1 : ¬ ρ.2.2.2.1 1761 127 < (ρ.1 20448).toInt64 + 1 := of_decide_eq_false (hg ((8, .elem (.arg 1761) (.int 127), .op2 .ladd (.op1 .i2l (.arg 20448)) (.long 1)), false) List.mem_cons_self)
      refine decide_eq_false (fun q => ?_)
      have q : (65535 : Int64) < (ρ.1 20448 + 1).toInt64 := q
      rw [← e1] at q
      have g1 := Int64.le_iff_toInt_le.mp (Int64.not_lt.mp g1)
      have g2 := Int64.le_iff_toInt_le.mp (Int64.not_lt.mp hv)
      have q := Int64.lt_iff_toInt_lt.mp q
      omega
    rcases List.mem_cons.mp hc with hc | hc
    · subst hc
      intro hg
      have h8 : ρ.1 2848 &&& 16 = 0 := of_decide_eq_true (hg _ List.mem_cons_self)
      have h9 : ρ.1 3328 = ρ.1 21088 := of_decide_eq_true (hI _ (List.mem_cons_of_mem _ (List.mem_cons_of_mem _ (List.mem_cons_of_mem _ (List.mem_cons_of_mem _ (List.mem_cons_of_mem _ (List.mem_cons_self)))))) (fun g hg => by
        rw [List.mem_singleton.mp hg]
        exact decide_eq_true (b_16 h8)))
      exact decide_eq_true (show ρ.1 3328 + 1 = ρ.1 21088 + 1 by rw [h9])
    rcases List.mem_cons.mp hc with hc | hc
    · subst hc
      intro hg
      have h8 : ρ.1 2848 &&& 16 = 0 := of_decide_eq_true (hg _ List.mem_cons_self)
      have h9 : ρ.1 3328 = ρ.1 21088 := of_decide_eq_true (hI _ (List.mem_cons_of_mem _ (List.mem_cons_of_mem _ (List.mem_cons_of_mem _ (List.mem_cons_of_mem _ (List.mem_cons_of_mem _ (List.mem_cons_self)))))) (fun g hg => by
        rw [List.mem_singleton.mp hg]
        exact decide_eq_true (b_16 h8)))
      exact decide_eq_true (show (ρ.1 3328 + 1).toInt64 = (ρ.1 21088 + 1).toInt64 by rw [h9])
    rcases List.mem_cons.mp hc with hc | hc
    · subst hc
      intro hg
      have h9 : ρ.1 3008 = ρ.1 20576 := of_decide_eq_true (hI _ (List.mem_cons_of_mem _ (List.mem_cons_of_mem _ (List.mem_cons_of_mem _ (List.mem_cons_of_mem _ (List.mem_cons_of_mem _ (List.mem_cons_of_mem _ (List.mem_cons_self))))))) hg)
      exact decide_eq_true (show ρ.1 3008 + 1 = ρ.1 20576 + 1 by rw [h9])
    · exact hI c hc)
  (fun ρ hF hI => ⟨hF, hI⟩)
