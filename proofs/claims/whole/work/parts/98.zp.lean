set_option maxRecDepth 20000
noncomputable def c_goo : sC := ((153, 316, 14), ([tr 60], [tr 219, .arg 1308]), ([2, 3, 4, 5, 6, 7, 9, 10, 11, 12, 13, 15, 49, 50, 51, 42, 43, 56, 52, 60, 57, 61, 62, 63, 64, 65, 66, 67, 69, 71, 74, 40, 72, 73], [237, 238, 239, 240, 241, 296, 219, 228, 229, 290, 291, 292, 293, 220, 221, 260, 261, 267, 268, 270, 271, 309, 310, 259, 297, 302, 288, 281, 279, 280, 266, 265, 282, 284, 304, 306, 308, 311, 299]), [((100, .elem (.arg 2944) (.int 0), .arg 1318), true), ((104, .add (.arg 6625) (.add (.arg 7041) (.elem (.arg 2944) (.int 0))), .arg 1318), true), ((2, .arg 2816, .int 1), false), ((2, .int 7, .arg 2816), false), ((0, .arg 2050, .int 0), true), ((101, .elem (.arg 1761) (.int 0), .int 0), true), ((137, .add (.elem (.arg 1761) (.int 0)) (.add (.arg 2848) (.add (.elem (.arg 24512) (.int 0)) (.add (.elem (.arg 2404) (.int 0)) (.add (.elem (.arg 24544) (.int 0)) (.add (.elem (.arg 2436) (.int 0)) (.add (.arg 5728) (.add (.arg 5760) (.add (.arg 5792) (.add (.arg 5824) (.add (.arg 5856) (.add (.arg 5888) (.add (.arg 5920) (.add (.arg 5952) (.add (.arg 2082) (.add (.arg 2114) (.add (.arg 2146) (.add (.arg 2178) (.add (.arg 6850) (.add (.arg 6882) (.add (.arg 6914) (.add (.arg 6946) (.add (.arg 2210) (.add (.arg 2242) (.add (.arg 2274) (.add (.arg 2306) (.add (.arg 7362) (.add (.arg 7394) (.add (.arg 7426) (.add (.arg 7458) (.add (.arg 2338) (.add (.arg 2370) (.add (.arg 2402) (.add (.arg 2434) (.add (.arg 7874) (.add (.arg 7906) (.add (.arg 7938) (.add (.arg 7970) (.add (.arg 6240) (.add (.arg 6272) (.add (.arg 6304) (.add (.arg 6336) (.add (.arg 21216) (.add (.arg 21248) (.add (.arg 21280) (.add (.arg 21312) (.add (.arg 1570) (.add (.arg 1602) (.add (.arg 6466) (.arg 6498))))))))))))))))))))))))))))))))))))))))))))))))), .int 0), true), ((0, .op2 .iand (.op2 .iushr (.arg 2848) (.int 0)) (.int 1), .arg 60384), true), ((0, .op2 .iand (.op2 .iushr (.arg 2848) (.int 1)) (.int 1), .arg 60416), true), ((0, .op2 .iand (.op2 .iushr (.arg 2848) (.int 4)) (.int 1), .arg 60448), true)], ([1290, 1322, 1354, 1386, 1312, 1794, 1318, 1350, 2816, 1340, 6625, 7041, 6753, 6785, 6817, 6849, 6881, 6913, 6945, 6977, 7009, 60002, 64065, 2848, 2338, 2370, 2402, 2434, 6240, 6272, 6304, 6336, 5856, 5888, 5920, 5952, 7874, 7906, 7938, 7970, 2369, 2401, 2433, 2465, 6112, 6144, 6176, 6208], [2944, 2976, 1408, 1440, 1472, 1504, 1281, 1313, 1345, 1377, 24544, 2436]), (none, none), [((100, .elem (.arg 2944) (.int 0), .arg 1318), true), ((104, .add (.arg 6625) (.add (.arg 7041) (.elem (.arg 2944) (.int 0))), .arg 1318), true), ((2, .arg 2816, .int 1), false), ((2, .int 7, .arg 2816), false), ((101, .elem (.arg 1761) (.int 0), .int 0), true), ((137, .add (.elem (.arg 1761) (.int 0)) (.add (.arg 2848) (.add (.elem (.arg 24512) (.int 0)) (.add (.elem (.arg 2404) (.int 0)) (.add (.elem (.arg 24544) (.int 0)) (.add (.elem (.arg 2436) (.int 0)) (.add (.arg 5728) (.add (.arg 5760) (.add (.arg 5792) (.add (.arg 5824) (.add (.arg 5856) (.add (.arg 5888) (.add (.arg 5920) (.add (.arg 5952) (.add (.arg 2082) (.add (.arg 2114) (.add (.arg 2146) (.add (.arg 2178) (.add (.arg 6850) (.add (.arg 6882) (.add (.arg 6914) (.add (.arg 6946) (.add (.arg 2210) (.add (.arg 2242) (.add (.arg 2274) (.add (.arg 2306) (.add (.arg 7362) (.add (.arg 7394) (.add (.arg 7426) (.add (.arg 7458) (.add (.arg 2338) (.add (.arg 2370) (.add (.arg 2402) (.add (.arg 2434) (.add (.arg 7874) (.add (.arg 7906) (.add (.arg 7938) (.add (.arg 7970) (.add (.arg 6240) (.add (.arg 6272) (.add (.arg 6304) (.add (.arg 6336) (.add (.arg 21216) (.add (.arg 21248) (.add (.arg 21280) (.add (.arg 21312) (.add (.arg 1570) (.add (.arg 1602) (.add (.arg 6466) (.arg 6498))))))))))))))))))))))))))))))))))))))))))))))))), .int 0), true), ((0, .op2 .iand (.op2 .iushr (.arg 2848) (.int 0)) (.int 1), .arg 60384), true), ((0, .op2 .iand (.op2 .iushr (.arg 2848) (.int 1)) (.int 1), .arg 60416), true), ((0, .op2 .iand (.op2 .iushr (.arg 2848) (.int 4)) (.int 1), .arg 60448), true)], ([([((0, .arg 2816, .int 4), true)], (0, .arg 3232, .arg 1340), true), ([((0, .arg 2816, .int 4), false)], (0, .arg 1340, .int 0), true), ([((0, .arg 2816, .int 4), true)], (0, .arg 64000, .int 4), true), ([((0, .arg 64000, .int 4), true), ((0, .arg 2050, .int 0), true), ((6, .arg 7073, .long 6), true), ((0, .arg 2018, .int 0), false)], (0, .arg 20704, .arg 3072), true), ([((0, .arg 64000, .int 4), true), ((0, .arg 2050, .int 0), true), ((6, .arg 7073, .long 6), true), ((0, .arg 2018, .int 0), true)], (0, .arg 20704, .int 0), true), ([((0, .arg 64000, .int 4), true), ((0, .arg 2050, .int 0), true), ((6, .arg 7073, .long 6), true), ((0, .arg 2018, .int 0), false)], (2, .int 0, .arg 3072), true), ([((0, .arg 64000, .int 4), true), ((0, .arg 2050, .int 0), true), ((6, .arg 7073, .long 6), true), ((0, .arg 2018, .int 0), false)], (2, .arg 3072, .int 5), true), ([((0, .arg 64000, .int 4), true), ((0, .arg 2050, .int 0), true), ((6, .arg 7073, .long 6), true), ((0, .arg 2018, .int 0), false), ((0, .arg 3040, .int 17), false)], (0, .arg 3040, .int 18), true), ([((0, .arg 64000, .int 4), true), ((0, .arg 2050, .int 0), true), ((6, .arg 7073, .long (-1)), true), ((0, .arg 2018, .int 0), false)], (0, .arg 20832, .arg 3104), true), ([((0, .arg 64000, .int 4), true), ((0, .arg 2050, .int 0), true), ((6, .arg 7073, .long (-1)), true), ((0, .arg 2018, .int 0), true)], (0, .arg 20832, .int (-1)), true), ([((0, .arg 64000, .int 4), true), ((0, .arg 2050, .int 0), true), ((6, .arg 7073, .long (-1)), true), ((0, .arg 2018, .int 0), false)], (2, .int (-1), .arg 3104), true), ([((0, .arg 64000, .int 4), true), ((0, .arg 2050, .int 0), true), ((6, .arg 7073, .long (-1)), true), ((0, .arg 2018, .int 0), false)], (2, .arg 3104, .int 12), true), ([((0, .arg 64000, .int 4), true), ((0, .arg 2050, .int 0), true), ((6, .arg 7073, .long (-1)), true), ((0, .arg 2018, .int 0), false)], (2, .arg 3104, .div (.arg 1330) (.int 12)), true), ([((0, .arg 64000, .int 4), true), ((0, .arg 2050, .int 0), true), ((6, .arg 7073, .long (-1)), true), ((0, .arg 2018, .int 0), false)], (8, .long 0, .arg 5473), true), ([((0, .arg 64000, .int 4), true), ((0, .arg 2050, .int 0), true), ((6, .arg 7073, .long 1), true)], (0, .arg 3008, .arg 20576), true), ([((0, .arg 64000, .int 4), true), ((0, .arg 2050, .int 0), true), ((6, .arg 7073, .long 6), false)], (0, .arg 1986, .int 0), true), ([((0, .arg 64000, .int 4), true), ((0, .arg 2050, .int 0), true), ((6, .arg 7073, .long 0), true)], (0, .arg 1954, .int 0), true), ([((6, .arg 7073, .long (-1)), false), ((6, .arg 7073, .long 0), false), ((6, .arg 7073, .long 1), false), ((6, .arg 7073, .long 3), false), ((6, .arg 7073, .long 6), false)], (6, .arg 7073, .long 8), true)], [([((0, .arg 2816, .int 4), true)], (0, .arg 3232, .arg 1340), true), ([((0, .arg 2816, .int 4), false)], (0, .arg 1340, .int 0), true), ([((0, .arg 2816, .int 4), true)], (0, .arg 64000, .int 4), true)]))
theorem c_goo_f : cfine zWP 65536 c_goo = true := by decide +kernel
noncomputable def zf98zp_0 : sQ × Bool := ((100, .elem (.arg 2944) (.int 0), .arg 1318), true)
noncomputable def zf98zp_1 : sQ × Bool := ((104, .add (.arg 6625) (.add (.arg 7041) (.elem (.arg 2944) (.int 0))), .arg 1318), true)
noncomputable def zf98zp_2 : sQ × Bool := ((2, .arg 2816, .int 1), false)
noncomputable def zf98zp_3 : sQ × Bool := ((2, .int 7, .arg 2816), false)
noncomputable def zf98zp_4 : sQ × Bool := ((101, .elem (.arg 1761) (.int 0), .int 0), true)
noncomputable def zf98zp_5 : sQ × Bool := ((137, .add (.elem (.arg 1761) (.int 0)) (.add (.arg 2848) (.add (.elem (.arg 24512) (.int 0)) (.add (.elem (.arg 2404) (.int 0)) (.add (.elem (.arg 24544) (.int 0)) (.add (.elem (.arg 2436) (.int 0)) (.add (.arg 5728) (.add (.arg 5760) (.add (.arg 5792) (.add (.arg 5824) (.add (.arg 5856) (.add (.arg 5888) (.add (.arg 5920) (.add (.arg 5952) (.add (.arg 2082) (.add (.arg 2114) (.add (.arg 2146) (.add (.arg 2178) (.add (.arg 6850) (.add (.arg 6882) (.add (.arg 6914) (.add (.arg 6946) (.add (.arg 2210) (.add (.arg 2242) (.add (.arg 2274) (.add (.arg 2306) (.add (.arg 7362) (.add (.arg 7394) (.add (.arg 7426) (.add (.arg 7458) (.add (.arg 2338) (.add (.arg 2370) (.add (.arg 2402) (.add (.arg 2434) (.add (.arg 7874) (.add (.arg 7906) (.add (.arg 7938) (.add (.arg 7970) (.add (.arg 6240) (.add (.arg 6272) (.add (.arg 6304) (.add (.arg 6336) (.add (.arg 21216) (.add (.arg 21248) (.add (.arg 21280) (.add (.arg 21312) (.add (.arg 1570) (.add (.arg 1602) (.add (.arg 6466) (.arg 6498))))))))))))))))))))))))))))))))))))))))))))))))), .int 0), true)
noncomputable def zf98zp_6 : sQ × Bool := ((0, .op2 .iand (.op2 .iushr (.arg 2848) (.int 0)) (.int 1), .arg 60384), true)
noncomputable def zf98zp_7 : sQ × Bool := ((0, .op2 .iand (.op2 .iushr (.arg 2848) (.int 1)) (.int 1), .arg 60416), true)
noncomputable def zf98zp_8 : sQ × Bool := ((0, .op2 .iand (.op2 .iushr (.arg 2848) (.int 4)) (.int 1), .arg 60448), true)
noncomputable def q_go4 : sCut := ((fr 0 153 8 [(0, tr 60), (1, .int 4)] [], [fBot], 13), (fr 0 316 2 [(0, tr 219), (1, .arg 1308), (2, .int 4)] [], [fBot], 13), [((0, .arg 2784, .int 5), true), zf98zp_0, zf98zp_1, zf98zp_2, zf98zp_3, ((0, .arg 2050, .int 0), true), zf98zp_4, zf98zp_5, zf98zp_6, zf98zp_7, zf98zp_8], i_go)
theorem k_go4 : cbody kR [] (cpl1 zWP c_goo []) (cpl2 zWP c_goo []) (cleaf kR zWP c_goo []) 30 true true q_go4.2.2.1 q_go4.2.2.2 (cst zWP c_goo.2.2.1.1 q_go4.1) (cst zWP c_goo.2.2.1.2 q_go4.2.1) = true := by decide +kernel
theorem t_go4 {X : pX} {ρ0 : sR} (hv : vok X ρ0) : CUTOK X kR zWP c_goo 13 ρ0 q_go4 := CUT_run kR_x kR_0 (Cs := []) (fun C hC => by cases hC) c_goo_f (Q := []) hv (fun q hq => by cases hq) 30 (b1 := true) (b2 := true) k_go4
noncomputable def zf98zp_9 : sQ × Bool := ((134, .add (.sub (.mul (.int 3) (.int 5)) (.int (-90))) (.add (.elem (.arg 1761) (.int 0)) (.add (.arg 2816) (.add (.arg 2784) (.add (.arg 1665) (.add (.arg 1633) (.add (.arg 7073) (.add (.arg 3008) (.add (.arg 2018) (.add (.arg 1954) (.add (.arg 1986) (.add (.arg 1697) (.add (.arg 1729) (.add (.arg 1296) (.add (.arg 1634) (.add (.arg 6625) (.add (.arg 7041) (.add (.arg 7105) (.add (.arg 7137) (.arg 7169))))))))))))))))))), .arg 64065), true)
noncomputable def zf98zp_10 : sQ × Bool := ((134, .add (.int 105) (.add (.elem (.arg 1761) (.int 0)) (.add (.arg 2816) (.add (.arg 2784) (.add (.arg 1665) (.add (.arg 1633) (.add (.arg 7073) (.add (.arg 3008) (.add (.arg 2018) (.add (.arg 1954) (.add (.arg 1986) (.add (.arg 1697) (.add (.arg 1729) (.add (.arg 1296) (.add (.arg 1634) (.add (.arg 6625) (.add (.arg 7041) (.add (.arg 7105) (.add (.arg 7137) (.arg 7169))))))))))))))))))), .arg 64065), true)
noncomputable def zf98zp_11 : sQ × Bool := ((0, .op2 .iand (.arg 2848) (.int 32768), .int 0), true)
noncomputable def zf98zp_12 : sQ × Bool := ((8, .elem (.arg 1761) (.int 87), .long 254), false)
noncomputable def zf98zp_13 : sQ × Bool := ((6, .op2 .land (.elem (.arg 1761) (.int 86)) (.long 2147483648), .long 0), true)
noncomputable def zf98zp_14 : sQ × Bool := ((8, .long 0, .elem (.arg 1761) (.int 105)), true)
noncomputable def q_gk3 : sCut := ((fr 0 153 31 [(0, tr 60), (1, .int 3), (2, .int 85)] [], [fBot], 13), (fr 0 316 2 [(0, tr 219), (1, .arg 1308), (2, .int 3)] [], [fBot], 13), [zf98zp_9, zf98zp_10, zf98zp_11, zf98zp_12, zf98zp_13, zf98zp_14, ((0, .arg 2784, .int 5), true), zf98zp_0, zf98zp_1, zf98zp_2, zf98zp_3, ((0, .arg 2050, .int 0), true), zf98zp_4, zf98zp_5, zf98zp_6, zf98zp_7, zf98zp_8], i_gh)
noncomputable def zf98zp_15 : sQ × Bool := ((145, .add (.elem (.arg 1761) (.int 0)) (.add (.sub (.mul (.int 3) (.int 5)) (.int (-90))) (.add (.elem (.arg 24544) (.int 0)) (.add (.elem (.arg 2436) (.int 0)) (.mul (.int 3) (.int 4))))), .int 0), true)
noncomputable def zf98zp_16 : sQ × Bool := ((109, .add (.int 6147) (.int 1), .int 86), true)
noncomputable def zf98zp_17 : sQ × Bool := ((109, .add (.int 6147) (.int 2), .int 87), true)
noncomputable def zf98zp_18 : sQ × Bool := ((109, .add (.int 6147) (.int 3), .int 88), true)
noncomputable def zf98zp_19 : sQ × Bool := ((109, .add (.int 6147) (.int 5), .int 89), true)
noncomputable def zf98zp_20 : sQ × Bool := ((109, .add (.int 6659) (.int 0), .int 105), true)
noncomputable def zf98zp_21 : sQ × Bool := ((6, .op2 .land (.op2 .lshr (.elem (.arg 1761) (.int 86)) (.int 31)) (.long 1), .long 1), false)
noncomputable def zf98zp_22 : sQ × Bool := ((0, .arg 7970, .arg 2434), true)
noncomputable def q_gk3s0 : sCut := ((fr 0 153 31 [(0, tr 60), (1, .int 3), (2, .int 85)] [], [fBot], 13), (fr 0 316 2 [(0, tr 219), (1, .arg 1308), (2, .int 3)] [], [fBot], 13), [((0, .arg 2434, .int 0), true), ((0, .arg 7970, .int 0), true), zf98zp_15, zf98zp_16, zf98zp_17, zf98zp_18, zf98zp_19, zf98zp_20, zf98zp_21, zf98zp_22, zf98zp_9, zf98zp_10, zf98zp_11, zf98zp_12, zf98zp_13, zf98zp_14, ((0, .arg 2784, .int 5), true), zf98zp_0, zf98zp_1, zf98zp_2, zf98zp_3, ((0, .arg 2050, .int 0), true), zf98zp_4, zf98zp_5, zf98zp_6, zf98zp_7, zf98zp_8], i_gh)
theorem k_gk3s0 : cbody kR [(zWP, c_gat), (zWP, c_bou), (zWP, c_rel3), (zWP, c_fndl)] (cpl1 zWP c_goo [q_go4]) (cpl2 zWP c_goo [q_go4]) (cleaf kR zWP c_goo [q_go4]) 400 true true q_gk3s0.2.2.1 q_gk3s0.2.2.2 (cst zWP c_goo.2.2.1.1 q_gk3s0.1) (cst zWP c_goo.2.2.1.2 q_gk3s0.2.1) = true := by decide +kernel
theorem t_gk3s0 {X : pX} {ρ0 : sR} (hv : vok X ρ0) : CUTOK X kR zWP c_goo 13 ρ0 q_gk3s0 := CUT_run kR_x kR_0 (Cs := [(zWP, c_gat), (zWP, c_bou), (zWP, c_rel3), (zWP, c_fndl)]) (fun C hC => by
    simp only [List.mem_cons, List.not_mem_nil, or_false] at hC
    rcases hC with hC | hC | hC | hC
    · rw [hC]; exact s_gat
    · rw [hC]; exact s_bou
    · rw [hC]; exact s_rel3
    · rw [hC]; exact s_fndl) c_goo_f (Q := [q_go4]) hv (fun q hq => by
    simp only [List.mem_cons, List.not_mem_nil, or_false] at hq
    rw [hq]; exact t_go4 hv) 400 (b1 := true) (b2 := true) k_gk3s0
noncomputable def zf98zp_23 : sQ × Bool := ((0, .arg 2434, .int 0), false)
noncomputable def zf98zp_24 : sQ × Bool := ((0, .arg 7970, .int 0), false)
noncomputable def q_gk3sa : sCut := ((fr 0 153 31 [(0, tr 60), (1, .int 3), (2, .int 85)] [], [fBot], 13), (fr 0 316 2 [(0, tr 219), (1, .arg 1308), (2, .int 3)] [], [fBot], 13), [zf98zp_23, zf98zp_24, ((8, .op1 .i2l (.sub (.arg 1280) (.arg 6208)), .elem (.arg 1761) (.int 88)), true), zf98zp_15, zf98zp_16, zf98zp_17, zf98zp_18, zf98zp_19, zf98zp_20, zf98zp_21, zf98zp_22, zf98zp_9, zf98zp_10, zf98zp_11, zf98zp_12, zf98zp_13, zf98zp_14, ((0, .arg 2784, .int 5), true), zf98zp_0, zf98zp_1, zf98zp_2, zf98zp_3, ((0, .arg 2050, .int 0), true), zf98zp_4, zf98zp_5, zf98zp_6, zf98zp_7, zf98zp_8], i_gh)
theorem k_gk3sa : cbody kR [(zWP, c_gat), (zWP, c_bou), (zWP, c_rel3), (zWP, c_fndl)] (cpl1 zWP c_goo [q_go4]) (cpl2 zWP c_goo [q_go4]) (cleaf kR zWP c_goo [q_go4]) 400 true true q_gk3sa.2.2.1 q_gk3sa.2.2.2 (cst zWP c_goo.2.2.1.1 q_gk3sa.1) (cst zWP c_goo.2.2.1.2 q_gk3sa.2.1) = true := by decide +kernel
theorem t_gk3sa {X : pX} {ρ0 : sR} (hv : vok X ρ0) : CUTOK X kR zWP c_goo 13 ρ0 q_gk3sa := CUT_run kR_x kR_0 (Cs := [(zWP, c_gat), (zWP, c_bou), (zWP, c_rel3), (zWP, c_fndl)]) (fun C hC => by
    simp only [List.mem_cons, List.not_mem_nil, or_false] at hC
    rcases hC with hC | hC | hC | hC
    · rw [hC]; exact s_gat
    · rw [hC]; exact s_bou
    · rw [hC]; exact s_rel3
    · rw [hC]; exact s_fndl) c_goo_f (Q := [q_go4]) hv (fun q hq => by
    simp only [List.mem_cons, List.not_mem_nil, or_false] at hq
    rw [hq]; exact t_go4 hv) 400 (b1 := true) (b2 := true) k_gk3sa
noncomputable def q_gk3sb : sCut := ((fr 0 153 31 [(0, tr 60), (1, .int 3), (2, .int 85)] [], [fBot], 13), (fr 0 316 2 [(0, tr 219), (1, .arg 1308), (2, .int 3)] [], [fBot], 13), [zf98zp_23, zf98zp_24, ((8, .op1 .i2l (.sub (.arg 1280) (.arg 6208)), .elem (.arg 1761) (.int 88)), false), zf98zp_15, zf98zp_16, zf98zp_17, zf98zp_18, zf98zp_19, zf98zp_20, zf98zp_21, zf98zp_22, zf98zp_9, zf98zp_10, zf98zp_11, zf98zp_12, zf98zp_13, zf98zp_14, ((0, .arg 2784, .int 5), true), zf98zp_0, zf98zp_1, zf98zp_2, zf98zp_3, ((0, .arg 2050, .int 0), true), zf98zp_4, zf98zp_5, zf98zp_6, zf98zp_7, zf98zp_8], i_gh)
theorem k_gk3sb : cbody kR [(zWP, c_gat), (zWP, c_bou), (zWP, c_rel3), (zWP, c_fndl)] (cpl1 zWP c_goo [q_go4]) (cpl2 zWP c_goo [q_go4]) (cleaf kR zWP c_goo [q_go4]) 400 true true q_gk3sb.2.2.1 q_gk3sb.2.2.2 (cst zWP c_goo.2.2.1.1 q_gk3sb.1) (cst zWP c_goo.2.2.1.2 q_gk3sb.2.1) = true := by decide +kernel
theorem t_gk3sb {X : pX} {ρ0 : sR} (hv : vok X ρ0) : CUTOK X kR zWP c_goo 13 ρ0 q_gk3sb := CUT_run kR_x kR_0 (Cs := [(zWP, c_gat), (zWP, c_bou), (zWP, c_rel3), (zWP, c_fndl)]) (fun C hC => by
    simp only [List.mem_cons, List.not_mem_nil, or_false] at hC
    rcases hC with hC | hC | hC | hC
    · rw [hC]; exact s_gat
    · rw [hC]; exact s_bou
    · rw [hC]; exact s_rel3
    · rw [hC]; exact s_fndl) c_goo_f (Q := [q_go4]) hv (fun q hq => by
    simp only [List.mem_cons, List.not_mem_nil, or_false] at hq
    rw [hq]; exact t_go4 hv) 400 (b1 := true) (b2 := true) k_gk3sb
theorem t_gk3 {X : pX} {ρ0 : sR} (hv : vok X ρ0) : CUTOK X kR zWP c_goo 13 ρ0 q_gk3 := fun ρ k1 hF hI k4 => by
  have hb : abit (ρ.1 2848).toInt (12 + 3) = false := ab_z (c := 32768) (of_decide_eq_true (hF.2 _ (List.mem_cons_of_mem _ (List.mem_cons_of_mem _ (List.mem_cons_self))))) (by decide)
  obtain ⟨⟨⟨h0, i0⟩, ⟨h1, i1⟩, ⟨h2, i2⟩, h3, i3⟩, j0, j1⟩ := pd_iff.mp (hF.2 _ (List.mem_cons_of_mem _ (List.mem_cons_of_mem _ (List.mem_cons_of_mem _ (List.mem_cons_of_mem _ (List.mem_cons_of_mem _ (List.mem_cons_of_mem _ (List.mem_cons_of_mem _ (List.mem_cons_of_mem _ (List.mem_cons_of_mem _ (List.mem_cons_of_mem _ (List.mem_cons_of_mem _ (List.mem_cons_of_mem _ (List.mem_cons_of_mem _ (List.mem_cons_self)))))))))))))))
  rw [hb] at i3
  have he := (po_e i3).1
  have he : ρ.1 7970 = ρ.1 2434 := Int32.toInt_inj.mp he
  have hm : amapm (ρ.2.2.2.1 1761) 105 12 (ρ.2.2.1 24544) (ρ.2.2.1 2436) = true := po_m i3
  have f5 : sc X ρ (145, .add (.elem (.arg 1761) (.int 0)) (.add (.sub (.mul (.int 3) (.int 5)) (.int (-90))) (.add (.elem (.arg 24544) (.int 0)) (.add (.elem (.arg 2436) (.int 0)) (.mul (.int 3) (.int 4))))), .int 0) = true := s145 (x := 15) (y := -90) (z := 12) (show ((3 : Int32)) * 5 = 15 by decide +kernel) rfl (show ((3 : Int32)) * 4 = 12 by decide +kernel) (by decide +kernel) (by decide +kernel) hm
  have p0 := s9_i (X := X) (ρ := ρ) (a := .int 6147) (t := .int 86) (k := 1) rfl rfl (show ((86 : Int32)).toInt = aslot ((6147 : Int32)).toInt ((1 : Int32)).toInt by decide +kernel)
  have p1 := s9_i (X := X) (ρ := ρ) (a := .int 6147) (t := .int 87) (k := 2) rfl rfl (show ((87 : Int32)).toInt = aslot ((6147 : Int32)).toInt ((2 : Int32)).toInt by decide +kernel)
  have p2 := s9_i (X := X) (ρ := ρ) (a := .int 6147) (t := .int 88) (k := 3) rfl rfl (show ((88 : Int32)).toInt = aslot ((6147 : Int32)).toInt ((3 : Int32)).toInt by decide +kernel)
  have p3 := s9_i (X := X) (ρ := ρ) (a := .int 6147) (t := .int 89) (k := 5) rfl rfl (show ((89 : Int32)).toInt = aslot ((6147 : Int32)).toInt ((5 : Int32)).toInt by decide +kernel)
  have p4 := s9_i (X := X) (ρ := ρ) (a := .int 6659) (t := .int 105) (k := 0) rfl rfl (show ((105 : Int32)).toInt = aslot ((6659 : Int32)).toInt ((0 : Int32)).toInt by decide +kernel)
  have fo := decide_eq_false (of0_ (x := (ρ.2.2.2.1 1761) 86) (of_decide_eq_true (hF.2 _ (List.mem_cons_of_mem _ (List.mem_cons_of_mem _ (List.mem_cons_of_mem _ (List.mem_cons_of_mem _ (List.mem_cons_self))))))))
  have fe := decide_eq_true he
  by_cases hs : ρ.1 2434 = 0
  · exact t_gk3s0 hv ρ k1 ⟨hF.1, fcn (decide_eq_true hs) (fcn (decide_eq_true (he.trans hs)) (fcn (f5) (fcn (p0) (fcn (p1) (fcn (p2) (fcn (p3) (fcn (p4) (fcn (fo) (fcn (fe) (hF.2))))))))))⟩ hI k4
  have g1 := decide_eq_false hs
  have g2 := decide_eq_false (show ¬ ρ.1 7970 = 0 from fun q => hs (he.symm.trans q))
  by_cases hv3 : sc X ρ (8, .op1 .i2l (.sub (.arg 1280) (.arg 6208)), .elem (.arg 1761) (.int 88)) = true
  · exact t_gk3sa hv ρ k1 ⟨hF.1, fcn (g1) (fcn (g2) (fcn (hv3) (fcn (f5) (fcn (p0) (fcn (p1) (fcn (p2) (fcn (p3) (fcn (p4) (fcn (fo) (fcn (fe) (hF.2)))))))))))⟩ hI k4
  · have hv3 := Bool.not_eq_true _ ▸ hv3
    exact t_gk3sb hv ρ k1 ⟨hF.1, fcn (g1) (fcn (g2) (fcn (hv3) (fcn (f5) (fcn (p0) (fcn (p1) (fcn (p2) (fcn (p3) (fcn (p4) (fcn (fo) (fcn (fe) (hF.2)))))))))))⟩ hI k4
noncomputable def q_gj3 : sCut := ((fr 0 153 31 [(0, tr 60), (1, .int 3), (2, .int 85)] [], [fBot], 13), (fr 0 316 2 [(0, tr 219), (1, .arg 1308), (2, .int 3)] [], [fBot], 13), [zf98zp_11, zf98zp_12, zf98zp_13, zf98zp_14, ((0, .arg 2784, .int 5), true), zf98zp_0, zf98zp_1, zf98zp_2, zf98zp_3, ((0, .arg 2050, .int 0), true), zf98zp_4, zf98zp_5, zf98zp_6, zf98zp_7, zf98zp_8], i_gh)
theorem t_gj3 {X : pX} {ρ0 : sR} (hv : vok X ρ0) : CUTOK X kR zWP c_goo 13 ρ0 q_gj3 := CUT_set (g := 64065) kR_x (by decide +kernel) (by decide) (by decide +kernel) (by decide +kernel) (by decide +kernel) (by decide +kernel) (by decide +kernel) (fun ρ k1 hF hI => ⟨0, Int64.ofInt (aout (aits X ρ (.add (.elem (.arg 1761) (.int 0)) (.add (.arg 2816) (.add (.arg 2784) (.add (.arg 1665) (.add (.arg 1633) (.add (.arg 7073) (.add (.arg 3008) (.add (.arg 2018) (.add (.arg 1954) (.add (.arg 1986) (.add (.arg 1697) (.add (.arg 1729) (.add (.arg 1296) (.add (.arg 1634) (.add (.arg 6625) (.add (.arg 7041) (.add (.arg 7105) (.add (.arg 7137) (.arg 7169)))))))))))))))))))) 105), fun ρ' ag e1 e2 hF' hI' => ⟨⟨hF'.1, fcn (s134 (X := X) (a := .mul (.int 3) (.int 5)) (b := .int (-90)) (x := 15) (y := -90) (m := 105) ag (show ((3 : Int32)) * 5 = 15 by decide +kernel) rfl (by decide +kernel) e2) (fcn (s134i (X := X) (x := 105) ag (by decide +kernel) e2) hF'.2)⟩, hI'⟩⟩) (t_gk3 hv)
noncomputable def q_gi3 : sCut := ((fr 0 153 31 [(0, tr 60), (1, .int 3), (2, .int 85)] [], [fBot], 13), (fr 0 316 2 [(0, tr 219), (1, .arg 1308), (2, .int 3)] [], [fBot], 13), [zf98zp_11, zf98zp_12, zf98zp_13, zf98zp_14, ((0, .arg 2784, .int 5), true), zf98zp_0, zf98zp_1, zf98zp_2, zf98zp_3, ((0, .arg 2050, .int 0), true), zf98zp_4, zf98zp_5, zf98zp_6, zf98zp_7, zf98zp_8], i_go)
theorem t_gi3 {X : pX} {ρ0 : sR} (hv : vok X ρ0) : CUTOK X kR zWP c_goo 13 ρ0 q_gi3 := CUT_mono (t_gj3 hv) (fun ρ hF hI => ⟨hF, iv_gh hI⟩)
noncomputable def q_go3 : sCut := ((fr 0 153 8 [(0, tr 60), (1, .int 3)] [], [fBot], 13), (fr 0 316 2 [(0, tr 219), (1, .arg 1308), (2, .int 3)] [], [fBot], 13), [((0, .arg 2784, .int 5), true), zf98zp_0, zf98zp_1, zf98zp_2, zf98zp_3, ((0, .arg 2050, .int 0), true), zf98zp_4, zf98zp_5, zf98zp_6, zf98zp_7, zf98zp_8], i_go)
noncomputable def q_go3a : sCut := ((fr 0 153 8 [(0, tr 60), (1, .int 3)] [], [fBot], 13), (fr 0 316 2 [(0, tr 219), (1, .arg 1308), (2, .int 3)] [], [fBot], 13), [((8, .elem (.arg 1761) (.int 87), .long 254), true), zf98zp_16, zf98zp_17, zf98zp_20, ((0, .arg 2784, .int 5), true), zf98zp_0, zf98zp_1, zf98zp_2, zf98zp_3, ((0, .arg 2050, .int 0), true), zf98zp_4, zf98zp_5, zf98zp_6, zf98zp_7, zf98zp_8], i_go)
theorem k_go3a : cbody kR [(zWP, c_fndl)] (cpl1 zWP c_goo [q_go4]) (cpl2 zWP c_goo [q_go4]) (cleaf kR zWP c_goo [q_go4]) 400 true true q_go3a.2.2.1 q_go3a.2.2.2 (cst zWP c_goo.2.2.1.1 q_go3a.1) (cst zWP c_goo.2.2.1.2 q_go3a.2.1) = true := by decide +kernel
theorem t_go3a {X : pX} {ρ0 : sR} (hv : vok X ρ0) : CUTOK X kR zWP c_goo 13 ρ0 q_go3a := CUT_run kR_x kR_0 (Cs := [(zWP, c_fndl)]) (fun C hC => by rw [List.mem_singleton.mp hC]; exact s_fndl) c_goo_f (Q := [q_go4]) hv (fun q hq => by
    simp only [List.mem_cons, List.not_mem_nil, or_false] at hq
    rw [hq]; exact t_go4 hv) 400 (b1 := true) (b2 := true) k_go3a
noncomputable def q_go3b : sCut := ((fr 0 153 8 [(0, tr 60), (1, .int 3)] [], [fBot], 13), (fr 0 316 2 [(0, tr 219), (1, .arg 1308), (2, .int 3)] [], [fBot], 13), [zf98zp_12, ((6, .op2 .land (.elem (.arg 1761) (.int 86)) (.long 2147483648), .long 0), false), ((6, .op2 .land (.op2 .lshr (.elem (.arg 1761) (.int 86)) (.int 31)) (.long 1), .long 1), true), zf98zp_16, zf98zp_17, zf98zp_20, ((0, .arg 2784, .int 5), true), zf98zp_0, zf98zp_1, zf98zp_2, zf98zp_3, ((0, .arg 2050, .int 0), true), zf98zp_4, zf98zp_5, zf98zp_6, zf98zp_7, zf98zp_8], i_go)
theorem k_go3b : cbody kR [(zWP, c_ofo3), (zWP, c_fndl)] (cpl1 zWP c_goo [q_go4]) (cpl2 zWP c_goo [q_go4]) (cleaf kR zWP c_goo [q_go4]) 400 true true q_go3b.2.2.1 q_go3b.2.2.2 (cst zWP c_goo.2.2.1.1 q_go3b.1) (cst zWP c_goo.2.2.1.2 q_go3b.2.1) = true := by decide +kernel
theorem t_go3b {X : pX} {ρ0 : sR} (hv : vok X ρ0) : CUTOK X kR zWP c_goo 13 ρ0 q_go3b := CUT_run kR_x kR_0 (Cs := [(zWP, c_ofo3), (zWP, c_fndl)]) (fun C hC => by
    simp only [List.mem_cons, List.not_mem_nil, or_false] at hC
    rcases hC with hC | hC
    · rw [hC]; exact s_ofo3
    · rw [hC]; exact s_fndl) c_goo_f (Q := [q_go4]) hv (fun q hq => by
    simp only [List.mem_cons, List.not_mem_nil, or_false] at hq
    rw [hq]; exact t_go4 hv) 400 (b1 := true) (b2 := true) k_go3b
noncomputable def q_go3c : sCut := ((fr 0 153 8 [(0, tr 60), (1, .int 3)] [], [fBot], 13), (fr 0 316 2 [(0, tr 219), (1, .arg 1308), (2, .int 3)] [], [fBot], 13), [zf98zp_12, zf98zp_13, zf98zp_21, ((8, .long 0, .elem (.arg 1761) (.int 105)), false), zf98zp_16, zf98zp_17, zf98zp_20, ((0, .arg 2784, .int 5), true), zf98zp_0, zf98zp_1, zf98zp_2, zf98zp_3, ((0, .arg 2050, .int 0), true), zf98zp_4, zf98zp_5, zf98zp_6, zf98zp_7, zf98zp_8], i_go)
theorem k_go3c : cbody kR [(zWP, c_ono3n), (zWP, c_fndl)] (cpl1 zWP c_goo [q_go4]) (cpl2 zWP c_goo [q_go4]) (cleaf kR zWP c_goo [q_go4]) 400 true true q_go3c.2.2.1 q_go3c.2.2.2 (cst zWP c_goo.2.2.1.1 q_go3c.1) (cst zWP c_goo.2.2.1.2 q_go3c.2.1) = true := by decide +kernel
theorem t_go3c {X : pX} {ρ0 : sR} (hv : vok X ρ0) : CUTOK X kR zWP c_goo 13 ρ0 q_go3c := CUT_run kR_x kR_0 (Cs := [(zWP, c_ono3n), (zWP, c_fndl)]) (fun C hC => by
    simp only [List.mem_cons, List.not_mem_nil, or_false] at hC
    rcases hC with hC | hC
    · rw [hC]; exact s_ono3n
    · rw [hC]; exact s_fndl) c_goo_f (Q := [q_go4]) hv (fun q hq => by
    simp only [List.mem_cons, List.not_mem_nil, or_false] at hq
    rw [hq]; exact t_go4 hv) 400 (b1 := true) (b2 := true) k_go3c
noncomputable def q_go3d : sCut := ((fr 0 153 8 [(0, tr 60), (1, .int 3)] [], [fBot], 13), (fr 0 316 2 [(0, tr 219), (1, .arg 1308), (2, .int 3)] [], [fBot], 13), [zf98zp_12, zf98zp_13, zf98zp_14, ((0, .arg 2784, .int 5), true), zf98zp_0, zf98zp_1, zf98zp_2, zf98zp_3, ((0, .arg 2050, .int 0), true), zf98zp_4, zf98zp_5, zf98zp_6, zf98zp_7, zf98zp_8], i_go)
theorem k_go3d : cbody kR [(zWP, c_ono3y)] (cpl1 zWP c_goo [q_gi3]) (cpl2 zWP c_goo [q_gi3]) (cleaf kR zWP c_goo [q_gi3]) 400 true false q_go3d.2.2.1 q_go3d.2.2.2 (cst zWP c_goo.2.2.1.1 q_go3d.1) (cst zWP c_goo.2.2.1.2 q_go3d.2.1) = true := by decide +kernel
theorem t_go3d {X : pX} {ρ0 : sR} (hv : vok X ρ0) : CUTOK X kR zWP c_goo 13 ρ0 q_go3d := CUT_run kR_x kR_0 (Cs := [(zWP, c_ono3y)]) (fun C hC => by rw [List.mem_singleton.mp hC]; exact s_ono3y) c_goo_f (Q := [q_gi3]) hv (fun q hq => by
    simp only [List.mem_cons, List.not_mem_nil, or_false] at hq
    rw [hq]; exact t_gi3 hv) 400 (b1 := true) (b2 := false) k_go3d
theorem t_go3 {X : pX} {ρ0 : sR} (hv : vok X ρ0) : CUTOK X kR zWP c_goo 13 ρ0 q_go3 := fun ρ k1 hF hI k4 => by
  have p0 := s9_i (X := X) (ρ := ρ) (a := .int 6147) (t := .int 86) (k := 1) rfl rfl (show ((86 : Int32)).toInt = aslot ((6147 : Int32)).toInt ((1 : Int32)).toInt by decide +kernel)
  have p1 := s9_i (X := X) (ρ := ρ) (a := .int 6147) (t := .int 87) (k := 2) rfl rfl (show ((87 : Int32)).toInt = aslot ((6147 : Int32)).toInt ((2 : Int32)).toInt by decide +kernel)
  have p2 := s9_i (X := X) (ρ := ρ) (a := .int 6659) (t := .int 105) (k := 0) rfl rfl (show ((105 : Int32)).toInt = aslot ((6659 : Int32)).toInt ((0 : Int32)).toInt by decide +kernel)
  by_cases h1 : sc X ρ (8, .elem (.arg 1761) (.int 87), .long 254) = true
  · exact t_go3a hv ρ k1 ⟨hF.1, fcn (h1) (fcn (p0) (fcn (p1) (fcn (p2) (hF.2))))⟩ hI k4
  have h1 := Bool.not_eq_true _ ▸ h1
  by_cases h2 : (ρ.2.2.2.1 1761) 86 &&& 2147483648 = 0
  · by_cases h3 : sc X ρ (8, .long 0, .elem (.arg 1761) (.int 105)) = true
    · exact t_go3d hv ρ k1 ⟨hF.1, fcn (h1) (fcn (decide_eq_true h2) (fcn (h3) (hF.2)))⟩ hI k4
    · have h3 := Bool.not_eq_true _ ▸ h3
      exact t_go3c hv ρ k1 ⟨hF.1, fcn (h1) (fcn (decide_eq_true h2) (fcn (decide_eq_false (of0_ h2)) (fcn (h3) (fcn (p0) (fcn (p1) (fcn (p2) (hF.2)))))))⟩ hI k4
  · exact t_go3b hv ρ k1 ⟨hF.1, fcn (h1) (fcn (decide_eq_false h2) (fcn (decide_eq_true (of1_ h2)) (fcn (p0) (fcn (p1) (fcn (p2) (hF.2))))))⟩ hI k4
noncomputable def zf98zp_25 : sQ × Bool := ((134, .add (.sub (.mul (.int 2) (.int 5)) (.int (-90))) (.add (.elem (.arg 1761) (.int 0)) (.add (.arg 2816) (.add (.arg 2784) (.add (.arg 1665) (.add (.arg 1633) (.add (.arg 7073) (.add (.arg 3008) (.add (.arg 2018) (.add (.arg 1954) (.add (.arg 1986) (.add (.arg 1697) (.add (.arg 1729) (.add (.arg 1296) (.add (.arg 1634) (.add (.arg 6625) (.add (.arg 7041) (.add (.arg 7105) (.add (.arg 7137) (.arg 7169))))))))))))))))))), .arg 64065), true)
noncomputable def zf98zp_26 : sQ × Bool := ((134, .add (.int 100) (.add (.elem (.arg 1761) (.int 0)) (.add (.arg 2816) (.add (.arg 2784) (.add (.arg 1665) (.add (.arg 1633) (.add (.arg 7073) (.add (.arg 3008) (.add (.arg 2018) (.add (.arg 1954) (.add (.arg 1986) (.add (.arg 1697) (.add (.arg 1729) (.add (.arg 1296) (.add (.arg 1634) (.add (.arg 6625) (.add (.arg 7041) (.add (.arg 7105) (.add (.arg 7137) (.arg 7169))))))))))))))))))), .arg 64065), true)
noncomputable def zf98zp_27 : sQ × Bool := ((0, .op2 .iand (.arg 2848) (.int 16384), .int 0), true)
noncomputable def zf98zp_28 : sQ × Bool := ((8, .elem (.arg 1761) (.int 82), .long 254), false)
noncomputable def zf98zp_29 : sQ × Bool := ((6, .op2 .land (.elem (.arg 1761) (.int 81)) (.long 2147483648), .long 0), true)
noncomputable def zf98zp_30 : sQ × Bool := ((8, .long 0, .elem (.arg 1761) (.int 100)), true)
noncomputable def q_gk2 : sCut := ((fr 0 153 31 [(0, tr 60), (1, .int 2), (2, .int 80)] [], [fBot], 13), (fr 0 316 2 [(0, tr 219), (1, .arg 1308), (2, .int 2)] [], [fBot], 13), [zf98zp_25, zf98zp_26, zf98zp_27, zf98zp_28, zf98zp_29, zf98zp_30, ((0, .arg 2784, .int 5), true), zf98zp_0, zf98zp_1, zf98zp_2, zf98zp_3, ((0, .arg 2050, .int 0), true), zf98zp_4, zf98zp_5, zf98zp_6, zf98zp_7, zf98zp_8], i_gh)
noncomputable def zf98zp_31 : sQ × Bool := ((145, .add (.elem (.arg 1761) (.int 0)) (.add (.sub (.mul (.int 2) (.int 5)) (.int (-90))) (.add (.elem (.arg 24544) (.int 0)) (.add (.elem (.arg 2436) (.int 0)) (.mul (.int 2) (.int 4))))), .int 0), true)
noncomputable def zf98zp_32 : sQ × Bool := ((109, .add (.int 6146) (.int 1), .int 81), true)
noncomputable def zf98zp_33 : sQ × Bool := ((109, .add (.int 6146) (.int 2), .int 82), true)
noncomputable def zf98zp_34 : sQ × Bool := ((109, .add (.int 6146) (.int 3), .int 83), true)
noncomputable def zf98zp_35 : sQ × Bool := ((109, .add (.int 6146) (.int 5), .int 84), true)
noncomputable def zf98zp_36 : sQ × Bool := ((109, .add (.int 6658) (.int 0), .int 100), true)
noncomputable def zf98zp_37 : sQ × Bool := ((6, .op2 .land (.op2 .lshr (.elem (.arg 1761) (.int 81)) (.int 31)) (.long 1), .long 1), false)
noncomputable def zf98zp_38 : sQ × Bool := ((0, .arg 7938, .arg 2402), true)
noncomputable def q_gk2s0 : sCut := ((fr 0 153 31 [(0, tr 60), (1, .int 2), (2, .int 80)] [], [fBot], 13), (fr 0 316 2 [(0, tr 219), (1, .arg 1308), (2, .int 2)] [], [fBot], 13), [((0, .arg 2402, .int 0), true), ((0, .arg 7938, .int 0), true), zf98zp_31, zf98zp_32, zf98zp_33, zf98zp_34, zf98zp_35, zf98zp_36, zf98zp_37, zf98zp_38, zf98zp_25, zf98zp_26, zf98zp_27, zf98zp_28, zf98zp_29, zf98zp_30, ((0, .arg 2784, .int 5), true), zf98zp_0, zf98zp_1, zf98zp_2, zf98zp_3, ((0, .arg 2050, .int 0), true), zf98zp_4, zf98zp_5, zf98zp_6, zf98zp_7, zf98zp_8], i_gh)
theorem k_gk2s0 : cbody kR [(zWP, c_gat), (zWP, c_bou), (zWP, c_rel2), (zWP, c_fndl)] (cpl1 zWP c_goo [q_go3]) (cpl2 zWP c_goo [q_go3]) (cleaf kR zWP c_goo [q_go3]) 400 true true q_gk2s0.2.2.1 q_gk2s0.2.2.2 (cst zWP c_goo.2.2.1.1 q_gk2s0.1) (cst zWP c_goo.2.2.1.2 q_gk2s0.2.1) = true := by decide +kernel
theorem t_gk2s0 {X : pX} {ρ0 : sR} (hv : vok X ρ0) : CUTOK X kR zWP c_goo 13 ρ0 q_gk2s0 := CUT_run kR_x kR_0 (Cs := [(zWP, c_gat), (zWP, c_bou), (zWP, c_rel2), (zWP, c_fndl)]) (fun C hC => by
    simp only [List.mem_cons, List.not_mem_nil, or_false] at hC
    rcases hC with hC | hC | hC | hC
    · rw [hC]; exact s_gat
    · rw [hC]; exact s_bou
    · rw [hC]; exact s_rel2
    · rw [hC]; exact s_fndl) c_goo_f (Q := [q_go3]) hv (fun q hq => by
    simp only [List.mem_cons, List.not_mem_nil, or_false] at hq
    rw [hq]; exact t_go3 hv) 400 (b1 := true) (b2 := true) k_gk2s0
noncomputable def zf98zp_39 : sQ × Bool := ((0, .arg 2402, .int 0), false)
noncomputable def zf98zp_40 : sQ × Bool := ((0, .arg 7938, .int 0), false)
noncomputable def q_gk2sa : sCut := ((fr 0 153 31 [(0, tr 60), (1, .int 2), (2, .int 80)] [], [fBot], 13), (fr 0 316 2 [(0, tr 219), (1, .arg 1308), (2, .int 2)] [], [fBot], 13), [zf98zp_39, zf98zp_40, ((8, .op1 .i2l (.sub (.arg 1280) (.arg 6176)), .elem (.arg 1761) (.int 83)), true), zf98zp_31, zf98zp_32, zf98zp_33, zf98zp_34, zf98zp_35, zf98zp_36, zf98zp_37, zf98zp_38, zf98zp_25, zf98zp_26, zf98zp_27, zf98zp_28, zf98zp_29, zf98zp_30, ((0, .arg 2784, .int 5), true), zf98zp_0, zf98zp_1, zf98zp_2, zf98zp_3, ((0, .arg 2050, .int 0), true), zf98zp_4, zf98zp_5, zf98zp_6, zf98zp_7, zf98zp_8], i_gh)
theorem k_gk2sa : cbody kR [(zWP, c_gat), (zWP, c_bou), (zWP, c_rel2), (zWP, c_fndl)] (cpl1 zWP c_goo [q_go3]) (cpl2 zWP c_goo [q_go3]) (cleaf kR zWP c_goo [q_go3]) 400 true true q_gk2sa.2.2.1 q_gk2sa.2.2.2 (cst zWP c_goo.2.2.1.1 q_gk2sa.1) (cst zWP c_goo.2.2.1.2 q_gk2sa.2.1) = true := by decide +kernel
theorem t_gk2sa {X : pX} {ρ0 : sR} (hv : vok X ρ0) : CUTOK X kR zWP c_goo 13 ρ0 q_gk2sa := CUT_run kR_x kR_0 (Cs := [(zWP, c_gat), (zWP, c_bou), (zWP, c_rel2), (zWP, c_fndl)]) (fun C hC => by
    simp only [List.mem_cons, List.not_mem_nil, or_false] at hC
    rcases hC with hC | hC | hC | hC
    · rw [hC]; exact s_gat
    · rw [hC]; exact s_bou
    · rw [hC]; exact s_rel2
    · rw [hC]; exact s_fndl) c_goo_f (Q := [q_go3]) hv (fun q hq => by
    simp only [List.mem_cons, List.not_mem_nil, or_false] at hq
    rw [hq]; exact t_go3 hv) 400 (b1 := true) (b2 := true) k_gk2sa
noncomputable def q_gk2sb : sCut := ((fr 0 153 31 [(0, tr 60), (1, .int 2), (2, .int 80)] [], [fBot], 13), (fr 0 316 2 [(0, tr 219), (1, .arg 1308), (2, .int 2)] [], [fBot], 13), [zf98zp_39, zf98zp_40, ((8, .op1 .i2l (.sub (.arg 1280) (.arg 6176)), .elem (.arg 1761) (.int 83)), false), zf98zp_31, zf98zp_32, zf98zp_33, zf98zp_34, zf98zp_35, zf98zp_36, zf98zp_37, zf98zp_38, zf98zp_25, zf98zp_26, zf98zp_27, zf98zp_28, zf98zp_29, zf98zp_30, ((0, .arg 2784, .int 5), true), zf98zp_0, zf98zp_1, zf98zp_2, zf98zp_3, ((0, .arg 2050, .int 0), true), zf98zp_4, zf98zp_5, zf98zp_6, zf98zp_7, zf98zp_8], i_gh)
theorem k_gk2sb : cbody kR [(zWP, c_gat), (zWP, c_bou), (zWP, c_rel2), (zWP, c_fndl)] (cpl1 zWP c_goo [q_go3]) (cpl2 zWP c_goo [q_go3]) (cleaf kR zWP c_goo [q_go3]) 400 true true q_gk2sb.2.2.1 q_gk2sb.2.2.2 (cst zWP c_goo.2.2.1.1 q_gk2sb.1) (cst zWP c_goo.2.2.1.2 q_gk2sb.2.1) = true := by decide +kernel
theorem t_gk2sb {X : pX} {ρ0 : sR} (hv : vok X ρ0) : CUTOK X kR zWP c_goo 13 ρ0 q_gk2sb := CUT_run kR_x kR_0 (Cs := [(zWP, c_gat), (zWP, c_bou), (zWP, c_rel2), (zWP, c_fndl)]) (fun C hC => by
    simp only [List.mem_cons, List.not_mem_nil, or_false] at hC
    rcases hC with hC | hC | hC | hC
    · rw [hC]; exact s_gat
    · rw [hC]; exact s_bou
    · rw [hC]; exact s_rel2
    · rw [hC]; exact s_fndl) c_goo_f (Q := [q_go3]) hv (fun q hq => by
    simp only [List.mem_cons, List.not_mem_nil, or_false] at hq
    rw [hq]; exact t_go3 hv) 400 (b1 := true) (b2 := true) k_gk2sb
theorem t_gk2 {X : pX} {ρ0 : sR} (hv : vok X ρ0) : CUTOK X kR zWP c_goo 13 ρ0 q_gk2 := fun ρ k1 hF hI k4 => by
  have hb : abit (ρ.1 2848).toInt (12 + 2) = false := ab_z (c := 16384) (of_decide_eq_true (hF.2 _ (List.mem_cons_of_mem _ (List.mem_cons_of_mem _ (List.mem_cons_self))))) (by decide)
  obtain ⟨⟨⟨h0, i0⟩, ⟨h1, i1⟩, ⟨h2, i2⟩, h3, i3⟩, j0, j1⟩ := pd_iff.mp (hF.2 _ (List.mem_cons_of_mem _ (List.mem_cons_of_mem _ (List.mem_cons_of_mem _ (List.mem_cons_of_mem _ (List.mem_cons_of_mem _ (List.mem_cons_of_mem _ (List.mem_cons_of_mem _ (List.mem_cons_of_mem _ (List.mem_cons_of_mem _ (List.mem_cons_of_mem _ (List.mem_cons_of_mem _ (List.mem_cons_of_mem _ (List.mem_cons_of_mem _ (List.mem_cons_self)))))))))))))))
  rw [hb] at i2
  have he := (po_e i2).1
  have he : ρ.1 7938 = ρ.1 2402 := Int32.toInt_inj.mp he
  have hm : amapm (ρ.2.2.2.1 1761) 100 8 (ρ.2.2.1 24544) (ρ.2.2.1 2436) = true := po_m i2
  have f5 : sc X ρ (145, .add (.elem (.arg 1761) (.int 0)) (.add (.sub (.mul (.int 2) (.int 5)) (.int (-90))) (.add (.elem (.arg 24544) (.int 0)) (.add (.elem (.arg 2436) (.int 0)) (.mul (.int 2) (.int 4))))), .int 0) = true := s145 (x := 10) (y := -90) (z := 8) (show ((2 : Int32)) * 5 = 10 by decide +kernel) rfl (show ((2 : Int32)) * 4 = 8 by decide +kernel) (by decide +kernel) (by decide +kernel) hm
  have p0 := s9_i (X := X) (ρ := ρ) (a := .int 6146) (t := .int 81) (k := 1) rfl rfl (show ((81 : Int32)).toInt = aslot ((6146 : Int32)).toInt ((1 : Int32)).toInt by decide +kernel)
  have p1 := s9_i (X := X) (ρ := ρ) (a := .int 6146) (t := .int 82) (k := 2) rfl rfl (show ((82 : Int32)).toInt = aslot ((6146 : Int32)).toInt ((2 : Int32)).toInt by decide +kernel)
  have p2 := s9_i (X := X) (ρ := ρ) (a := .int 6146) (t := .int 83) (k := 3) rfl rfl (show ((83 : Int32)).toInt = aslot ((6146 : Int32)).toInt ((3 : Int32)).toInt by decide +kernel)
  have p3 := s9_i (X := X) (ρ := ρ) (a := .int 6146) (t := .int 84) (k := 5) rfl rfl (show ((84 : Int32)).toInt = aslot ((6146 : Int32)).toInt ((5 : Int32)).toInt by decide +kernel)
  have p4 := s9_i (X := X) (ρ := ρ) (a := .int 6658) (t := .int 100) (k := 0) rfl rfl (show ((100 : Int32)).toInt = aslot ((6658 : Int32)).toInt ((0 : Int32)).toInt by decide +kernel)
  have fo := decide_eq_false (of0_ (x := (ρ.2.2.2.1 1761) 81) (of_decide_eq_true (hF.2 _ (List.mem_cons_of_mem _ (List.mem_cons_of_mem _ (List.mem_cons_of_mem _ (List.mem_cons_of_mem _ (List.mem_cons_self))))))))
  have fe := decide_eq_true he
  by_cases hs : ρ.1 2402 = 0
  · exact t_gk2s0 hv ρ k1 ⟨hF.1, fcn (decide_eq_true hs) (fcn (decide_eq_true (he.trans hs)) (fcn (f5) (fcn (p0) (fcn (p1) (fcn (p2) (fcn (p3) (fcn (p4) (fcn (fo) (fcn (fe) (hF.2))))))))))⟩ hI k4
  have g1 := decide_eq_false hs
  have g2 := decide_eq_false (show ¬ ρ.1 7938 = 0 from fun q => hs (he.symm.trans q))
  by_cases hv3 : sc X ρ (8, .op1 .i2l (.sub (.arg 1280) (.arg 6176)), .elem (.arg 1761) (.int 83)) = true
  · exact t_gk2sa hv ρ k1 ⟨hF.1, fcn (g1) (fcn (g2) (fcn (hv3) (fcn (f5) (fcn (p0) (fcn (p1) (fcn (p2) (fcn (p3) (fcn (p4) (fcn (fo) (fcn (fe) (hF.2)))))))))))⟩ hI k4
  · have hv3 := Bool.not_eq_true _ ▸ hv3
    exact t_gk2sb hv ρ k1 ⟨hF.1, fcn (g1) (fcn (g2) (fcn (hv3) (fcn (f5) (fcn (p0) (fcn (p1) (fcn (p2) (fcn (p3) (fcn (p4) (fcn (fo) (fcn (fe) (hF.2)))))))))))⟩ hI k4
noncomputable def q_gj2 : sCut := ((fr 0 153 31 [(0, tr 60), (1, .int 2), (2, .int 80)] [], [fBot], 13), (fr 0 316 2 [(0, tr 219), (1, .arg 1308), (2, .int 2)] [], [fBot], 13), [zf98zp_27, zf98zp_28, zf98zp_29, zf98zp_30, ((0, .arg 2784, .int 5), true), zf98zp_0, zf98zp_1, zf98zp_2, zf98zp_3, ((0, .arg 2050, .int 0), true), zf98zp_4, zf98zp_5, zf98zp_6, zf98zp_7, zf98zp_8], i_gh)
theorem t_gj2 {X : pX} {ρ0 : sR} (hv : vok X ρ0) : CUTOK X kR zWP c_goo 13 ρ0 q_gj2 := CUT_set (g := 64065) kR_x (by decide +kernel) (by decide) (by decide +kernel) (by decide +kernel) (by decide +kernel) (by decide +kernel) (by decide +kernel) (fun ρ k1 hF hI => ⟨0, Int64.ofInt (aout (aits X ρ (.add (.elem (.arg 1761) (.int 0)) (.add (.arg 2816) (.add (.arg 2784) (.add (.arg 1665) (.add (.arg 1633) (.add (.arg 7073) (.add (.arg 3008) (.add (.arg 2018) (.add (.arg 1954) (.add (.arg 1986) (.add (.arg 1697) (.add (.arg 1729) (.add (.arg 1296) (.add (.arg 1634) (.add (.arg 6625) (.add (.arg 7041) (.add (.arg 7105) (.add (.arg 7137) (.arg 7169)))))))))))))))))))) 100), fun ρ' ag e1 e2 hF' hI' => ⟨⟨hF'.1, fcn (s134 (X := X) (a := .mul (.int 2) (.int 5)) (b := .int (-90)) (x := 10) (y := -90) (m := 100) ag (show ((2 : Int32)) * 5 = 10 by decide +kernel) rfl (by decide +kernel) e2) (fcn (s134i (X := X) (x := 100) ag (by decide +kernel) e2) hF'.2)⟩, hI'⟩⟩) (t_gk2 hv)
noncomputable def q_gi2 : sCut := ((fr 0 153 31 [(0, tr 60), (1, .int 2), (2, .int 80)] [], [fBot], 13), (fr 0 316 2 [(0, tr 219), (1, .arg 1308), (2, .int 2)] [], [fBot], 13), [zf98zp_27, zf98zp_28, zf98zp_29, zf98zp_30, ((0, .arg 2784, .int 5), true), zf98zp_0, zf98zp_1, zf98zp_2, zf98zp_3, ((0, .arg 2050, .int 0), true), zf98zp_4, zf98zp_5, zf98zp_6, zf98zp_7, zf98zp_8], i_go)
theorem t_gi2 {X : pX} {ρ0 : sR} (hv : vok X ρ0) : CUTOK X kR zWP c_goo 13 ρ0 q_gi2 := CUT_mono (t_gj2 hv) (fun ρ hF hI => ⟨hF, iv_gh hI⟩)
noncomputable def q_go2 : sCut := ((fr 0 153 8 [(0, tr 60), (1, .int 2)] [], [fBot], 13), (fr 0 316 2 [(0, tr 219), (1, .arg 1308), (2, .int 2)] [], [fBot], 13), [((0, .arg 2784, .int 5), true), zf98zp_0, zf98zp_1, zf98zp_2, zf98zp_3, ((0, .arg 2050, .int 0), true), zf98zp_4, zf98zp_5, zf98zp_6, zf98zp_7, zf98zp_8], i_go)
noncomputable def q_go2a : sCut := ((fr 0 153 8 [(0, tr 60), (1, .int 2)] [], [fBot], 13), (fr 0 316 2 [(0, tr 219), (1, .arg 1308), (2, .int 2)] [], [fBot], 13), [((8, .elem (.arg 1761) (.int 82), .long 254), true), zf98zp_32, zf98zp_33, zf98zp_36, ((0, .arg 2784, .int 5), true), zf98zp_0, zf98zp_1, zf98zp_2, zf98zp_3, ((0, .arg 2050, .int 0), true), zf98zp_4, zf98zp_5, zf98zp_6, zf98zp_7, zf98zp_8], i_go)
theorem k_go2a : cbody kR [(zWP, c_fndl)] (cpl1 zWP c_goo [q_go3]) (cpl2 zWP c_goo [q_go3]) (cleaf kR zWP c_goo [q_go3]) 400 true true q_go2a.2.2.1 q_go2a.2.2.2 (cst zWP c_goo.2.2.1.1 q_go2a.1) (cst zWP c_goo.2.2.1.2 q_go2a.2.1) = true := by decide +kernel
theorem t_go2a {X : pX} {ρ0 : sR} (hv : vok X ρ0) : CUTOK X kR zWP c_goo 13 ρ0 q_go2a := CUT_run kR_x kR_0 (Cs := [(zWP, c_fndl)]) (fun C hC => by rw [List.mem_singleton.mp hC]; exact s_fndl) c_goo_f (Q := [q_go3]) hv (fun q hq => by
    simp only [List.mem_cons, List.not_mem_nil, or_false] at hq
    rw [hq]; exact t_go3 hv) 400 (b1 := true) (b2 := true) k_go2a
noncomputable def q_go2b : sCut := ((fr 0 153 8 [(0, tr 60), (1, .int 2)] [], [fBot], 13), (fr 0 316 2 [(0, tr 219), (1, .arg 1308), (2, .int 2)] [], [fBot], 13), [zf98zp_28, ((6, .op2 .land (.elem (.arg 1761) (.int 81)) (.long 2147483648), .long 0), false), ((6, .op2 .land (.op2 .lshr (.elem (.arg 1761) (.int 81)) (.int 31)) (.long 1), .long 1), true), zf98zp_32, zf98zp_33, zf98zp_36, ((0, .arg 2784, .int 5), true), zf98zp_0, zf98zp_1, zf98zp_2, zf98zp_3, ((0, .arg 2050, .int 0), true), zf98zp_4, zf98zp_5, zf98zp_6, zf98zp_7, zf98zp_8], i_go)
theorem k_go2b : cbody kR [(zWP, c_ofo2), (zWP, c_fndl)] (cpl1 zWP c_goo [q_go3]) (cpl2 zWP c_goo [q_go3]) (cleaf kR zWP c_goo [q_go3]) 400 true true q_go2b.2.2.1 q_go2b.2.2.2 (cst zWP c_goo.2.2.1.1 q_go2b.1) (cst zWP c_goo.2.2.1.2 q_go2b.2.1) = true := by decide +kernel
theorem t_go2b {X : pX} {ρ0 : sR} (hv : vok X ρ0) : CUTOK X kR zWP c_goo 13 ρ0 q_go2b := CUT_run kR_x kR_0 (Cs := [(zWP, c_ofo2), (zWP, c_fndl)]) (fun C hC => by
    simp only [List.mem_cons, List.not_mem_nil, or_false] at hC
    rcases hC with hC | hC
    · rw [hC]; exact s_ofo2
    · rw [hC]; exact s_fndl) c_goo_f (Q := [q_go3]) hv (fun q hq => by
    simp only [List.mem_cons, List.not_mem_nil, or_false] at hq
    rw [hq]; exact t_go3 hv) 400 (b1 := true) (b2 := true) k_go2b
noncomputable def q_go2c : sCut := ((fr 0 153 8 [(0, tr 60), (1, .int 2)] [], [fBot], 13), (fr 0 316 2 [(0, tr 219), (1, .arg 1308), (2, .int 2)] [], [fBot], 13), [zf98zp_28, zf98zp_29, zf98zp_37, ((8, .long 0, .elem (.arg 1761) (.int 100)), false), zf98zp_32, zf98zp_33, zf98zp_36, ((0, .arg 2784, .int 5), true), zf98zp_0, zf98zp_1, zf98zp_2, zf98zp_3, ((0, .arg 2050, .int 0), true), zf98zp_4, zf98zp_5, zf98zp_6, zf98zp_7, zf98zp_8], i_go)
theorem k_go2c : cbody kR [(zWP, c_ono2n), (zWP, c_fndl)] (cpl1 zWP c_goo [q_go3]) (cpl2 zWP c_goo [q_go3]) (cleaf kR zWP c_goo [q_go3]) 400 true true q_go2c.2.2.1 q_go2c.2.2.2 (cst zWP c_goo.2.2.1.1 q_go2c.1) (cst zWP c_goo.2.2.1.2 q_go2c.2.1) = true := by decide +kernel
theorem t_go2c {X : pX} {ρ0 : sR} (hv : vok X ρ0) : CUTOK X kR zWP c_goo 13 ρ0 q_go2c := CUT_run kR_x kR_0 (Cs := [(zWP, c_ono2n), (zWP, c_fndl)]) (fun C hC => by
    simp only [List.mem_cons, List.not_mem_nil, or_false] at hC
    rcases hC with hC | hC
    · rw [hC]; exact s_ono2n
    · rw [hC]; exact s_fndl) c_goo_f (Q := [q_go3]) hv (fun q hq => by
    simp only [List.mem_cons, List.not_mem_nil, or_false] at hq
    rw [hq]; exact t_go3 hv) 400 (b1 := true) (b2 := true) k_go2c
noncomputable def q_go2d : sCut := ((fr 0 153 8 [(0, tr 60), (1, .int 2)] [], [fBot], 13), (fr 0 316 2 [(0, tr 219), (1, .arg 1308), (2, .int 2)] [], [fBot], 13), [zf98zp_28, zf98zp_29, zf98zp_30, ((0, .arg 2784, .int 5), true), zf98zp_0, zf98zp_1, zf98zp_2, zf98zp_3, ((0, .arg 2050, .int 0), true), zf98zp_4, zf98zp_5, zf98zp_6, zf98zp_7, zf98zp_8], i_go)
theorem k_go2d : cbody kR [(zWP, c_ono2y)] (cpl1 zWP c_goo [q_gi2]) (cpl2 zWP c_goo [q_gi2]) (cleaf kR zWP c_goo [q_gi2]) 400 true false q_go2d.2.2.1 q_go2d.2.2.2 (cst zWP c_goo.2.2.1.1 q_go2d.1) (cst zWP c_goo.2.2.1.2 q_go2d.2.1) = true := by decide +kernel
theorem t_go2d {X : pX} {ρ0 : sR} (hv : vok X ρ0) : CUTOK X kR zWP c_goo 13 ρ0 q_go2d := CUT_run kR_x kR_0 (Cs := [(zWP, c_ono2y)]) (fun C hC => by rw [List.mem_singleton.mp hC]; exact s_ono2y) c_goo_f (Q := [q_gi2]) hv (fun q hq => by
    simp only [List.mem_cons, List.not_mem_nil, or_false] at hq
    rw [hq]; exact t_gi2 hv) 400 (b1 := true) (b2 := false) k_go2d
theorem t_go2 {X : pX} {ρ0 : sR} (hv : vok X ρ0) : CUTOK X kR zWP c_goo 13 ρ0 q_go2 := fun ρ k1 hF hI k4 => by
  have p0 := s9_i (X := X) (ρ := ρ) (a := .int 6146) (t := .int 81) (k := 1) rfl rfl (show ((81 : Int32)).toInt = aslot ((6146 : Int32)).toInt ((1 : Int32)).toInt by decide +kernel)
  have p1 := s9_i (X := X) (ρ := ρ) (a := .int 6146) (t := .int 82) (k := 2) rfl rfl (show ((82 : Int32)).toInt = aslot ((6146 : Int32)).toInt ((2 : Int32)).toInt by decide +kernel)
  have p2 := s9_i (X := X) (ρ := ρ) (a := .int 6658) (t := .int 100) (k := 0) rfl rfl (show ((100 : Int32)).toInt = aslot ((6658 : Int32)).toInt ((0 : Int32)).toInt by decide +kernel)
  by_cases h1 : sc X ρ (8, .elem (.arg 1761) (.int 82), .long 254) = true
  · exact t_go2a hv ρ k1 ⟨hF.1, fcn (h1) (fcn (p0) (fcn (p1) (fcn (p2) (hF.2))))⟩ hI k4
  have h1 := Bool.not_eq_true _ ▸ h1
  by_cases h2 : (ρ.2.2.2.1 1761) 81 &&& 2147483648 = 0
  · by_cases h3 : sc X ρ (8, .long 0, .elem (.arg 1761) (.int 100)) = true
    · exact t_go2d hv ρ k1 ⟨hF.1, fcn (h1) (fcn (decide_eq_true h2) (fcn (h3) (hF.2)))⟩ hI k4
    · have h3 := Bool.not_eq_true _ ▸ h3
      exact t_go2c hv ρ k1 ⟨hF.1, fcn (h1) (fcn (decide_eq_true h2) (fcn (decide_eq_false (of0_ h2)) (fcn (h3) (fcn (p0) (fcn (p1) (fcn (p2) (hF.2)))))))⟩ hI k4
  · exact t_go2b hv ρ k1 ⟨hF.1, fcn (h1) (fcn (decide_eq_false h2) (fcn (decide_eq_true (of1_ h2)) (fcn (p0) (fcn (p1) (fcn (p2) (hF.2))))))⟩ hI k4
noncomputable def zf98zp_41 : sQ × Bool := ((134, .add (.sub (.mul (.int 1) (.int 5)) (.int (-90))) (.add (.elem (.arg 1761) (.int 0)) (.add (.arg 2816) (.add (.arg 2784) (.add (.arg 1665) (.add (.arg 1633) (.add (.arg 7073) (.add (.arg 3008) (.add (.arg 2018) (.add (.arg 1954) (.add (.arg 1986) (.add (.arg 1697) (.add (.arg 1729) (.add (.arg 1296) (.add (.arg 1634) (.add (.arg 6625) (.add (.arg 7041) (.add (.arg 7105) (.add (.arg 7137) (.arg 7169))))))))))))))))))), .arg 64065), true)
noncomputable def zf98zp_42 : sQ × Bool := ((134, .add (.int 95) (.add (.elem (.arg 1761) (.int 0)) (.add (.arg 2816) (.add (.arg 2784) (.add (.arg 1665) (.add (.arg 1633) (.add (.arg 7073) (.add (.arg 3008) (.add (.arg 2018) (.add (.arg 1954) (.add (.arg 1986) (.add (.arg 1697) (.add (.arg 1729) (.add (.arg 1296) (.add (.arg 1634) (.add (.arg 6625) (.add (.arg 7041) (.add (.arg 7105) (.add (.arg 7137) (.arg 7169))))))))))))))))))), .arg 64065), true)
noncomputable def zf98zp_43 : sQ × Bool := ((0, .op2 .iand (.arg 2848) (.int 8192), .int 0), true)
noncomputable def zf98zp_44 : sQ × Bool := ((8, .elem (.arg 1761) (.int 77), .long 254), false)
noncomputable def zf98zp_45 : sQ × Bool := ((6, .op2 .land (.elem (.arg 1761) (.int 76)) (.long 2147483648), .long 0), true)
noncomputable def zf98zp_46 : sQ × Bool := ((8, .long 0, .elem (.arg 1761) (.int 95)), true)
noncomputable def q_gk1 : sCut := ((fr 0 153 31 [(0, tr 60), (1, .int 1), (2, .int 75)] [], [fBot], 13), (fr 0 316 2 [(0, tr 219), (1, .arg 1308), (2, .int 1)] [], [fBot], 13), [zf98zp_41, zf98zp_42, zf98zp_43, zf98zp_44, zf98zp_45, zf98zp_46, ((0, .arg 2784, .int 5), true), zf98zp_0, zf98zp_1, zf98zp_2, zf98zp_3, ((0, .arg 2050, .int 0), true), zf98zp_4, zf98zp_5, zf98zp_6, zf98zp_7, zf98zp_8], i_gh)
noncomputable def zf98zp_47 : sQ × Bool := ((145, .add (.elem (.arg 1761) (.int 0)) (.add (.sub (.mul (.int 1) (.int 5)) (.int (-90))) (.add (.elem (.arg 24544) (.int 0)) (.add (.elem (.arg 2436) (.int 0)) (.mul (.int 1) (.int 4))))), .int 0), true)
noncomputable def zf98zp_48 : sQ × Bool := ((109, .add (.int 6145) (.int 1), .int 76), true)
noncomputable def zf98zp_49 : sQ × Bool := ((109, .add (.int 6145) (.int 2), .int 77), true)
noncomputable def zf98zp_50 : sQ × Bool := ((109, .add (.int 6145) (.int 3), .int 78), true)
noncomputable def zf98zp_51 : sQ × Bool := ((109, .add (.int 6145) (.int 5), .int 79), true)
noncomputable def zf98zp_52 : sQ × Bool := ((109, .add (.int 6657) (.int 0), .int 95), true)
noncomputable def zf98zp_53 : sQ × Bool := ((6, .op2 .land (.op2 .lshr (.elem (.arg 1761) (.int 76)) (.int 31)) (.long 1), .long 1), false)
noncomputable def zf98zp_54 : sQ × Bool := ((0, .arg 7906, .arg 2370), true)
noncomputable def q_gk1s0 : sCut := ((fr 0 153 31 [(0, tr 60), (1, .int 1), (2, .int 75)] [], [fBot], 13), (fr 0 316 2 [(0, tr 219), (1, .arg 1308), (2, .int 1)] [], [fBot], 13), [((0, .arg 2370, .int 0), true), ((0, .arg 7906, .int 0), true), zf98zp_47, zf98zp_48, zf98zp_49, zf98zp_50, zf98zp_51, zf98zp_52, zf98zp_53, zf98zp_54, zf98zp_41, zf98zp_42, zf98zp_43, zf98zp_44, zf98zp_45, zf98zp_46, ((0, .arg 2784, .int 5), true), zf98zp_0, zf98zp_1, zf98zp_2, zf98zp_3, ((0, .arg 2050, .int 0), true), zf98zp_4, zf98zp_5, zf98zp_6, zf98zp_7, zf98zp_8], i_gh)
theorem k_gk1s0 : cbody kR [(zWP, c_gat), (zWP, c_bou), (zWP, c_rel1), (zWP, c_fndl)] (cpl1 zWP c_goo [q_go2]) (cpl2 zWP c_goo [q_go2]) (cleaf kR zWP c_goo [q_go2]) 400 true true q_gk1s0.2.2.1 q_gk1s0.2.2.2 (cst zWP c_goo.2.2.1.1 q_gk1s0.1) (cst zWP c_goo.2.2.1.2 q_gk1s0.2.1) = true := by decide +kernel
theorem t_gk1s0 {X : pX} {ρ0 : sR} (hv : vok X ρ0) : CUTOK X kR zWP c_goo 13 ρ0 q_gk1s0 := CUT_run kR_x kR_0 (Cs := [(zWP, c_gat), (zWP, c_bou), (zWP, c_rel1), (zWP, c_fndl)]) (fun C hC => by
    simp only [List.mem_cons, List.not_mem_nil, or_false] at hC
    rcases hC with hC | hC | hC | hC
    · rw [hC]; exact s_gat
    · rw [hC]; exact s_bou
    · rw [hC]; exact s_rel1
    · rw [hC]; exact s_fndl) c_goo_f (Q := [q_go2]) hv (fun q hq => by
    simp only [List.mem_cons, List.not_mem_nil, or_false] at hq
    rw [hq]; exact t_go2 hv) 400 (b1 := true) (b2 := true) k_gk1s0
noncomputable def zf98zp_55 : sQ × Bool := ((0, .arg 2370, .int 0), false)
noncomputable def zf98zp_56 : sQ × Bool := ((0, .arg 7906, .int 0), false)
noncomputable def q_gk1sa : sCut := ((fr 0 153 31 [(0, tr 60), (1, .int 1), (2, .int 75)] [], [fBot], 13), (fr 0 316 2 [(0, tr 219), (1, .arg 1308), (2, .int 1)] [], [fBot], 13), [zf98zp_55, zf98zp_56, ((8, .op1 .i2l (.sub (.arg 1280) (.arg 6144)), .elem (.arg 1761) (.int 78)), true), zf98zp_47, zf98zp_48, zf98zp_49, zf98zp_50, zf98zp_51, zf98zp_52, zf98zp_53, zf98zp_54, zf98zp_41, zf98zp_42, zf98zp_43, zf98zp_44, zf98zp_45, zf98zp_46, ((0, .arg 2784, .int 5), true), zf98zp_0, zf98zp_1, zf98zp_2, zf98zp_3, ((0, .arg 2050, .int 0), true), zf98zp_4, zf98zp_5, zf98zp_6, zf98zp_7, zf98zp_8], i_gh)
theorem k_gk1sa : cbody kR [(zWP, c_gat), (zWP, c_bou), (zWP, c_rel1), (zWP, c_fndl)] (cpl1 zWP c_goo [q_go2]) (cpl2 zWP c_goo [q_go2]) (cleaf kR zWP c_goo [q_go2]) 400 true true q_gk1sa.2.2.1 q_gk1sa.2.2.2 (cst zWP c_goo.2.2.1.1 q_gk1sa.1) (cst zWP c_goo.2.2.1.2 q_gk1sa.2.1) = true := by decide +kernel
theorem t_gk1sa {X : pX} {ρ0 : sR} (hv : vok X ρ0) : CUTOK X kR zWP c_goo 13 ρ0 q_gk1sa := CUT_run kR_x kR_0 (Cs := [(zWP, c_gat), (zWP, c_bou), (zWP, c_rel1), (zWP, c_fndl)]) (fun C hC => by
    simp only [List.mem_cons, List.not_mem_nil, or_false] at hC
    rcases hC with hC | hC | hC | hC
    · rw [hC]; exact s_gat
    · rw [hC]; exact s_bou
    · rw [hC]; exact s_rel1
    · rw [hC]; exact s_fndl) c_goo_f (Q := [q_go2]) hv (fun q hq => by
    simp only [List.mem_cons, List.not_mem_nil, or_false] at hq
    rw [hq]; exact t_go2 hv) 400 (b1 := true) (b2 := true) k_gk1sa
noncomputable def q_gk1sb : sCut := ((fr 0 153 31 [(0, tr 60), (1, .int 1), (2, .int 75)] [], [fBot], 13), (fr 0 316 2 [(0, tr 219), (1, .arg 1308), (2, .int 1)] [], [fBot], 13), [zf98zp_55, zf98zp_56, ((8, .op1 .i2l (.sub (.arg 1280) (.arg 6144)), .elem (.arg 1761) (.int 78)), false), zf98zp_47, zf98zp_48, zf98zp_49, zf98zp_50, zf98zp_51, zf98zp_52, zf98zp_53, zf98zp_54, zf98zp_41, zf98zp_42, zf98zp_43, zf98zp_44, zf98zp_45, zf98zp_46, ((0, .arg 2784, .int 5), true), zf98zp_0, zf98zp_1, zf98zp_2, zf98zp_3, ((0, .arg 2050, .int 0), true), zf98zp_4, zf98zp_5, zf98zp_6, zf98zp_7, zf98zp_8], i_gh)
theorem k_gk1sb : cbody kR [(zWP, c_gat), (zWP, c_bou), (zWP, c_rel1), (zWP, c_fndl)] (cpl1 zWP c_goo [q_go2]) (cpl2 zWP c_goo [q_go2]) (cleaf kR zWP c_goo [q_go2]) 400 true true q_gk1sb.2.2.1 q_gk1sb.2.2.2 (cst zWP c_goo.2.2.1.1 q_gk1sb.1) (cst zWP c_goo.2.2.1.2 q_gk1sb.2.1) = true := by decide +kernel
theorem t_gk1sb {X : pX} {ρ0 : sR} (hv : vok X ρ0) : CUTOK X kR zWP c_goo 13 ρ0 q_gk1sb := CUT_run kR_x kR_0 (Cs := [(zWP, c_gat), (zWP, c_bou), (zWP, c_rel1), (zWP, c_fndl)]) (fun C hC => by
    simp only [List.mem_cons, List.not_mem_nil, or_false] at hC
    rcases hC with hC | hC | hC | hC
    · rw [hC]; exact s_gat
    · rw [hC]; exact s_bou
    · rw [hC]; exact s_rel1
    · rw [hC]; exact s_fndl) c_goo_f (Q := [q_go2]) hv (fun q hq => by
    simp only [List.mem_cons, List.not_mem_nil, or_false] at hq
    rw [hq]; exact t_go2 hv) 400 (b1 := true) (b2 := true) k_gk1sb
theorem t_gk1 {X : pX} {ρ0 : sR} (hv : vok X ρ0) : CUTOK X kR zWP c_goo 13 ρ0 q_gk1 := fun ρ k1 hF hI k4 => by
  have hb : abit (ρ.1 2848).toInt (12 + 1) = false := ab_z (c := 8192) (of_decide_eq_true (hF.2 _ (List.mem_cons_of_mem _ (List.mem_cons_of_mem _ (List.mem_cons_self))))) (by decide)
  obtain ⟨⟨⟨h0, i0⟩, ⟨h1, i1⟩, ⟨h2, i2⟩, h3, i3⟩, j0, j1⟩ := pd_iff.mp (hF.2 _ (List.mem_cons_of_mem _ (List.mem_cons_of_mem _ (List.mem_cons_of_mem _ (List.mem_cons_of_mem _ (List.mem_cons_of_mem _ (List.mem_cons_of_mem _ (List.mem_cons_of_mem _ (List.mem_cons_of_mem _ (List.mem_cons_of_mem _ (List.mem_cons_of_mem _ (List.mem_cons_of_mem _ (List.mem_cons_of_mem _ (List.mem_cons_of_mem _ (List.mem_cons_self)))))))))))))))
  rw [hb] at i1
  have he := (po_e i1).1
  have he : ρ.1 7906 = ρ.1 2370 := Int32.toInt_inj.mp he
  have hm : amapm (ρ.2.2.2.1 1761) 95 4 (ρ.2.2.1 24544) (ρ.2.2.1 2436) = true := po_m i1
  have f5 : sc X ρ (145, .add (.elem (.arg 1761) (.int 0)) (.add (.sub (.mul (.int 1) (.int 5)) (.int (-90))) (.add (.elem (.arg 24544) (.int 0)) (.add (.elem (.arg 2436) (.int 0)) (.mul (.int 1) (.int 4))))), .int 0) = true := s145 (x := 5) (y := -90) (z := 4) (show ((1 : Int32)) * 5 = 5 by decide +kernel) rfl (show ((1 : Int32)) * 4 = 4 by decide +kernel) (by decide +kernel) (by decide +kernel) hm
  have p0 := s9_i (X := X) (ρ := ρ) (a := .int 6145) (t := .int 76) (k := 1) rfl rfl (show ((76 : Int32)).toInt = aslot ((6145 : Int32)).toInt ((1 : Int32)).toInt by decide +kernel)
  have p1 := s9_i (X := X) (ρ := ρ) (a := .int 6145) (t := .int 77) (k := 2) rfl rfl (show ((77 : Int32)).toInt = aslot ((6145 : Int32)).toInt ((2 : Int32)).toInt by decide +kernel)
  have p2 := s9_i (X := X) (ρ := ρ) (a := .int 6145) (t := .int 78) (k := 3) rfl rfl (show ((78 : Int32)).toInt = aslot ((6145 : Int32)).toInt ((3 : Int32)).toInt by decide +kernel)
  have p3 := s9_i (X := X) (ρ := ρ) (a := .int 6145) (t := .int 79) (k := 5) rfl rfl (show ((79 : Int32)).toInt = aslot ((6145 : Int32)).toInt ((5 : Int32)).toInt by decide +kernel)
  have p4 := s9_i (X := X) (ρ := ρ) (a := .int 6657) (t := .int 95) (k := 0) rfl rfl (show ((95 : Int32)).toInt = aslot ((6657 : Int32)).toInt ((0 : Int32)).toInt by decide +kernel)
  have fo := decide_eq_false (of0_ (x := (ρ.2.2.2.1 1761) 76) (of_decide_eq_true (hF.2 _ (List.mem_cons_of_mem _ (List.mem_cons_of_mem _ (List.mem_cons_of_mem _ (List.mem_cons_of_mem _ (List.mem_cons_self))))))))
  have fe := decide_eq_true he
  by_cases hs : ρ.1 2370 = 0
  · exact t_gk1s0 hv ρ k1 ⟨hF.1, fcn (decide_eq_true hs) (fcn (decide_eq_true (he.trans hs)) (fcn (f5) (fcn (p0) (fcn (p1) (fcn (p2) (fcn (p3) (fcn (p4) (fcn (fo) (fcn (fe) (hF.2))))))))))⟩ hI k4
  have g1 := decide_eq_false hs
  have g2 := decide_eq_false (show ¬ ρ.1 7906 = 0 from fun q => hs (he.symm.trans q))
  by_cases hv3 : sc X ρ (8, .op1 .i2l (.sub (.arg 1280) (.arg 6144)), .elem (.arg 1761) (.int 78)) = true
  · exact t_gk1sa hv ρ k1 ⟨hF.1, fcn (g1) (fcn (g2) (fcn (hv3) (fcn (f5) (fcn (p0) (fcn (p1) (fcn (p2) (fcn (p3) (fcn (p4) (fcn (fo) (fcn (fe) (hF.2)))))))))))⟩ hI k4
  · have hv3 := Bool.not_eq_true _ ▸ hv3
    exact t_gk1sb hv ρ k1 ⟨hF.1, fcn (g1) (fcn (g2) (fcn (hv3) (fcn (f5) (fcn (p0) (fcn (p1) (fcn (p2) (fcn (p3) (fcn (p4) (fcn (fo) (fcn (fe) (hF.2)))))))))))⟩ hI k4
noncomputable def q_gj1 : sCut := ((fr 0 153 31 [(0, tr 60), (1, .int 1), (2, .int 75)] [], [fBot], 13), (fr 0 316 2 [(0, tr 219), (1, .arg 1308), (2, .int 1)] [], [fBot], 13), [zf98zp_43, zf98zp_44, zf98zp_45, zf98zp_46, ((0, .arg 2784, .int 5), true), zf98zp_0, zf98zp_1, zf98zp_2, zf98zp_3, ((0, .arg 2050, .int 0), true), zf98zp_4, zf98zp_5, zf98zp_6, zf98zp_7, zf98zp_8], i_gh)
theorem t_gj1 {X : pX} {ρ0 : sR} (hv : vok X ρ0) : CUTOK X kR zWP c_goo 13 ρ0 q_gj1 := CUT_set (g := 64065) kR_x (by decide +kernel) (by decide) (by decide +kernel) (by decide +kernel) (by decide +kernel) (by decide +kernel) (by decide +kernel) (fun ρ k1 hF hI => ⟨0, Int64.ofInt (aout (aits X ρ (.add (.elem (.arg 1761) (.int 0)) (.add (.arg 2816) (.add (.arg 2784) (.add (.arg 1665) (.add (.arg 1633) (.add (.arg 7073) (.add (.arg 3008) (.add (.arg 2018) (.add (.arg 1954) (.add (.arg 1986) (.add (.arg 1697) (.add (.arg 1729) (.add (.arg 1296) (.add (.arg 1634) (.add (.arg 6625) (.add (.arg 7041) (.add (.arg 7105) (.add (.arg 7137) (.arg 7169)))))))))))))))))))) 95), fun ρ' ag e1 e2 hF' hI' => ⟨⟨hF'.1, fcn (s134 (X := X) (a := .mul (.int 1) (.int 5)) (b := .int (-90)) (x := 5) (y := -90) (m := 95) ag (show ((1 : Int32)) * 5 = 5 by decide +kernel) rfl (by decide +kernel) e2) (fcn (s134i (X := X) (x := 95) ag (by decide +kernel) e2) hF'.2)⟩, hI'⟩⟩) (t_gk1 hv)
noncomputable def q_gi1 : sCut := ((fr 0 153 31 [(0, tr 60), (1, .int 1), (2, .int 75)] [], [fBot], 13), (fr 0 316 2 [(0, tr 219), (1, .arg 1308), (2, .int 1)] [], [fBot], 13), [zf98zp_43, zf98zp_44, zf98zp_45, zf98zp_46, ((0, .arg 2784, .int 5), true), zf98zp_0, zf98zp_1, zf98zp_2, zf98zp_3, ((0, .arg 2050, .int 0), true), zf98zp_4, zf98zp_5, zf98zp_6, zf98zp_7, zf98zp_8], i_go)
theorem t_gi1 {X : pX} {ρ0 : sR} (hv : vok X ρ0) : CUTOK X kR zWP c_goo 13 ρ0 q_gi1 := CUT_mono (t_gj1 hv) (fun ρ hF hI => ⟨hF, iv_gh hI⟩)
noncomputable def q_go1 : sCut := ((fr 0 153 8 [(0, tr 60), (1, .int 1)] [], [fBot], 13), (fr 0 316 2 [(0, tr 219), (1, .arg 1308), (2, .int 1)] [], [fBot], 13), [((0, .arg 2784, .int 5), true), zf98zp_0, zf98zp_1, zf98zp_2, zf98zp_3, ((0, .arg 2050, .int 0), true), zf98zp_4, zf98zp_5, zf98zp_6, zf98zp_7, zf98zp_8], i_go)
noncomputable def q_go1a : sCut := ((fr 0 153 8 [(0, tr 60), (1, .int 1)] [], [fBot], 13), (fr 0 316 2 [(0, tr 219), (1, .arg 1308), (2, .int 1)] [], [fBot], 13), [((8, .elem (.arg 1761) (.int 77), .long 254), true), zf98zp_48, zf98zp_49, zf98zp_52, ((0, .arg 2784, .int 5), true), zf98zp_0, zf98zp_1, zf98zp_2, zf98zp_3, ((0, .arg 2050, .int 0), true), zf98zp_4, zf98zp_5, zf98zp_6, zf98zp_7, zf98zp_8], i_go)
theorem k_go1a : cbody kR [(zWP, c_fndl)] (cpl1 zWP c_goo [q_go2]) (cpl2 zWP c_goo [q_go2]) (cleaf kR zWP c_goo [q_go2]) 400 true true q_go1a.2.2.1 q_go1a.2.2.2 (cst zWP c_goo.2.2.1.1 q_go1a.1) (cst zWP c_goo.2.2.1.2 q_go1a.2.1) = true := by decide +kernel
theorem t_go1a {X : pX} {ρ0 : sR} (hv : vok X ρ0) : CUTOK X kR zWP c_goo 13 ρ0 q_go1a := CUT_run kR_x kR_0 (Cs := [(zWP, c_fndl)]) (fun C hC => by rw [List.mem_singleton.mp hC]; exact s_fndl) c_goo_f (Q := [q_go2]) hv (fun q hq => by
    simp only [List.mem_cons, List.not_mem_nil, or_false] at hq
    rw [hq]; exact t_go2 hv) 400 (b1 := true) (b2 := true) k_go1a
noncomputable def q_go1b : sCut := ((fr 0 153 8 [(0, tr 60), (1, .int 1)] [], [fBot], 13), (fr 0 316 2 [(0, tr 219), (1, .arg 1308), (2, .int 1)] [], [fBot], 13), [zf98zp_44, ((6, .op2 .land (.elem (.arg 1761) (.int 76)) (.long 2147483648), .long 0), false), ((6, .op2 .land (.op2 .lshr (.elem (.arg 1761) (.int 76)) (.int 31)) (.long 1), .long 1), true), zf98zp_48, zf98zp_49, zf98zp_52, ((0, .arg 2784, .int 5), true), zf98zp_0, zf98zp_1, zf98zp_2, zf98zp_3, ((0, .arg 2050, .int 0), true), zf98zp_4, zf98zp_5, zf98zp_6, zf98zp_7, zf98zp_8], i_go)
theorem k_go1b : cbody kR [(zWP, c_ofo1), (zWP, c_fndl)] (cpl1 zWP c_goo [q_go2]) (cpl2 zWP c_goo [q_go2]) (cleaf kR zWP c_goo [q_go2]) 400 true true q_go1b.2.2.1 q_go1b.2.2.2 (cst zWP c_goo.2.2.1.1 q_go1b.1) (cst zWP c_goo.2.2.1.2 q_go1b.2.1) = true := by decide +kernel
theorem t_go1b {X : pX} {ρ0 : sR} (hv : vok X ρ0) : CUTOK X kR zWP c_goo 13 ρ0 q_go1b := CUT_run kR_x kR_0 (Cs := [(zWP, c_ofo1), (zWP, c_fndl)]) (fun C hC => by
    simp only [List.mem_cons, List.not_mem_nil, or_false] at hC
    rcases hC with hC | hC
    · rw [hC]; exact s_ofo1
    · rw [hC]; exact s_fndl) c_goo_f (Q := [q_go2]) hv (fun q hq => by
    simp only [List.mem_cons, List.not_mem_nil, or_false] at hq
    rw [hq]; exact t_go2 hv) 400 (b1 := true) (b2 := true) k_go1b
noncomputable def q_go1c : sCut := ((fr 0 153 8 [(0, tr 60), (1, .int 1)] [], [fBot], 13), (fr 0 316 2 [(0, tr 219), (1, .arg 1308), (2, .int 1)] [], [fBot], 13), [zf98zp_44, zf98zp_45, zf98zp_53, ((8, .long 0, .elem (.arg 1761) (.int 95)), false), zf98zp_48, zf98zp_49, zf98zp_52, ((0, .arg 2784, .int 5), true), zf98zp_0, zf98zp_1, zf98zp_2, zf98zp_3, ((0, .arg 2050, .int 0), true), zf98zp_4, zf98zp_5, zf98zp_6, zf98zp_7, zf98zp_8], i_go)
theorem k_go1c : cbody kR [(zWP, c_ono1n), (zWP, c_fndl)] (cpl1 zWP c_goo [q_go2]) (cpl2 zWP c_goo [q_go2]) (cleaf kR zWP c_goo [q_go2]) 400 true true q_go1c.2.2.1 q_go1c.2.2.2 (cst zWP c_goo.2.2.1.1 q_go1c.1) (cst zWP c_goo.2.2.1.2 q_go1c.2.1) = true := by decide +kernel
theorem t_go1c {X : pX} {ρ0 : sR} (hv : vok X ρ0) : CUTOK X kR zWP c_goo 13 ρ0 q_go1c := CUT_run kR_x kR_0 (Cs := [(zWP, c_ono1n), (zWP, c_fndl)]) (fun C hC => by
    simp only [List.mem_cons, List.not_mem_nil, or_false] at hC
    rcases hC with hC | hC
    · rw [hC]; exact s_ono1n
    · rw [hC]; exact s_fndl) c_goo_f (Q := [q_go2]) hv (fun q hq => by
    simp only [List.mem_cons, List.not_mem_nil, or_false] at hq
    rw [hq]; exact t_go2 hv) 400 (b1 := true) (b2 := true) k_go1c
noncomputable def q_go1d : sCut := ((fr 0 153 8 [(0, tr 60), (1, .int 1)] [], [fBot], 13), (fr 0 316 2 [(0, tr 219), (1, .arg 1308), (2, .int 1)] [], [fBot], 13), [zf98zp_44, zf98zp_45, zf98zp_46, ((0, .arg 2784, .int 5), true), zf98zp_0, zf98zp_1, zf98zp_2, zf98zp_3, ((0, .arg 2050, .int 0), true), zf98zp_4, zf98zp_5, zf98zp_6, zf98zp_7, zf98zp_8], i_go)
theorem k_go1d : cbody kR [(zWP, c_ono1y)] (cpl1 zWP c_goo [q_gi1]) (cpl2 zWP c_goo [q_gi1]) (cleaf kR zWP c_goo [q_gi1]) 400 true false q_go1d.2.2.1 q_go1d.2.2.2 (cst zWP c_goo.2.2.1.1 q_go1d.1) (cst zWP c_goo.2.2.1.2 q_go1d.2.1) = true := by decide +kernel
theorem t_go1d {X : pX} {ρ0 : sR} (hv : vok X ρ0) : CUTOK X kR zWP c_goo 13 ρ0 q_go1d := CUT_run kR_x kR_0 (Cs := [(zWP, c_ono1y)]) (fun C hC => by rw [List.mem_singleton.mp hC]; exact s_ono1y) c_goo_f (Q := [q_gi1]) hv (fun q hq => by
    simp only [List.mem_cons, List.not_mem_nil, or_false] at hq
    rw [hq]; exact t_gi1 hv) 400 (b1 := true) (b2 := false) k_go1d
theorem t_go1 {X : pX} {ρ0 : sR} (hv : vok X ρ0) : CUTOK X kR zWP c_goo 13 ρ0 q_go1 := fun ρ k1 hF hI k4 => by
  have p0 := s9_i (X := X) (ρ := ρ) (a := .int 6145) (t := .int 76) (k := 1) rfl rfl (show ((76 : Int32)).toInt = aslot ((6145 : Int32)).toInt ((1 : Int32)).toInt by decide +kernel)
  have p1 := s9_i (X := X) (ρ := ρ) (a := .int 6145) (t := .int 77) (k := 2) rfl rfl (show ((77 : Int32)).toInt = aslot ((6145 : Int32)).toInt ((2 : Int32)).toInt by decide +kernel)
  have p2 := s9_i (X := X) (ρ := ρ) (a := .int 6657) (t := .int 95) (k := 0) rfl rfl (show ((95 : Int32)).toInt = aslot ((6657 : Int32)).toInt ((0 : Int32)).toInt by decide +kernel)
  by_cases h1 : sc X ρ (8, .elem (.arg 1761) (.int 77), .long 254) = true
  · exact t_go1a hv ρ k1 ⟨hF.1, fcn (h1) (fcn (p0) (fcn (p1) (fcn (p2) (hF.2))))⟩ hI k4
  have h1 := Bool.not_eq_true _ ▸ h1
  by_cases h2 : (ρ.2.2.2.1 1761) 76 &&& 2147483648 = 0
  · by_cases h3 : sc X ρ (8, .long 0, .elem (.arg 1761) (.int 95)) = true
    · exact t_go1d hv ρ k1 ⟨hF.1, fcn (h1) (fcn (decide_eq_true h2) (fcn (h3) (hF.2)))⟩ hI k4
    · have h3 := Bool.not_eq_true _ ▸ h3
      exact t_go1c hv ρ k1 ⟨hF.1, fcn (h1) (fcn (decide_eq_true h2) (fcn (decide_eq_false (of0_ h2)) (fcn (h3) (fcn (p0) (fcn (p1) (fcn (p2) (hF.2)))))))⟩ hI k4
  · exact t_go1b hv ρ k1 ⟨hF.1, fcn (h1) (fcn (decide_eq_false h2) (fcn (decide_eq_true (of1_ h2)) (fcn (p0) (fcn (p1) (fcn (p2) (hF.2))))))⟩ hI k4
noncomputable def zf98zp_57 : sQ × Bool := ((134, .add (.sub (.mul (.int 0) (.int 5)) (.int (-90))) (.add (.elem (.arg 1761) (.int 0)) (.add (.arg 2816) (.add (.arg 2784) (.add (.arg 1665) (.add (.arg 1633) (.add (.arg 7073) (.add (.arg 3008) (.add (.arg 2018) (.add (.arg 1954) (.add (.arg 1986) (.add (.arg 1697) (.add (.arg 1729) (.add (.arg 1296) (.add (.arg 1634) (.add (.arg 6625) (.add (.arg 7041) (.add (.arg 7105) (.add (.arg 7137) (.arg 7169))))))))))))))))))), .arg 64065), true)
noncomputable def zf98zp_58 : sQ × Bool := ((134, .add (.int 90) (.add (.elem (.arg 1761) (.int 0)) (.add (.arg 2816) (.add (.arg 2784) (.add (.arg 1665) (.add (.arg 1633) (.add (.arg 7073) (.add (.arg 3008) (.add (.arg 2018) (.add (.arg 1954) (.add (.arg 1986) (.add (.arg 1697) (.add (.arg 1729) (.add (.arg 1296) (.add (.arg 1634) (.add (.arg 6625) (.add (.arg 7041) (.add (.arg 7105) (.add (.arg 7137) (.arg 7169))))))))))))))))))), .arg 64065), true)
noncomputable def zf98zp_59 : sQ × Bool := ((0, .op2 .iand (.arg 2848) (.int 4096), .int 0), true)
noncomputable def zf98zp_60 : sQ × Bool := ((8, .elem (.arg 1761) (.int 72), .long 254), false)
noncomputable def zf98zp_61 : sQ × Bool := ((6, .op2 .land (.elem (.arg 1761) (.int 71)) (.long 2147483648), .long 0), true)
noncomputable def zf98zp_62 : sQ × Bool := ((8, .long 0, .elem (.arg 1761) (.int 90)), true)
noncomputable def q_gk0 : sCut := ((fr 0 153 31 [(0, tr 60), (1, .int 0), (2, .int 70)] [], [fBot], 13), (fr 0 316 2 [(0, tr 219), (1, .arg 1308), (2, .int 0)] [], [fBot], 13), [zf98zp_57, zf98zp_58, zf98zp_59, zf98zp_60, zf98zp_61, zf98zp_62, ((0, .arg 2784, .int 5), true), zf98zp_0, zf98zp_1, zf98zp_2, zf98zp_3, ((0, .arg 2050, .int 0), true), zf98zp_4, zf98zp_5, zf98zp_6, zf98zp_7, zf98zp_8], i_gh)
noncomputable def zf98zp_63 : sQ × Bool := ((145, .add (.elem (.arg 1761) (.int 0)) (.add (.sub (.mul (.int 0) (.int 5)) (.int (-90))) (.add (.elem (.arg 24544) (.int 0)) (.add (.elem (.arg 2436) (.int 0)) (.mul (.int 0) (.int 4))))), .int 0), true)
noncomputable def zf98zp_64 : sQ × Bool := ((109, .add (.int 6144) (.int 1), .int 71), true)
noncomputable def zf98zp_65 : sQ × Bool := ((109, .add (.int 6144) (.int 2), .int 72), true)
noncomputable def zf98zp_66 : sQ × Bool := ((109, .add (.int 6144) (.int 3), .int 73), true)
noncomputable def zf98zp_67 : sQ × Bool := ((109, .add (.int 6144) (.int 5), .int 74), true)
noncomputable def zf98zp_68 : sQ × Bool := ((109, .add (.int 6656) (.int 0), .int 90), true)
noncomputable def zf98zp_69 : sQ × Bool := ((6, .op2 .land (.op2 .lshr (.elem (.arg 1761) (.int 71)) (.int 31)) (.long 1), .long 1), false)
noncomputable def zf98zp_70 : sQ × Bool := ((0, .arg 7874, .arg 2338), true)
noncomputable def q_gk0s0 : sCut := ((fr 0 153 31 [(0, tr 60), (1, .int 0), (2, .int 70)] [], [fBot], 13), (fr 0 316 2 [(0, tr 219), (1, .arg 1308), (2, .int 0)] [], [fBot], 13), [((0, .arg 2338, .int 0), true), ((0, .arg 7874, .int 0), true), zf98zp_63, zf98zp_64, zf98zp_65, zf98zp_66, zf98zp_67, zf98zp_68, zf98zp_69, zf98zp_70, zf98zp_57, zf98zp_58, zf98zp_59, zf98zp_60, zf98zp_61, zf98zp_62, ((0, .arg 2784, .int 5), true), zf98zp_0, zf98zp_1, zf98zp_2, zf98zp_3, ((0, .arg 2050, .int 0), true), zf98zp_4, zf98zp_5, zf98zp_6, zf98zp_7, zf98zp_8], i_gh)
theorem k_gk0s0 : cbody kR [(zWP, c_gat), (zWP, c_bou), (zWP, c_rel0), (zWP, c_fndl)] (cpl1 zWP c_goo [q_go1]) (cpl2 zWP c_goo [q_go1]) (cleaf kR zWP c_goo [q_go1]) 400 true true q_gk0s0.2.2.1 q_gk0s0.2.2.2 (cst zWP c_goo.2.2.1.1 q_gk0s0.1) (cst zWP c_goo.2.2.1.2 q_gk0s0.2.1) = true := by decide +kernel
theorem t_gk0s0 {X : pX} {ρ0 : sR} (hv : vok X ρ0) : CUTOK X kR zWP c_goo 13 ρ0 q_gk0s0 := CUT_run kR_x kR_0 (Cs := [(zWP, c_gat), (zWP, c_bou), (zWP, c_rel0), (zWP, c_fndl)]) (fun C hC => by
    simp only [List.mem_cons, List.not_mem_nil, or_false] at hC
    rcases hC with hC | hC | hC | hC
    · rw [hC]; exact s_gat
    · rw [hC]; exact s_bou
    · rw [hC]; exact s_rel0
    · rw [hC]; exact s_fndl) c_goo_f (Q := [q_go1]) hv (fun q hq => by
    simp only [List.mem_cons, List.not_mem_nil, or_false] at hq
    rw [hq]; exact t_go1 hv) 400 (b1 := true) (b2 := true) k_gk0s0
noncomputable def zf98zp_71 : sQ × Bool := ((0, .arg 2338, .int 0), false)
noncomputable def zf98zp_72 : sQ × Bool := ((0, .arg 7874, .int 0), false)
noncomputable def q_gk0sa : sCut := ((fr 0 153 31 [(0, tr 60), (1, .int 0), (2, .int 70)] [], [fBot], 13), (fr 0 316 2 [(0, tr 219), (1, .arg 1308), (2, .int 0)] [], [fBot], 13), [zf98zp_71, zf98zp_72, ((8, .op1 .i2l (.sub (.arg 1280) (.arg 6112)), .elem (.arg 1761) (.int 73)), true), zf98zp_63, zf98zp_64, zf98zp_65, zf98zp_66, zf98zp_67, zf98zp_68, zf98zp_69, zf98zp_70, zf98zp_57, zf98zp_58, zf98zp_59, zf98zp_60, zf98zp_61, zf98zp_62, ((0, .arg 2784, .int 5), true), zf98zp_0, zf98zp_1, zf98zp_2, zf98zp_3, ((0, .arg 2050, .int 0), true), zf98zp_4, zf98zp_5, zf98zp_6, zf98zp_7, zf98zp_8], i_gh)
theorem k_gk0sa : cbody kR [(zWP, c_gat), (zWP, c_bou), (zWP, c_rel0), (zWP, c_fndl)] (cpl1 zWP c_goo [q_go1]) (cpl2 zWP c_goo [q_go1]) (cleaf kR zWP c_goo [q_go1]) 400 true true q_gk0sa.2.2.1 q_gk0sa.2.2.2 (cst zWP c_goo.2.2.1.1 q_gk0sa.1) (cst zWP c_goo.2.2.1.2 q_gk0sa.2.1) = true := by decide +kernel
theorem t_gk0sa {X : pX} {ρ0 : sR} (hv : vok X ρ0) : CUTOK X kR zWP c_goo 13 ρ0 q_gk0sa := CUT_run kR_x kR_0 (Cs := [(zWP, c_gat), (zWP, c_bou), (zWP, c_rel0), (zWP, c_fndl)]) (fun C hC => by
    simp only [List.mem_cons, List.not_mem_nil, or_false] at hC
    rcases hC with hC | hC | hC | hC
    · rw [hC]; exact s_gat
    · rw [hC]; exact s_bou
    · rw [hC]; exact s_rel0
    · rw [hC]; exact s_fndl) c_goo_f (Q := [q_go1]) hv (fun q hq => by
    simp only [List.mem_cons, List.not_mem_nil, or_false] at hq
    rw [hq]; exact t_go1 hv) 400 (b1 := true) (b2 := true) k_gk0sa
noncomputable def q_gk0sb : sCut := ((fr 0 153 31 [(0, tr 60), (1, .int 0), (2, .int 70)] [], [fBot], 13), (fr 0 316 2 [(0, tr 219), (1, .arg 1308), (2, .int 0)] [], [fBot], 13), [zf98zp_71, zf98zp_72, ((8, .op1 .i2l (.sub (.arg 1280) (.arg 6112)), .elem (.arg 1761) (.int 73)), false), zf98zp_63, zf98zp_64, zf98zp_65, zf98zp_66, zf98zp_67, zf98zp_68, zf98zp_69, zf98zp_70, zf98zp_57, zf98zp_58, zf98zp_59, zf98zp_60, zf98zp_61, zf98zp_62, ((0, .arg 2784, .int 5), true), zf98zp_0, zf98zp_1, zf98zp_2, zf98zp_3, ((0, .arg 2050, .int 0), true), zf98zp_4, zf98zp_5, zf98zp_6, zf98zp_7, zf98zp_8], i_gh)
theorem k_gk0sb : cbody kR [(zWP, c_gat), (zWP, c_bou), (zWP, c_rel0), (zWP, c_fndl)] (cpl1 zWP c_goo [q_go1]) (cpl2 zWP c_goo [q_go1]) (cleaf kR zWP c_goo [q_go1]) 400 true true q_gk0sb.2.2.1 q_gk0sb.2.2.2 (cst zWP c_goo.2.2.1.1 q_gk0sb.1) (cst zWP c_goo.2.2.1.2 q_gk0sb.2.1) = true := by decide +kernel
theorem t_gk0sb {X : pX} {ρ0 : sR} (hv : vok X ρ0) : CUTOK X kR zWP c_goo 13 ρ0 q_gk0sb := CUT_run kR_x kR_0 (Cs := [(zWP, c_gat), (zWP, c_bou), (zWP, c_rel0), (zWP, c_fndl)]) (fun C hC => by
    simp only [List.mem_cons, List.not_mem_nil, or_false] at hC
    rcases hC with hC | hC | hC | hC
    · rw [hC]; exact s_gat
    · rw [hC]; exact s_bou
    · rw [hC]; exact s_rel0
    · rw [hC]; exact s_fndl) c_goo_f (Q := [q_go1]) hv (fun q hq => by
    simp only [List.mem_cons, List.not_mem_nil, or_false] at hq
    rw [hq]; exact t_go1 hv) 400 (b1 := true) (b2 := true) k_gk0sb
theorem t_gk0 {X : pX} {ρ0 : sR} (hv : vok X ρ0) : CUTOK X kR zWP c_goo 13 ρ0 q_gk0 := fun ρ k1 hF hI k4 => by
  have hb : abit (ρ.1 2848).toInt (12 + 0) = false := ab_z (c := 4096) (of_decide_eq_true (hF.2 _ (List.mem_cons_of_mem _ (List.mem_cons_of_mem _ (List.mem_cons_self))))) (by decide)
  obtain ⟨⟨⟨h0, i0⟩, ⟨h1, i1⟩, ⟨h2, i2⟩, h3, i3⟩, j0, j1⟩ := pd_iff.mp (hF.2 _ (List.mem_cons_of_mem _ (List.mem_cons_of_mem _ (List.mem_cons_of_mem _ (List.mem_cons_of_mem _ (List.mem_cons_of_mem _ (List.mem_cons_of_mem _ (List.mem_cons_of_mem _ (List.mem_cons_of_mem _ (List.mem_cons_of_mem _ (List.mem_cons_of_mem _ (List.mem_cons_of_mem _ (List.mem_cons_of_mem _ (List.mem_cons_of_mem _ (List.mem_cons_self)))))))))))))))
  rw [hb] at i0
  have he := (po_e i0).1
  have he : ρ.1 7874 = ρ.1 2338 := Int32.toInt_inj.mp he
  have hm : amapm (ρ.2.2.2.1 1761) 90 0 (ρ.2.2.1 24544) (ρ.2.2.1 2436) = true := po_m i0
  have f5 : sc X ρ (145, .add (.elem (.arg 1761) (.int 0)) (.add (.sub (.mul (.int 0) (.int 5)) (.int (-90))) (.add (.elem (.arg 24544) (.int 0)) (.add (.elem (.arg 2436) (.int 0)) (.mul (.int 0) (.int 4))))), .int 0) = true := s145 (x := 0) (y := -90) (z := 0) (show ((0 : Int32)) * 5 = 0 by decide +kernel) rfl (show ((0 : Int32)) * 4 = 0 by decide +kernel) (by decide +kernel) (by decide +kernel) hm
  have p0 := s9_i (X := X) (ρ := ρ) (a := .int 6144) (t := .int 71) (k := 1) rfl rfl (show ((71 : Int32)).toInt = aslot ((6144 : Int32)).toInt ((1 : Int32)).toInt by decide +kernel)
  have p1 := s9_i (X := X) (ρ := ρ) (a := .int 6144) (t := .int 72) (k := 2) rfl rfl (show ((72 : Int32)).toInt = aslot ((6144 : Int32)).toInt ((2 : Int32)).toInt by decide +kernel)
  have p2 := s9_i (X := X) (ρ := ρ) (a := .int 6144) (t := .int 73) (k := 3) rfl rfl (show ((73 : Int32)).toInt = aslot ((6144 : Int32)).toInt ((3 : Int32)).toInt by decide +kernel)
  have p3 := s9_i (X := X) (ρ := ρ) (a := .int 6144) (t := .int 74) (k := 5) rfl rfl (show ((74 : Int32)).toInt = aslot ((6144 : Int32)).toInt ((5 : Int32)).toInt by decide +kernel)
  have p4 := s9_i (X := X) (ρ := ρ) (a := .int 6656) (t := .int 90) (k := 0) rfl rfl (show ((90 : Int32)).toInt = aslot ((6656 : Int32)).toInt ((0 : Int32)).toInt by decide +kernel)
  have fo := decide_eq_false (of0_ (x := (ρ.2.2.2.1 1761) 71) (of_decide_eq_true (hF.2 _ (List.mem_cons_of_mem _ (List.mem_cons_of_mem _ (List.mem_cons_of_mem _ (List.mem_cons_of_mem _ (List.mem_cons_self))))))))
  have fe := decide_eq_true he
  by_cases hs : ρ.1 2338 = 0
  · exact t_gk0s0 hv ρ k1 ⟨hF.1, fcn (decide_eq_true hs) (fcn (decide_eq_true (he.trans hs)) (fcn (f5) (fcn (p0) (fcn (p1) (fcn (p2) (fcn (p3) (fcn (p4) (fcn (fo) (fcn (fe) (hF.2))))))))))⟩ hI k4
  have g1 := decide_eq_false hs
  have g2 := decide_eq_false (show ¬ ρ.1 7874 = 0 from fun q => hs (he.symm.trans q))
  by_cases hv3 : sc X ρ (8, .op1 .i2l (.sub (.arg 1280) (.arg 6112)), .elem (.arg 1761) (.int 73)) = true
  · exact t_gk0sa hv ρ k1 ⟨hF.1, fcn (g1) (fcn (g2) (fcn (hv3) (fcn (f5) (fcn (p0) (fcn (p1) (fcn (p2) (fcn (p3) (fcn (p4) (fcn (fo) (fcn (fe) (hF.2)))))))))))⟩ hI k4
  · have hv3 := Bool.not_eq_true _ ▸ hv3
    exact t_gk0sb hv ρ k1 ⟨hF.1, fcn (g1) (fcn (g2) (fcn (hv3) (fcn (f5) (fcn (p0) (fcn (p1) (fcn (p2) (fcn (p3) (fcn (p4) (fcn (fo) (fcn (fe) (hF.2)))))))))))⟩ hI k4
noncomputable def q_gj0 : sCut := ((fr 0 153 31 [(0, tr 60), (1, .int 0), (2, .int 70)] [], [fBot], 13), (fr 0 316 2 [(0, tr 219), (1, .arg 1308), (2, .int 0)] [], [fBot], 13), [zf98zp_59, zf98zp_60, zf98zp_61, zf98zp_62, ((0, .arg 2784, .int 5), true), zf98zp_0, zf98zp_1, zf98zp_2, zf98zp_3, ((0, .arg 2050, .int 0), true), zf98zp_4, zf98zp_5, zf98zp_6, zf98zp_7, zf98zp_8], i_gh)
theorem t_gj0 {X : pX} {ρ0 : sR} (hv : vok X ρ0) : CUTOK X kR zWP c_goo 13 ρ0 q_gj0 := CUT_set (g := 64065) kR_x (by decide +kernel) (by decide) (by decide +kernel) (by decide +kernel) (by decide +kernel) (by decide +kernel) (by decide +kernel) (fun ρ k1 hF hI => ⟨0, Int64.ofInt (aout (aits X ρ (.add (.elem (.arg 1761) (.int 0)) (.add (.arg 2816) (.add (.arg 2784) (.add (.arg 1665) (.add (.arg 1633) (.add (.arg 7073) (.add (.arg 3008) (.add (.arg 2018) (.add (.arg 1954) (.add (.arg 1986) (.add (.arg 1697) (.add (.arg 1729) (.add (.arg 1296) (.add (.arg 1634) (.add (.arg 6625) (.add (.arg 7041) (.add (.arg 7105) (.add (.arg 7137) (.arg 7169)))))))))))))))))))) 90), fun ρ' ag e1 e2 hF' hI' => ⟨⟨hF'.1, fcn (s134 (X := X) (a := .mul (.int 0) (.int 5)) (b := .int (-90)) (x := 0) (y := -90) (m := 90) ag (show ((0 : Int32)) * 5 = 0 by decide +kernel) rfl (by decide +kernel) e2) (fcn (s134i (X := X) (x := 90) ag (by decide +kernel) e2) hF'.2)⟩, hI'⟩⟩) (t_gk0 hv)
noncomputable def q_gi0 : sCut := ((fr 0 153 31 [(0, tr 60), (1, .int 0), (2, .int 70)] [], [fBot], 13), (fr 0 316 2 [(0, tr 219), (1, .arg 1308), (2, .int 0)] [], [fBot], 13), [zf98zp_59, zf98zp_60, zf98zp_61, zf98zp_62, ((0, .arg 2784, .int 5), true), zf98zp_0, zf98zp_1, zf98zp_2, zf98zp_3, ((0, .arg 2050, .int 0), true), zf98zp_4, zf98zp_5, zf98zp_6, zf98zp_7, zf98zp_8], i_go)
theorem t_gi0 {X : pX} {ρ0 : sR} (hv : vok X ρ0) : CUTOK X kR zWP c_goo 13 ρ0 q_gi0 := CUT_mono (t_gj0 hv) (fun ρ hF hI => ⟨hF, iv_gh hI⟩)
noncomputable def q_go0 : sCut := ((fr 0 153 8 [(0, tr 60), (1, .int 0)] [], [fBot], 13), (fr 0 316 2 [(0, tr 219), (1, .arg 1308), (2, .int 0)] [], [fBot], 13), [((0, .arg 2784, .int 5), true), zf98zp_0, zf98zp_1, zf98zp_2, zf98zp_3, ((0, .arg 2050, .int 0), true), zf98zp_4, zf98zp_5, zf98zp_6, zf98zp_7, zf98zp_8], i_go)
noncomputable def q_go0a : sCut := ((fr 0 153 8 [(0, tr 60), (1, .int 0)] [], [fBot], 13), (fr 0 316 2 [(0, tr 219), (1, .arg 1308), (2, .int 0)] [], [fBot], 13), [((8, .elem (.arg 1761) (.int 72), .long 254), true), zf98zp_64, zf98zp_65, zf98zp_68, ((0, .arg 2784, .int 5), true), zf98zp_0, zf98zp_1, zf98zp_2, zf98zp_3, ((0, .arg 2050, .int 0), true), zf98zp_4, zf98zp_5, zf98zp_6, zf98zp_7, zf98zp_8], i_go)
theorem k_go0a : cbody kR [(zWP, c_fndl)] (cpl1 zWP c_goo [q_go1]) (cpl2 zWP c_goo [q_go1]) (cleaf kR zWP c_goo [q_go1]) 400 true true q_go0a.2.2.1 q_go0a.2.2.2 (cst zWP c_goo.2.2.1.1 q_go0a.1) (cst zWP c_goo.2.2.1.2 q_go0a.2.1) = true := by decide +kernel
theorem t_go0a {X : pX} {ρ0 : sR} (hv : vok X ρ0) : CUTOK X kR zWP c_goo 13 ρ0 q_go0a := CUT_run kR_x kR_0 (Cs := [(zWP, c_fndl)]) (fun C hC => by rw [List.mem_singleton.mp hC]; exact s_fndl) c_goo_f (Q := [q_go1]) hv (fun q hq => by
    simp only [List.mem_cons, List.not_mem_nil, or_false] at hq
    rw [hq]; exact t_go1 hv) 400 (b1 := true) (b2 := true) k_go0a
noncomputable def q_go0b : sCut := ((fr 0 153 8 [(0, tr 60), (1, .int 0)] [], [fBot], 13), (fr 0 316 2 [(0, tr 219), (1, .arg 1308), (2, .int 0)] [], [fBot], 13), [zf98zp_60, ((6, .op2 .land (.elem (.arg 1761) (.int 71)) (.long 2147483648), .long 0), false), ((6, .op2 .land (.op2 .lshr (.elem (.arg 1761) (.int 71)) (.int 31)) (.long 1), .long 1), true), zf98zp_64, zf98zp_65, zf98zp_68, ((0, .arg 2784, .int 5), true), zf98zp_0, zf98zp_1, zf98zp_2, zf98zp_3, ((0, .arg 2050, .int 0), true), zf98zp_4, zf98zp_5, zf98zp_6, zf98zp_7, zf98zp_8], i_go)
theorem k_go0b : cbody kR [(zWP, c_ofo0), (zWP, c_fndl)] (cpl1 zWP c_goo [q_go1]) (cpl2 zWP c_goo [q_go1]) (cleaf kR zWP c_goo [q_go1]) 400 true true q_go0b.2.2.1 q_go0b.2.2.2 (cst zWP c_goo.2.2.1.1 q_go0b.1) (cst zWP c_goo.2.2.1.2 q_go0b.2.1) = true := by decide +kernel
theorem t_go0b {X : pX} {ρ0 : sR} (hv : vok X ρ0) : CUTOK X kR zWP c_goo 13 ρ0 q_go0b := CUT_run kR_x kR_0 (Cs := [(zWP, c_ofo0), (zWP, c_fndl)]) (fun C hC => by
    simp only [List.mem_cons, List.not_mem_nil, or_false] at hC
    rcases hC with hC | hC
    · rw [hC]; exact s_ofo0
    · rw [hC]; exact s_fndl) c_goo_f (Q := [q_go1]) hv (fun q hq => by
    simp only [List.mem_cons, List.not_mem_nil, or_false] at hq
    rw [hq]; exact t_go1 hv) 400 (b1 := true) (b2 := true) k_go0b
noncomputable def q_go0c : sCut := ((fr 0 153 8 [(0, tr 60), (1, .int 0)] [], [fBot], 13), (fr 0 316 2 [(0, tr 219), (1, .arg 1308), (2, .int 0)] [], [fBot], 13), [zf98zp_60, zf98zp_61, zf98zp_69, ((8, .long 0, .elem (.arg 1761) (.int 90)), false), zf98zp_64, zf98zp_65, zf98zp_68, ((0, .arg 2784, .int 5), true), zf98zp_0, zf98zp_1, zf98zp_2, zf98zp_3, ((0, .arg 2050, .int 0), true), zf98zp_4, zf98zp_5, zf98zp_6, zf98zp_7, zf98zp_8], i_go)
theorem k_go0c : cbody kR [(zWP, c_ono0n), (zWP, c_fndl)] (cpl1 zWP c_goo [q_go1]) (cpl2 zWP c_goo [q_go1]) (cleaf kR zWP c_goo [q_go1]) 400 true true q_go0c.2.2.1 q_go0c.2.2.2 (cst zWP c_goo.2.2.1.1 q_go0c.1) (cst zWP c_goo.2.2.1.2 q_go0c.2.1) = true := by decide +kernel
theorem t_go0c {X : pX} {ρ0 : sR} (hv : vok X ρ0) : CUTOK X kR zWP c_goo 13 ρ0 q_go0c := CUT_run kR_x kR_0 (Cs := [(zWP, c_ono0n), (zWP, c_fndl)]) (fun C hC => by
    simp only [List.mem_cons, List.not_mem_nil, or_false] at hC
    rcases hC with hC | hC
    · rw [hC]; exact s_ono0n
    · rw [hC]; exact s_fndl) c_goo_f (Q := [q_go1]) hv (fun q hq => by
    simp only [List.mem_cons, List.not_mem_nil, or_false] at hq
    rw [hq]; exact t_go1 hv) 400 (b1 := true) (b2 := true) k_go0c
noncomputable def q_go0d : sCut := ((fr 0 153 8 [(0, tr 60), (1, .int 0)] [], [fBot], 13), (fr 0 316 2 [(0, tr 219), (1, .arg 1308), (2, .int 0)] [], [fBot], 13), [zf98zp_60, zf98zp_61, zf98zp_62, ((0, .arg 2784, .int 5), true), zf98zp_0, zf98zp_1, zf98zp_2, zf98zp_3, ((0, .arg 2050, .int 0), true), zf98zp_4, zf98zp_5, zf98zp_6, zf98zp_7, zf98zp_8], i_go)
theorem k_go0d : cbody kR [(zWP, c_ono0y)] (cpl1 zWP c_goo [q_gi0]) (cpl2 zWP c_goo [q_gi0]) (cleaf kR zWP c_goo [q_gi0]) 400 true false q_go0d.2.2.1 q_go0d.2.2.2 (cst zWP c_goo.2.2.1.1 q_go0d.1) (cst zWP c_goo.2.2.1.2 q_go0d.2.1) = true := by decide +kernel
theorem t_go0d {X : pX} {ρ0 : sR} (hv : vok X ρ0) : CUTOK X kR zWP c_goo 13 ρ0 q_go0d := CUT_run kR_x kR_0 (Cs := [(zWP, c_ono0y)]) (fun C hC => by rw [List.mem_singleton.mp hC]; exact s_ono0y) c_goo_f (Q := [q_gi0]) hv (fun q hq => by
    simp only [List.mem_cons, List.not_mem_nil, or_false] at hq
    rw [hq]; exact t_gi0 hv) 400 (b1 := true) (b2 := false) k_go0d
theorem t_go0 {X : pX} {ρ0 : sR} (hv : vok X ρ0) : CUTOK X kR zWP c_goo 13 ρ0 q_go0 := fun ρ k1 hF hI k4 => by
  have p0 := s9_i (X := X) (ρ := ρ) (a := .int 6144) (t := .int 71) (k := 1) rfl rfl (show ((71 : Int32)).toInt = aslot ((6144 : Int32)).toInt ((1 : Int32)).toInt by decide +kernel)
  have p1 := s9_i (X := X) (ρ := ρ) (a := .int 6144) (t := .int 72) (k := 2) rfl rfl (show ((72 : Int32)).toInt = aslot ((6144 : Int32)).toInt ((2 : Int32)).toInt by decide +kernel)
  have p2 := s9_i (X := X) (ρ := ρ) (a := .int 6656) (t := .int 90) (k := 0) rfl rfl (show ((90 : Int32)).toInt = aslot ((6656 : Int32)).toInt ((0 : Int32)).toInt by decide +kernel)
  by_cases h1 : sc X ρ (8, .elem (.arg 1761) (.int 72), .long 254) = true
  · exact t_go0a hv ρ k1 ⟨hF.1, fcn (h1) (fcn (p0) (fcn (p1) (fcn (p2) (hF.2))))⟩ hI k4
  have h1 := Bool.not_eq_true _ ▸ h1
  by_cases h2 : (ρ.2.2.2.1 1761) 71 &&& 2147483648 = 0
  · by_cases h3 : sc X ρ (8, .long 0, .elem (.arg 1761) (.int 90)) = true
    · exact t_go0d hv ρ k1 ⟨hF.1, fcn (h1) (fcn (decide_eq_true h2) (fcn (h3) (hF.2)))⟩ hI k4
    · have h3 := Bool.not_eq_true _ ▸ h3
      exact t_go0c hv ρ k1 ⟨hF.1, fcn (h1) (fcn (decide_eq_true h2) (fcn (decide_eq_false (of0_ h2)) (fcn (h3) (fcn (p0) (fcn (p1) (fcn (p2) (hF.2)))))))⟩ hI k4
  · exact t_go0b hv ρ k1 ⟨hF.1, fcn (h1) (fcn (decide_eq_false h2) (fcn (decide_eq_true (of1_ h2)) (fcn (p0) (fcn (p1) (fcn (p2) (hF.2))))))⟩ hI k4
noncomputable def q_goS : sCut := ((fr 0 153 0 [(0, tr 60)] [], [fBot], 13), (fr 0 316 0 [(0, tr 219), (1, .arg 1308)] [], [fBot], 13), [zf98zp_0, zf98zp_1, zf98zp_2, zf98zp_3, ((0, .arg 2050, .int 0), true), zf98zp_4, zf98zp_5, zf98zp_6, zf98zp_7, zf98zp_8], i_go)
noncomputable def q_goSy : sCut := ((fr 0 153 0 [(0, tr 60)] [], [fBot], 13), (fr 0 316 0 [(0, tr 219), (1, .arg 1308)] [], [fBot], 13), [((0, .arg 2784, .int 5), true), zf98zp_0, zf98zp_1, zf98zp_2, zf98zp_3, ((0, .arg 2050, .int 0), true), zf98zp_4, zf98zp_5, zf98zp_6, zf98zp_7, zf98zp_8], i_go)
theorem k_goSy : cbody kR [] (cpl1 zWP c_goo [q_go0]) (cpl2 zWP c_goo [q_go0]) (cleaf kR zWP c_goo [q_go0]) 200 true true q_goSy.2.2.1 q_goSy.2.2.2 (cst zWP c_goo.2.2.1.1 q_goSy.1) (cst zWP c_goo.2.2.1.2 q_goSy.2.1) = true := by decide +kernel
theorem t_goSy {X : pX} {ρ0 : sR} (hv : vok X ρ0) : CUTOK X kR zWP c_goo 13 ρ0 q_goSy := CUT_run kR_x kR_0 (Cs := []) (fun C hC => by cases hC) c_goo_f (Q := [q_go0]) hv (fun q hq => by
    simp only [List.mem_cons, List.not_mem_nil, or_false] at hq
    rw [hq]; exact t_go0 hv) 200 (b1 := true) (b2 := true) k_goSy
noncomputable def q_goSn : sCut := ((fr 0 153 0 [(0, tr 60)] [], [fBot], 13), (fr 0 316 0 [(0, tr 219), (1, .arg 1308)] [], [fBot], 13), [((0, .arg 2784, .int 5), false), zf98zp_0, zf98zp_1, zf98zp_2, zf98zp_3, ((0, .arg 2050, .int 0), true), zf98zp_4, zf98zp_5, zf98zp_6, zf98zp_7, zf98zp_8], i_go)
theorem k_goSn : cbody kR [] (cpl1 zWP c_goo []) (cpl2 zWP c_goo []) (cleaf kR zWP c_goo []) 200 true true q_goSn.2.2.1 q_goSn.2.2.2 (cst zWP c_goo.2.2.1.1 q_goSn.1) (cst zWP c_goo.2.2.1.2 q_goSn.2.1) = true := by decide +kernel
theorem t_goSn {X : pX} {ρ0 : sR} (hv : vok X ρ0) : CUTOK X kR zWP c_goo 13 ρ0 q_goSn := CUT_run kR_x kR_0 (Cs := []) (fun C hC => by cases hC) c_goo_f (Q := []) hv (fun q hq => by cases hq) 200 (b1 := true) (b2 := true) k_goSn
theorem t_goS {X : pX} {ρ0 : sR} (hv : vok X ρ0) : CUTOK X kR zWP c_goo 13 ρ0 q_goS := CUT_split (0, .arg 2784, .int 5) (t_goSy hv) (t_goSn hv)
theorem e_goo : frun kR [] (cpl1 zWP c_goo [q_goS]) (cpl2 zWP c_goo [q_goS]) (cleaf kR zWP c_goo [q_goS]) 10 65536 (isatP (c_goo.2.2.2.1) c_goo.2.2.2.2.2.2.2.1) c_goo.2.2.2.2.2.2.2.1 (sin0 mt_all c_goo.1.1 13 c_goo.2.1.1 (foot zWP c_goo.2.2.1.1)) (sin0 mt_all c_goo.1.2.1 13 c_goo.2.1.2 (foot zWP c_goo.2.2.1.2)) = true := by decide +kernel
theorem s_goo {X : pX} : SREL X pF pdfl mt_all kR zWP c_goo := SREL_QC kR_x kR_0 (Cs := []) (fun C hC => by cases hC) (d := 13) rfl c_goo_f (Q := [q_goS]) (fun ρ0 hv => fun q hq => by
    simp only [List.mem_cons, List.not_mem_nil, or_false] at hq
    rw [hq]; exact t_goS hv) (QC_run 10 e_goo)
