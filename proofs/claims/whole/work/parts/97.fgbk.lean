/-! ===== a block goes up: giveBlock and sendBlock ===== -/
noncomputable def c_gbk : sC := ((173, 338, 10), ([tr 58], [tr 219, .arg 1308]), ([2, 3, 4, 5, 6, 7, 9, 10, 11, 12, 13, 15, 49, 50, 51, 42, 43, 56, 58, 59], [237, 238, 239, 240, 241, 296, 219, 228, 229, 290, 291, 292, 293, 220, 221, 260, 261, 317, 318, 316, 320, 321, 322, 323]), [((0, .arg 22752, .arg 3552), true), ((2, .arg 3552, .int 1), false), ((2, .int 16, .arg 3552), false), ((0, .arg 22240, .mul (.arg 3520) (.int 7)), true), ((2, .arg 3520, .int 0), false), ((2, .int 22, .arg 3520), false), ((0, .arg 1306, .arg 22112), true), ((2, .arg 1306, .int 0), false), ((2, .int 144, .arg 1306), false), ((103, .add (.elem (.arg 1348) (.int 0)) (.elem (.arg 2084) (.int 0)), .arg 1306), true), ((100, .elem (.arg 2944) (.int 0), .arg 1318), true), ((104, .add (.arg 6625) (.add (.arg 7041) (.elem (.arg 2944) (.int 0))), .arg 1318), true), ((2, .arg 2816, .int 1), false), ((2, .int 7, .arg 2816), false)], ([1290, 1322, 1354, 1386, 1312, 1794, 1318, 1350, 2816, 1340, 6625, 7041, 6753, 6785, 6817, 6849, 6881, 6913, 6945, 6977, 7009, 3616, 22624, 3584, 22880, 22496, 60192], [2944, 2976, 1408, 1440, 1472, 1504, 1281, 1313, 1345, 1377]), (none, none), [((0, .arg 3616, .int 162), true), ((0, .arg 22624, .int 1), true), ((0, .arg 3584, .arg 22880), true), ((2, .arg 3584, .int 1), false), ((2, .int 16, .arg 3584), false), ((100, .elem (.arg 2944) (.int 0), .arg 1318), true), ((104, .add (.arg 6625) (.add (.arg 7041) (.elem (.arg 2944) (.int 0))), .arg 1318), true), ((2, .arg 2816, .int 1), false), ((2, .int 7, .arg 2816), false)], ([([((0, .arg 1306, .int 0), false)], (2, .mul (.arg 3520) (.int 7), .arg 1306), true), ([((0, .arg 1306, .int 0), true)], (0, .arg 3520, .int 0), true), ([((0, .arg 2816, .int 4), true)], (0, .arg 3232, .arg 1340), true), ([((0, .arg 2816, .int 4), false)], (0, .arg 1340, .int 0), true), ([((0, .arg 2816, .int 4), true)], (0, .arg 64000, .int 4), true)], [([((0, .arg 1306, .int 0), false)], (2, .mul (.add (.arg 3520) (.arg 3584)) (.int 7), .add (.arg 1306) (.int 7)), true), ([((0, .arg 1306, .int 0), true)], (2, .mul (.add (.arg 3520) (.arg 3584)) (.int 7), .int 8), true), ([((2, .mul (.add (.arg 3520) (.arg 3584)) (.int 7), .arg 1306), true)], (0, .arg 22496, .int 0), true), ([((2, .mul (.add (.arg 3520) (.arg 3584)) (.int 7), .arg 1306), false)], (0, .arg 22496, .int 1), true), ([((0, .arg 2816, .int 4), true)], (0, .arg 3232, .arg 1340), true), ([((0, .arg 2816, .int 4), false)], (0, .arg 1340, .int 0), true), ([((0, .arg 2816, .int 4), true)], (0, .arg 64000, .int 4), true)]))
theorem c_gbk_f : cfine zVP 65536 c_gbk = true := by decide +kernel
noncomputable def q_gk : sCut := ((fr 3 173 15 [(0, tr 58), (1, .arg 60192), (2, .add (.arg 22880) (.int 1))] [], [fBot], 9), (fr 0 338 15 [(0, tr 219), (1, .arg 1308)] [], [fBot], 9), [((0, .arg 1306, .arg 22112), true), ((2, .arg 1306, .int 0), false), ((2, .int 144, .arg 1306), false), ((103, .add (.elem (.arg 1348) (.int 0)) (.elem (.arg 2084) (.int 0)), .arg 1306), true), ((100, .elem (.arg 2944) (.int 0), .arg 1318), true), ((104, .add (.arg 6625) (.add (.arg 7041) (.elem (.arg 2944) (.int 0))), .arg 1318), true), ((2, .arg 2816, .int 1), false), ((2, .int 7, .arg 2816), false), ((0, .arg 22624, .int 1), true)], [([((0, .arg 2816, .int 4), true)], (0, .arg 3232, .arg 1340), true), ([((0, .arg 2816, .int 4), false)], (0, .arg 1340, .int 0), true), ([((0, .arg 2816, .int 4), true)], (0, .arg 64000, .int 4), true)])
noncomputable def q_gkF : sCut := ((fr 0 173 15 [(0, tr 58), (1, .arg 60192), (2, .add (.arg 22880) (.int 1))] [], [fBot], 9), (fr 0 338 15 [(0, tr 219), (1, .arg 1308)] [], [fBot], 9), [((0, .arg 1306, .arg 22112), true), ((2, .arg 1306, .int 0), false), ((2, .int 144, .arg 1306), false), ((103, .add (.elem (.arg 1348) (.int 0)) (.elem (.arg 2084) (.int 0)), .arg 1306), true), ((100, .elem (.arg 2944) (.int 0), .arg 1318), true), ((104, .add (.arg 6625) (.add (.arg 7041) (.elem (.arg 2944) (.int 0))), .arg 1318), true), ((2, .arg 2816, .int 1), false), ((2, .int 7, .arg 2816), false), ((0, .arg 22624, .int 1), true)], [([((0, .arg 2816, .int 4), true)], (0, .arg 3232, .arg 1340), true), ([((0, .arg 2816, .int 4), false)], (0, .arg 1340, .int 0), true), ([((0, .arg 2816, .int 4), true)], (0, .arg 64000, .int 4), true)])
noncomputable def q_gkL : sCut := ((fr 3 173 15 [(0, tr 58), (1, .arg 60192), (2, .add (.arg 22880) (.int 1))] [], [fBot], 9), (fr 0 338 15 [(0, tr 219), (1, .arg 1308)] [], [fBot], 9), [((2, .arg 3584, .add (.arg 22880) (.int 1)), false), ((0, .add (.arg 22880) (.int 1), .arg 60192), true), ((2, .arg 22880, .arg 22752), true), ((0, .arg 22496, .int 0), true), ((2, .add (.add (.arg 22240) (.mul (.int 7) (.arg 22880))) (.int 7), .arg 1306), false), ((2, .add (.add (.arg 22240) (.mul (.arg 22880) (.int 7))) (.int 7), .arg 1306), false), ((2, .add (.add (.arg 22240) (.mul (.int 7) (.arg 22880))) (.int 7), .arg 22112), false), ((2, .add (.add (.arg 22240) (.mul (.arg 22880) (.int 7))) (.int 7), .arg 22112), false), ((0, .add (.arg 22240) (.mul (.int 7) (.arg 22880)), .mul (.sub (.add (.arg 3520) (.add (.arg 22880) (.int 1))) (.int 1)) (.int 7)), true), ((0, .add (.arg 22240) (.mul (.arg 22880) (.int 7)), .mul (.sub (.add (.arg 3520) (.add (.arg 22880) (.int 1))) (.int 1)) (.int 7)), true), ((0, .mul (.sub (.add (.arg 3520) (.add (.arg 22880) (.int 1))) (.int 1)) (.int 7), .add (.arg 22240) (.mul (.int 7) (.arg 22880))), true), ((0, .mul (.sub (.add (.arg 3520) (.add (.arg 22880) (.int 1))) (.int 1)) (.int 7), .add (.arg 22240) (.mul (.arg 22880) (.int 7))), true), ((2, .mul (.sub (.add (.arg 3520) (.add (.arg 22880) (.int 1))) (.int 1)) (.int 7), .int 0), false), ((2, .int 160, .mul (.sub (.add (.arg 3520) (.add (.arg 22880) (.int 1))) (.int 1)) (.int 7)), false), ((2, .arg 22880, .int 0), false), ((2, .int 126, .arg 22880), false), ((0, .arg 1306, .arg 22112), true), ((2, .arg 1306, .int 0), false), ((2, .int 144, .arg 1306), false), ((103, .add (.elem (.arg 1348) (.int 0)) (.elem (.arg 2084) (.int 0)), .arg 1306), true), ((100, .elem (.arg 2944) (.int 0), .arg 1318), true), ((104, .add (.arg 6625) (.add (.arg 7041) (.elem (.arg 2944) (.int 0))), .arg 1318), true), ((2, .arg 2816, .int 1), false), ((2, .int 7, .arg 2816), false), ((0, .arg 22624, .int 1), true)], [([((0, .arg 2816, .int 4), true)], (0, .arg 3232, .arg 1340), true), ([((0, .arg 2816, .int 4), false)], (0, .arg 1340, .int 0), true), ([((0, .arg 2816, .int 4), true)], (0, .arg 64000, .int 4), true)])
noncomputable def w_gkL : List (sCut × List (Nat × sT)) := [(q_gk, [(22880, .add (.arg 22880) (.int 1)), (22496, .int 1), (60192, .arg 60192), (3584, .arg 3584)])]
theorem k_gkL : cbody kR [(zVP, c_say0), (zVP, c_sevd)] (cpl1 zVP c_gbk (w_gkL.map (fun p => p.1))) (cpl2 zVP c_gbk (w_gkL.map (fun p => p.1))) (cleafS kR zVP c_gbk w_gkL) 300 true true q_gkL.2.2.1 q_gkL.2.2.2 (cst zVP c_gbk.2.2.1.1 q_gkL.1) (cst zVP c_gbk.2.2.1.2 q_gkL.2.1) = true := by decide +kernel
noncomputable def q_gkL0 : sCut := ((fr 0 173 15 [(0, tr 58), (1, .arg 60192), (2, .add (.arg 22880) (.int 1))] [], [fBot], 9), (fr 0 338 15 [(0, tr 219), (1, .arg 1308)] [], [fBot], 9), [((2, .arg 3584, .add (.arg 22880) (.int 1)), false), ((0, .add (.arg 22880) (.int 1), .arg 60192), true), ((2, .arg 22880, .arg 22752), true), ((0, .arg 22496, .int 0), true), ((2, .add (.add (.arg 22240) (.mul (.int 7) (.arg 22880))) (.int 7), .arg 1306), false), ((2, .add (.add (.arg 22240) (.mul (.arg 22880) (.int 7))) (.int 7), .arg 1306), false), ((2, .add (.add (.arg 22240) (.mul (.int 7) (.arg 22880))) (.int 7), .arg 22112), false), ((2, .add (.add (.arg 22240) (.mul (.arg 22880) (.int 7))) (.int 7), .arg 22112), false), ((0, .add (.arg 22240) (.mul (.int 7) (.arg 22880)), .mul (.sub (.add (.arg 3520) (.add (.arg 22880) (.int 1))) (.int 1)) (.int 7)), true), ((0, .add (.arg 22240) (.mul (.arg 22880) (.int 7)), .mul (.sub (.add (.arg 3520) (.add (.arg 22880) (.int 1))) (.int 1)) (.int 7)), true), ((0, .mul (.sub (.add (.arg 3520) (.add (.arg 22880) (.int 1))) (.int 1)) (.int 7), .add (.arg 22240) (.mul (.int 7) (.arg 22880))), true), ((0, .mul (.sub (.add (.arg 3520) (.add (.arg 22880) (.int 1))) (.int 1)) (.int 7), .add (.arg 22240) (.mul (.arg 22880) (.int 7))), true), ((2, .mul (.sub (.add (.arg 3520) (.add (.arg 22880) (.int 1))) (.int 1)) (.int 7), .int 0), false), ((2, .int 160, .mul (.sub (.add (.arg 3520) (.add (.arg 22880) (.int 1))) (.int 1)) (.int 7)), false), ((2, .arg 22880, .int 0), false), ((2, .int 126, .arg 22880), false), ((0, .arg 1306, .arg 22112), true), ((2, .arg 1306, .int 0), false), ((2, .int 144, .arg 1306), false), ((103, .add (.elem (.arg 1348) (.int 0)) (.elem (.arg 2084) (.int 0)), .arg 1306), true), ((100, .elem (.arg 2944) (.int 0), .arg 1318), true), ((104, .add (.arg 6625) (.add (.arg 7041) (.elem (.arg 2944) (.int 0))), .arg 1318), true), ((2, .arg 2816, .int 1), false), ((2, .int 7, .arg 2816), false), ((0, .arg 22624, .int 1), true)], [([((0, .arg 2816, .int 4), true)], (0, .arg 3232, .arg 1340), true), ([((0, .arg 2816, .int 4), false)], (0, .arg 1340, .int 0), true), ([((0, .arg 2816, .int 4), true)], (0, .arg 64000, .int 4), true)])
noncomputable def w_gkL0 : List (sCut × List (Nat × sT)) := [(q_gk, [(22880, .add (.arg 22880) (.int 1)), (22496, .int 1), (60192, .arg 60192), (3584, .arg 3584)])]
theorem k_gkL0 : cbody kR [(zVP, c_say0), (zVP, c_sevd)] (cpl1 zVP c_gbk (w_gkL0.map (fun p => p.1))) (cpl2 zVP c_gbk (w_gkL0.map (fun p => p.1))) (cleafS kR zVP c_gbk w_gkL0) 300 true true q_gkL0.2.2.1 q_gkL0.2.2.2 (cst zVP c_gbk.2.2.1.1 q_gkL0.1) (cst zVP c_gbk.2.2.1.2 q_gkL0.2.1) = true := by decide +kernel
noncomputable def q_gkK : sCut := ((fr 3 173 15 [(0, tr 58), (1, .arg 60192), (2, .add (.arg 22880) (.int 1))] [], [fBot], 9), (fr 0 338 15 [(0, tr 219), (1, .arg 1308)] [], [fBot], 9), [((2, .arg 3584, .add (.arg 22880) (.int 1)), false), ((0, .add (.arg 22880) (.int 1), .arg 60192), false), ((2, .arg 22880, .arg 22752), true), ((0, .arg 22496, .int 0), true), ((2, .add (.add (.arg 22240) (.mul (.int 7) (.arg 22880))) (.int 7), .arg 1306), true), ((2, .add (.add (.arg 22240) (.mul (.arg 22880) (.int 7))) (.int 7), .arg 1306), true), ((2, .add (.add (.arg 22240) (.mul (.int 7) (.arg 22880))) (.int 7), .arg 22112), true), ((2, .add (.add (.arg 22240) (.mul (.arg 22880) (.int 7))) (.int 7), .arg 22112), true), ((0, .add (.arg 22240) (.mul (.int 7) (.arg 22880)), .mul (.sub (.add (.arg 3520) (.add (.arg 22880) (.int 1))) (.int 1)) (.int 7)), true), ((0, .add (.arg 22240) (.mul (.arg 22880) (.int 7)), .mul (.sub (.add (.arg 3520) (.add (.arg 22880) (.int 1))) (.int 1)) (.int 7)), true), ((0, .mul (.sub (.add (.arg 3520) (.add (.arg 22880) (.int 1))) (.int 1)) (.int 7), .add (.arg 22240) (.mul (.int 7) (.arg 22880))), true), ((0, .mul (.sub (.add (.arg 3520) (.add (.arg 22880) (.int 1))) (.int 1)) (.int 7), .add (.arg 22240) (.mul (.arg 22880) (.int 7))), true), ((2, .mul (.sub (.add (.arg 3520) (.add (.arg 22880) (.int 1))) (.int 1)) (.int 7), .int 0), false), ((2, .int 160, .mul (.sub (.add (.arg 3520) (.add (.arg 22880) (.int 1))) (.int 1)) (.int 7)), false), ((2, .arg 22880, .int 0), false), ((2, .int 126, .arg 22880), false), ((0, .arg 1306, .arg 22112), true), ((2, .arg 1306, .int 0), false), ((2, .int 144, .arg 1306), false), ((103, .add (.elem (.arg 1348) (.int 0)) (.elem (.arg 2084) (.int 0)), .arg 1306), true), ((100, .elem (.arg 2944) (.int 0), .arg 1318), true), ((104, .add (.arg 6625) (.add (.arg 7041) (.elem (.arg 2944) (.int 0))), .arg 1318), true), ((2, .arg 2816, .int 1), false), ((2, .int 7, .arg 2816), false), ((0, .arg 22624, .int 1), true)], [([((0, .arg 2816, .int 4), true)], (0, .arg 3232, .arg 1340), true), ([((0, .arg 2816, .int 4), false)], (0, .arg 1340, .int 0), true), ([((0, .arg 2816, .int 4), true)], (0, .arg 64000, .int 4), true)])
noncomputable def w_gkK : List (sCut × List (Nat × sT)) := [(q_gk, [(22880, .add (.arg 22880) (.int 1)), (22496, .int 0), (60192, .arg 60192), (3584, .arg 3584)])]
theorem k_gkK : cbody kR [(zVP, c_say0), (zVP, c_sevd)] (cpl1 zVP c_gbk (w_gkK.map (fun p => p.1))) (cpl2 zVP c_gbk (w_gkK.map (fun p => p.1))) (cleafS kR zVP c_gbk w_gkK) 300 true true q_gkK.2.2.1 q_gkK.2.2.2 (cst zVP c_gbk.2.2.1.1 q_gkK.1) (cst zVP c_gbk.2.2.1.2 q_gkK.2.1) = true := by decide +kernel
noncomputable def q_gkK0 : sCut := ((fr 0 173 15 [(0, tr 58), (1, .arg 60192), (2, .add (.arg 22880) (.int 1))] [], [fBot], 9), (fr 0 338 15 [(0, tr 219), (1, .arg 1308)] [], [fBot], 9), [((2, .arg 3584, .add (.arg 22880) (.int 1)), false), ((0, .add (.arg 22880) (.int 1), .arg 60192), false), ((2, .arg 22880, .arg 22752), true), ((0, .arg 22496, .int 0), true), ((2, .add (.add (.arg 22240) (.mul (.int 7) (.arg 22880))) (.int 7), .arg 1306), true), ((2, .add (.add (.arg 22240) (.mul (.arg 22880) (.int 7))) (.int 7), .arg 1306), true), ((2, .add (.add (.arg 22240) (.mul (.int 7) (.arg 22880))) (.int 7), .arg 22112), true), ((2, .add (.add (.arg 22240) (.mul (.arg 22880) (.int 7))) (.int 7), .arg 22112), true), ((0, .add (.arg 22240) (.mul (.int 7) (.arg 22880)), .mul (.sub (.add (.arg 3520) (.add (.arg 22880) (.int 1))) (.int 1)) (.int 7)), true), ((0, .add (.arg 22240) (.mul (.arg 22880) (.int 7)), .mul (.sub (.add (.arg 3520) (.add (.arg 22880) (.int 1))) (.int 1)) (.int 7)), true), ((0, .mul (.sub (.add (.arg 3520) (.add (.arg 22880) (.int 1))) (.int 1)) (.int 7), .add (.arg 22240) (.mul (.int 7) (.arg 22880))), true), ((0, .mul (.sub (.add (.arg 3520) (.add (.arg 22880) (.int 1))) (.int 1)) (.int 7), .add (.arg 22240) (.mul (.arg 22880) (.int 7))), true), ((2, .mul (.sub (.add (.arg 3520) (.add (.arg 22880) (.int 1))) (.int 1)) (.int 7), .int 0), false), ((2, .int 160, .mul (.sub (.add (.arg 3520) (.add (.arg 22880) (.int 1))) (.int 1)) (.int 7)), false), ((2, .arg 22880, .int 0), false), ((2, .int 126, .arg 22880), false), ((0, .arg 1306, .arg 22112), true), ((2, .arg 1306, .int 0), false), ((2, .int 144, .arg 1306), false), ((103, .add (.elem (.arg 1348) (.int 0)) (.elem (.arg 2084) (.int 0)), .arg 1306), true), ((100, .elem (.arg 2944) (.int 0), .arg 1318), true), ((104, .add (.arg 6625) (.add (.arg 7041) (.elem (.arg 2944) (.int 0))), .arg 1318), true), ((2, .arg 2816, .int 1), false), ((2, .int 7, .arg 2816), false), ((0, .arg 22624, .int 1), true)], [([((0, .arg 2816, .int 4), true)], (0, .arg 3232, .arg 1340), true), ([((0, .arg 2816, .int 4), false)], (0, .arg 1340, .int 0), true), ([((0, .arg 2816, .int 4), true)], (0, .arg 64000, .int 4), true)])
noncomputable def w_gkK0 : List (sCut × List (Nat × sT)) := [(q_gk, [(22880, .add (.arg 22880) (.int 1)), (22496, .int 0), (60192, .arg 60192), (3584, .arg 3584)])]
theorem k_gkK0 : cbody kR [(zVP, c_say0), (zVP, c_sevd)] (cpl1 zVP c_gbk (w_gkK0.map (fun p => p.1))) (cpl2 zVP c_gbk (w_gkK0.map (fun p => p.1))) (cleafS kR zVP c_gbk w_gkK0) 300 true true q_gkK0.2.2.1 q_gkK0.2.2.2 (cst zVP c_gbk.2.2.1.1 q_gkK0.1) (cst zVP c_gbk.2.2.1.2 q_gkK0.2.1) = true := by decide +kernel
noncomputable def q_gkx1a : sCut := ((fr 3 173 15 [(0, tr 58), (1, .arg 60192), (2, .add (.arg 22880) (.int 1))] [], [fBot], 9), (fr 0 338 15 [(0, tr 219), (1, .arg 1308)] [], [fBot], 9), [((2, .arg 22880, .arg 22752), true), ((0, .arg 22496, .int 1), true), ((2, .mul (.add (.arg 3520) (.arg 3584)) (.int 7), .arg 1306), false), ((0, .arg 1306, .int 0), false), ((2, .mul (.add (.arg 3520) (.arg 3584)) (.int 7), .add (.arg 1306) (.int 7)), true), ((2, .arg 3584, .add (.arg 22880) (.int 1)), true), ((0, .arg 3584, .arg 22880), true), ((2, .arg 3584, .int 1), false), ((2, .int 16, .arg 3584), false), ((0, .arg 1306, .arg 22112), true), ((2, .arg 1306, .int 0), false), ((2, .int 144, .arg 1306), false), ((103, .add (.elem (.arg 1348) (.int 0)) (.elem (.arg 2084) (.int 0)), .arg 1306), true), ((100, .elem (.arg 2944) (.int 0), .arg 1318), true), ((104, .add (.arg 6625) (.add (.arg 7041) (.elem (.arg 2944) (.int 0))), .arg 1318), true), ((2, .arg 2816, .int 1), false), ((2, .int 7, .arg 2816), false), ((0, .arg 22624, .int 1), true)], [([((0, .arg 2816, .int 4), true)], (0, .arg 3232, .arg 1340), true), ([((0, .arg 2816, .int 4), false)], (0, .arg 1340, .int 0), true), ([((0, .arg 2816, .int 4), true)], (0, .arg 64000, .int 4), true)])
theorem k_gkx1a : cbody kR [] (cpl1 zVP c_gbk []) (cpl2 zVP c_gbk []) (cleaf kR zVP c_gbk []) 60 true true q_gkx1a.2.2.1 q_gkx1a.2.2.2 (cst zVP c_gbk.2.2.1.1 q_gkx1a.1) (cst zVP c_gbk.2.2.1.2 q_gkx1a.2.1) = true := by decide +kernel
theorem t_gkx1a {X : pX} {ρ0 : sR} (hv : vok X ρ0) : CUTOK X kR zVP c_gbk 9 ρ0 q_gkx1a := CUT_run kR_x kR_0 (Cs := []) (fun C hC => by cases hC) c_gbk_f (Q := []) hv (fun q hq => by cases hq) 60 (b1 := true) (b2 := true) k_gkx1a
noncomputable def q_gkx1b : sCut := ((fr 3 173 15 [(0, tr 58), (1, .arg 60192), (2, .add (.arg 22880) (.int 1))] [], [fBot], 9), (fr 0 338 15 [(0, tr 219), (1, .arg 1308)] [], [fBot], 9), [((2, .arg 22880, .arg 22752), false), ((0, .arg 22496, .int 1), true), ((2, .mul (.add (.arg 3520) (.arg 3584)) (.int 7), .arg 1306), false), ((0, .arg 1306, .int 0), false), ((2, .mul (.add (.arg 3520) (.arg 3584)) (.int 7), .add (.arg 1306) (.int 7)), true), ((2, .arg 3584, .add (.arg 22880) (.int 1)), true), ((0, .arg 3584, .arg 22880), true), ((2, .arg 3584, .int 1), false), ((2, .int 16, .arg 3584), false), ((0, .arg 1306, .arg 22112), true), ((2, .arg 1306, .int 0), false), ((2, .int 144, .arg 1306), false), ((103, .add (.elem (.arg 1348) (.int 0)) (.elem (.arg 2084) (.int 0)), .arg 1306), true), ((100, .elem (.arg 2944) (.int 0), .arg 1318), true), ((104, .add (.arg 6625) (.add (.arg 7041) (.elem (.arg 2944) (.int 0))), .arg 1318), true), ((2, .arg 2816, .int 1), false), ((2, .int 7, .arg 2816), false), ((0, .arg 22624, .int 1), true)], [([((0, .arg 2816, .int 4), true)], (0, .arg 3232, .arg 1340), true), ([((0, .arg 2816, .int 4), false)], (0, .arg 1340, .int 0), true), ([((0, .arg 2816, .int 4), true)], (0, .arg 64000, .int 4), true)])
theorem k_gkx1b : cbody kR [] (cpl1 zVP c_gbk []) (cpl2 zVP c_gbk []) (cleaf kR zVP c_gbk []) 60 true true q_gkx1b.2.2.1 q_gkx1b.2.2.2 (cst zVP c_gbk.2.2.1.1 q_gkx1b.1) (cst zVP c_gbk.2.2.1.2 q_gkx1b.2.1) = true := by decide +kernel
theorem t_gkx1b {X : pX} {ρ0 : sR} (hv : vok X ρ0) : CUTOK X kR zVP c_gbk 9 ρ0 q_gkx1b := CUT_run kR_x kR_0 (Cs := []) (fun C hC => by cases hC) c_gbk_f (Q := []) hv (fun q hq => by cases hq) 60 (b1 := true) (b2 := true) k_gkx1b
noncomputable def q_gkx2a : sCut := ((fr 3 173 15 [(0, tr 58), (1, .arg 60192), (2, .add (.arg 22880) (.int 1))] [], [fBot], 9), (fr 0 338 15 [(0, tr 219), (1, .arg 1308)] [], [fBot], 9), [((2, .arg 22880, .arg 22752), true), ((0, .arg 22496, .int 1), true), ((2, .mul (.add (.arg 3520) (.arg 3584)) (.int 7), .arg 1306), false), ((0, .arg 1306, .int 0), true), ((2, .mul (.add (.arg 3520) (.arg 3584)) (.int 7), .int 8), true), ((2, .arg 3584, .add (.arg 22880) (.int 1)), true), ((0, .arg 3584, .arg 22880), true), ((2, .arg 3584, .int 1), false), ((2, .int 16, .arg 3584), false), ((0, .arg 1306, .arg 22112), true), ((2, .arg 1306, .int 0), false), ((2, .int 144, .arg 1306), false), ((103, .add (.elem (.arg 1348) (.int 0)) (.elem (.arg 2084) (.int 0)), .arg 1306), true), ((100, .elem (.arg 2944) (.int 0), .arg 1318), true), ((104, .add (.arg 6625) (.add (.arg 7041) (.elem (.arg 2944) (.int 0))), .arg 1318), true), ((2, .arg 2816, .int 1), false), ((2, .int 7, .arg 2816), false), ((0, .arg 22624, .int 1), true)], [([((0, .arg 2816, .int 4), true)], (0, .arg 3232, .arg 1340), true), ([((0, .arg 2816, .int 4), false)], (0, .arg 1340, .int 0), true), ([((0, .arg 2816, .int 4), true)], (0, .arg 64000, .int 4), true)])
theorem k_gkx2a : cbody kR [] (cpl1 zVP c_gbk []) (cpl2 zVP c_gbk []) (cleaf kR zVP c_gbk []) 60 true true q_gkx2a.2.2.1 q_gkx2a.2.2.2 (cst zVP c_gbk.2.2.1.1 q_gkx2a.1) (cst zVP c_gbk.2.2.1.2 q_gkx2a.2.1) = true := by decide +kernel
theorem t_gkx2a {X : pX} {ρ0 : sR} (hv : vok X ρ0) : CUTOK X kR zVP c_gbk 9 ρ0 q_gkx2a := CUT_run kR_x kR_0 (Cs := []) (fun C hC => by cases hC) c_gbk_f (Q := []) hv (fun q hq => by cases hq) 60 (b1 := true) (b2 := true) k_gkx2a
noncomputable def q_gkx2b : sCut := ((fr 3 173 15 [(0, tr 58), (1, .arg 60192), (2, .add (.arg 22880) (.int 1))] [], [fBot], 9), (fr 0 338 15 [(0, tr 219), (1, .arg 1308)] [], [fBot], 9), [((2, .arg 22880, .arg 22752), false), ((0, .arg 22496, .int 1), true), ((2, .mul (.add (.arg 3520) (.arg 3584)) (.int 7), .arg 1306), false), ((0, .arg 1306, .int 0), true), ((2, .mul (.add (.arg 3520) (.arg 3584)) (.int 7), .int 8), true), ((2, .arg 3584, .add (.arg 22880) (.int 1)), true), ((0, .arg 3584, .arg 22880), true), ((2, .arg 3584, .int 1), false), ((2, .int 16, .arg 3584), false), ((0, .arg 1306, .arg 22112), true), ((2, .arg 1306, .int 0), false), ((2, .int 144, .arg 1306), false), ((103, .add (.elem (.arg 1348) (.int 0)) (.elem (.arg 2084) (.int 0)), .arg 1306), true), ((100, .elem (.arg 2944) (.int 0), .arg 1318), true), ((104, .add (.arg 6625) (.add (.arg 7041) (.elem (.arg 2944) (.int 0))), .arg 1318), true), ((2, .arg 2816, .int 1), false), ((2, .int 7, .arg 2816), false), ((0, .arg 22624, .int 1), true)], [([((0, .arg 2816, .int 4), true)], (0, .arg 3232, .arg 1340), true), ([((0, .arg 2816, .int 4), false)], (0, .arg 1340, .int 0), true), ([((0, .arg 2816, .int 4), true)], (0, .arg 64000, .int 4), true)])
theorem k_gkx2b : cbody kR [] (cpl1 zVP c_gbk []) (cpl2 zVP c_gbk []) (cleaf kR zVP c_gbk []) 60 true true q_gkx2b.2.2.1 q_gkx2b.2.2.2 (cst zVP c_gbk.2.2.1.1 q_gkx2b.1) (cst zVP c_gbk.2.2.1.2 q_gkx2b.2.1) = true := by decide +kernel
theorem t_gkx2b {X : pX} {ρ0 : sR} (hv : vok X ρ0) : CUTOK X kR zVP c_gbk 9 ρ0 q_gkx2b := CUT_run kR_x kR_0 (Cs := []) (fun C hC => by cases hC) c_gbk_f (Q := []) hv (fun q hq => by cases hq) 60 (b1 := true) (b2 := true) k_gkx2b
noncomputable def q_gkx3b : sCut := ((fr 3 173 15 [(0, tr 58), (1, .arg 60192), (2, .add (.arg 22880) (.int 1))] [], [fBot], 9), (fr 0 338 15 [(0, tr 219), (1, .arg 1308)] [], [fBot], 9), [((2, .arg 22880, .arg 22752), false), ((0, .arg 22496, .int 0), true), ((2, .mul (.add (.arg 3520) (.arg 3584)) (.int 7), .arg 1306), true), ((0, .arg 1306, .int 0), false), ((2, .mul (.add (.arg 3520) (.arg 3584)) (.int 7), .add (.arg 1306) (.int 7)), true), ((2, .arg 3584, .add (.arg 22880) (.int 1)), true), ((0, .arg 3584, .arg 22880), true), ((2, .arg 3584, .int 1), false), ((2, .int 16, .arg 3584), false), ((0, .arg 1306, .arg 22112), true), ((2, .arg 1306, .int 0), false), ((2, .int 144, .arg 1306), false), ((103, .add (.elem (.arg 1348) (.int 0)) (.elem (.arg 2084) (.int 0)), .arg 1306), true), ((100, .elem (.arg 2944) (.int 0), .arg 1318), true), ((104, .add (.arg 6625) (.add (.arg 7041) (.elem (.arg 2944) (.int 0))), .arg 1318), true), ((2, .arg 2816, .int 1), false), ((2, .int 7, .arg 2816), false), ((0, .arg 22624, .int 1), true)], [([((0, .arg 2816, .int 4), true)], (0, .arg 3232, .arg 1340), true), ([((0, .arg 2816, .int 4), false)], (0, .arg 1340, .int 0), true), ([((0, .arg 2816, .int 4), true)], (0, .arg 64000, .int 4), true)])
theorem k_gkx3b : cbody kR [] (cpl1 zVP c_gbk []) (cpl2 zVP c_gbk []) (cleaf kR zVP c_gbk []) 60 true true q_gkx3b.2.2.1 q_gkx3b.2.2.2 (cst zVP c_gbk.2.2.1.1 q_gkx3b.1) (cst zVP c_gbk.2.2.1.2 q_gkx3b.2.1) = true := by decide +kernel
theorem t_gkx3b {X : pX} {ρ0 : sR} (hv : vok X ρ0) : CUTOK X kR zVP c_gbk 9 ρ0 q_gkx3b := CUT_run kR_x kR_0 (Cs := []) (fun C hC => by cases hC) c_gbk_f (Q := []) hv (fun q hq => by cases hq) 60 (b1 := true) (b2 := true) k_gkx3b
noncomputable def q_gk000 : sCut := ((fr 0 173 15 [(0, tr 58), (1, .arg 60192), (2, .add (.arg 22880) (.int 1))] [], [fBot], 9), (fr 0 338 15 [(0, tr 219), (1, .arg 1308)] [], [fBot], 9), [((2, .int 0, .arg 1306), false), ((0, .arg 60192, .sub (.int 1) (.arg 3520)), true), ((0, .arg 3584, .arg 3552), true), ((2, .arg 60192, .arg 3552), false), ((0, .arg 22880, .int 0), true), ((0, .arg 22496, .int 0), true), ((0, .arg 22752, .arg 3552), true), ((2, .arg 3552, .int 1), false), ((2, .int 16, .arg 3552), false), ((0, .arg 22240, .mul (.arg 3520) (.int 7)), true), ((2, .arg 3520, .int 0), false), ((2, .int 22, .arg 3520), false), ((0, .arg 1306, .arg 22112), true), ((2, .arg 1306, .int 0), false), ((2, .int 144, .arg 1306), false), ((103, .add (.elem (.arg 1348) (.int 0)) (.elem (.arg 2084) (.int 0)), .arg 1306), true), ((100, .elem (.arg 2944) (.int 0), .arg 1318), true), ((104, .add (.arg 6625) (.add (.arg 7041) (.elem (.arg 2944) (.int 0))), .arg 1318), true), ((2, .arg 2816, .int 1), false), ((2, .int 7, .arg 2816), false), ((0, .arg 22624, .int 1), true)], [([((0, .arg 1306, .int 0), false)], (2, .mul (.arg 3520) (.int 7), .arg 1306), true), ([((0, .arg 1306, .int 0), true)], (0, .arg 3520, .int 0), true), ([((0, .arg 2816, .int 4), true)], (0, .arg 3232, .arg 1340), true), ([((0, .arg 2816, .int 4), false)], (0, .arg 1340, .int 0), true), ([((0, .arg 2816, .int 4), true)], (0, .arg 64000, .int 4), true)])
noncomputable def q_gk001 : sCut := ((fr 0 173 15 [(0, tr 58), (1, .arg 60192), (2, .add (.arg 22880) (.int 1))] [], [fBot], 9), (fr 0 338 15 [(0, tr 219), (1, .arg 1308)] [], [fBot], 9), [((2, .int 0, .arg 1306), false), ((0, .arg 60192, .sub (.int 1) (.arg 3520)), true), ((0, .arg 3584, .arg 60192), true), ((2, .arg 60192, .arg 3552), true), ((0, .arg 22880, .int 0), true), ((0, .arg 22496, .int 0), true), ((0, .arg 22752, .arg 3552), true), ((2, .arg 3552, .int 1), false), ((2, .int 16, .arg 3552), false), ((0, .arg 22240, .mul (.arg 3520) (.int 7)), true), ((2, .arg 3520, .int 0), false), ((2, .int 22, .arg 3520), false), ((0, .arg 1306, .arg 22112), true), ((2, .arg 1306, .int 0), false), ((2, .int 144, .arg 1306), false), ((103, .add (.elem (.arg 1348) (.int 0)) (.elem (.arg 2084) (.int 0)), .arg 1306), true), ((100, .elem (.arg 2944) (.int 0), .arg 1318), true), ((104, .add (.arg 6625) (.add (.arg 7041) (.elem (.arg 2944) (.int 0))), .arg 1318), true), ((2, .arg 2816, .int 1), false), ((2, .int 7, .arg 2816), false), ((0, .arg 22624, .int 1), true)], [([((0, .arg 1306, .int 0), false)], (2, .mul (.arg 3520) (.int 7), .arg 1306), true), ([((0, .arg 1306, .int 0), true)], (0, .arg 3520, .int 0), true), ([((0, .arg 2816, .int 4), true)], (0, .arg 3232, .arg 1340), true), ([((0, .arg 2816, .int 4), false)], (0, .arg 1340, .int 0), true), ([((0, .arg 2816, .int 4), true)], (0, .arg 64000, .int 4), true)])
noncomputable def q_gk010 : sCut := ((fr 0 173 15 [(0, tr 58), (1, .arg 60192), (2, .add (.arg 22880) (.int 1))] [], [fBot], 9), (fr 0 338 15 [(0, tr 219), (1, .arg 1308)] [], [fBot], 9), [((2, .int 0, .arg 1306), true), ((0, .arg 60192, .sub (.div (.add (.arg 1306) (.int 6)) (.int 7)) (.arg 3520)), true), ((0, .arg 3584, .arg 3552), true), ((2, .arg 60192, .arg 3552), false), ((0, .arg 22880, .int 0), true), ((0, .arg 22496, .int 0), true), ((0, .arg 22752, .arg 3552), true), ((2, .arg 3552, .int 1), false), ((2, .int 16, .arg 3552), false), ((0, .arg 22240, .mul (.arg 3520) (.int 7)), true), ((2, .arg 3520, .int 0), false), ((2, .int 22, .arg 3520), false), ((0, .arg 1306, .arg 22112), true), ((2, .arg 1306, .int 0), false), ((2, .int 144, .arg 1306), false), ((103, .add (.elem (.arg 1348) (.int 0)) (.elem (.arg 2084) (.int 0)), .arg 1306), true), ((100, .elem (.arg 2944) (.int 0), .arg 1318), true), ((104, .add (.arg 6625) (.add (.arg 7041) (.elem (.arg 2944) (.int 0))), .arg 1318), true), ((2, .arg 2816, .int 1), false), ((2, .int 7, .arg 2816), false), ((0, .arg 22624, .int 1), true)], [([((0, .arg 1306, .int 0), false)], (2, .mul (.arg 3520) (.int 7), .arg 1306), true), ([((0, .arg 1306, .int 0), true)], (0, .arg 3520, .int 0), true), ([((0, .arg 2816, .int 4), true)], (0, .arg 3232, .arg 1340), true), ([((0, .arg 2816, .int 4), false)], (0, .arg 1340, .int 0), true), ([((0, .arg 2816, .int 4), true)], (0, .arg 64000, .int 4), true)])
noncomputable def q_gk011 : sCut := ((fr 0 173 15 [(0, tr 58), (1, .arg 60192), (2, .add (.arg 22880) (.int 1))] [], [fBot], 9), (fr 0 338 15 [(0, tr 219), (1, .arg 1308)] [], [fBot], 9), [((2, .int 0, .arg 1306), true), ((0, .arg 60192, .sub (.div (.add (.arg 1306) (.int 6)) (.int 7)) (.arg 3520)), true), ((0, .arg 3584, .arg 60192), true), ((2, .arg 60192, .arg 3552), true), ((0, .arg 22880, .int 0), true), ((0, .arg 22496, .int 0), true), ((0, .arg 22752, .arg 3552), true), ((2, .arg 3552, .int 1), false), ((2, .int 16, .arg 3552), false), ((0, .arg 22240, .mul (.arg 3520) (.int 7)), true), ((2, .arg 3520, .int 0), false), ((2, .int 22, .arg 3520), false), ((0, .arg 1306, .arg 22112), true), ((2, .arg 1306, .int 0), false), ((2, .int 144, .arg 1306), false), ((103, .add (.elem (.arg 1348) (.int 0)) (.elem (.arg 2084) (.int 0)), .arg 1306), true), ((100, .elem (.arg 2944) (.int 0), .arg 1318), true), ((104, .add (.arg 6625) (.add (.arg 7041) (.elem (.arg 2944) (.int 0))), .arg 1318), true), ((2, .arg 2816, .int 1), false), ((2, .int 7, .arg 2816), false), ((0, .arg 22624, .int 1), true)], [([((0, .arg 1306, .int 0), false)], (2, .mul (.arg 3520) (.int 7), .arg 1306), true), ([((0, .arg 1306, .int 0), true)], (0, .arg 3520, .int 0), true), ([((0, .arg 2816, .int 4), true)], (0, .arg 3232, .arg 1340), true), ([((0, .arg 2816, .int 4), false)], (0, .arg 1340, .int 0), true), ([((0, .arg 2816, .int 4), true)], (0, .arg 64000, .int 4), true)])
theorem e_gbk : frun kR [] (cpl1 zVP c_gbk [q_gk000, q_gk001, q_gk010, q_gk011]) (cpl2 zVP c_gbk [q_gk000, q_gk001, q_gk010, q_gk011]) (cleaf kR zVP c_gbk [q_gk000, q_gk001, q_gk010, q_gk011]) 200 65536 (isatP (c_gbk.2.2.2.1) c_gbk.2.2.2.2.2.2.2.1) c_gbk.2.2.2.2.2.2.2.1 (sin0 mt_all c_gbk.1.1 9 c_gbk.2.1.1 (foot zVP c_gbk.2.2.1.1)) (sin0 mt_all c_gbk.1.2.1 9 c_gbk.2.1.2 (foot zVP c_gbk.2.2.1.2)) = true := by decide +kernel
theorem gk_sz {X : pX} {ρ : sR} (h : fok X ρ q_gk.2.2.1) : 0 ≤ (ρ.1 1306).toInt ∧ (ρ.1 1306).toInt ≤ 160 := by
  have h1 : 0 ≤ (ρ.1 1306).toInt ∧ (ρ.1 1306).toInt ≤ 1024 := h.1.1 1306 (0, 1024) rfl
  have h2 : ¬ (144 : Int32) < ρ.1 1306 := of_decide_eq_false (h.2 _ (List.mem_cons_of_mem _ (List.mem_cons_of_mem _ (List.mem_cons_self))))
  have z : (144 : Int32).toInt = 144 := rfl
  rw [Int32.lt_iff_toInt_lt, z] at h2
  omega
theorem gk_x {X : pX} {ρ0 : sR} (hv : vok X ρ0) (ρ : sR) : kok X ρ kR → fok X ρ q_gk.2.2.1 → iok X ρ q_gk.2.2.2 → agrM 65536 c_gbk.2.2.2.2.1.1 c_gbk.2.2.2.2.1.2 ρ ρ0 → 0 ≤ (ρ.1 3520).toInt → ρ.1 22240 = ρ.1 3520 * 7 → (ρ.1 60192).toInt = pcsI (ρ.1 1306).toInt - (ρ.1 3520).toInt → 1 ≤ (ρ.1 60192).toInt → 1 ≤ (ρ.1 22752).toInt → (ρ.1 22752).toInt ≤ 16 → ((ρ.1 3584).toInt = (ρ.1 22752).toInt ∧ (ρ.1 22752).toInt ≤ (ρ.1 60192).toInt ∨ (ρ.1 3584).toInt = (ρ.1 60192).toInt ∧ (ρ.1 60192).toInt < (ρ.1 22752).toInt) → 0 ≤ (ρ.1 22880).toInt → (ρ.1 22880).toInt ≤ (ρ.1 3584).toInt → (ρ.1 22880 = ρ.1 60192 ∧ ρ.1 22496 = 1 ∨ ¬ ρ.1 22880 = ρ.1 60192 ∧ ρ.1 22496 = 0) → (ρ.1 3584).toInt ≤ (ρ.1 22880).toInt → AT X zVP c_gbk 9 ρ0 ρ q_gk := by
    intro k1 k2 k3 k4 a1 a2 a3 a4 a5 a6 a7 a8 a9 a10 hx
    have hz : 0 ≤ (ρ.1 1306).toInt ∧ (ρ.1 1306).toInt ≤ 160 := gk_sz k2
    have hp := pcs_b hz.1 hz.2
    have z0 : (0 : Int32).toInt = 0 := rfl
    have z1 : (1 : Int32).toInt = 1 := rfl
    have z6 : (6 : Int32).toInt = 6 := rfl
    have z7 : (7 : Int32).toInt = 7 := rfl
    have z8 : (8 : Int32).toInt = 8 := rfl
    have zq : (16 : Int32).toInt = 16 := rfl
    have zr : (126 : Int32).toInt = 126 := rfl
    have zs : (160 : Int32).toInt = 160 := rfl
    have i1 : (ρ.1 22880 + 1).toInt = (ρ.1 22880).toInt + 1 := i_of (i_ad (i_s _) rfl) (by omega) (by omega)
    have hse : ρ.1 3584 = ρ.1 22880 := Int32.toInt_inj.mp (by omega)
    have it : ((ρ.1 3520 + ρ.1 3584) * 7).toInt = ((ρ.1 3520).toInt + (ρ.1 3584).toInt) * 7 := i_of (i_ml (i_ad (i_s _) (i_s _)) rfl) (by omega) (by omega)
    have is : (ρ.1 1306 + 7).toInt = (ρ.1 1306).toInt + 7 := i_of (i_ad (i_s _) rfl) (by omega) (by omega)
    have f1 : sc X ρ (2, .arg 3584, .add (.arg 22880) (.int 1)) = true := decide_eq_true (lt_i (show (ρ.1 3584).toInt < (ρ.1 22880 + 1).toInt by omega))
    have f3 : sc X ρ (0, .arg 3584, .arg 22880) = true := decide_eq_true hse
    have f4 : sc X ρ (2, .arg 3584, .int 1) = false := decide_eq_false (nlt_i (show (1 : Int32).toInt ≤ (ρ.1 3584).toInt by rcases a7 with q | q <;> omega))
    have f5 : sc X ρ (2, .int 16, .arg 3584) = false := decide_eq_false (nlt_i (show (ρ.1 3584).toInt ≤ (16 : Int32).toInt by rcases a7 with q | q <;> omega))
    rcases a10 with ⟨g1, g2⟩ | ⟨g1, g2⟩
    · have hl : (ρ.1 3584).toInt = (ρ.1 60192).toInt := by rw [hse, g1]
      have e1 : sc X ρ (0, .arg 22496, .int 1) = true := decide_eq_true g2
      have e2 : sc X ρ (2, .mul (.add (.arg 3520) (.arg 3584)) (.int 7), .arg 1306) = false := decide_eq_false (nlt_i (show (ρ.1 1306).toInt ≤ ((ρ.1 3520 + ρ.1 3584) * 7).toInt by omega))
      by_cases h0 : (ρ.1 1306).toInt = 0
      · have hq := hp.2.2.2.1 h0
        have e3 : sc X ρ (0, .arg 1306, .int 0) = true := decide_eq_true (Int32.toInt_inj.mp (show (ρ.1 1306).toInt = (0 : Int32).toInt by omega))
        have e4 : sc X ρ (2, .mul (.add (.arg 3520) (.arg 3584)) (.int 7), .int 8) = true := decide_eq_true (lt_i (show ((ρ.1 3520 + ρ.1 3584) * 7).toInt < (8 : Int32).toInt by omega))
        by_cases hj : ρ.1 22880 < ρ.1 22752
        · exact AT_of (q := q_gkx2a) rfl rfl (t_gkx2a hv ρ k1 ((fkc (decide_eq_true hj) (fkc (e1) (fkc (e2) (fkc (e3) (fkc (e4) (fkc (f1) (fkc (f3) (fkc (f4) (fkc (f5) k2)))))))))) k3 k4)
        · exact AT_of (q := q_gkx2b) rfl rfl (t_gkx2b hv ρ k1 ((fkc (decide_eq_false hj) (fkc (e1) (fkc (e2) (fkc (e3) (fkc (e4) (fkc (f1) (fkc (f3) (fkc (f4) (fkc (f5) k2)))))))))) k3 k4)
      · have hq := hp.2.2.2.2 h0
        have e3 : sc X ρ (0, .arg 1306, .int 0) = false := decide_eq_false (fun q => h0 (by have q' := congrArg Int32.toInt (show ρ.1 1306 = 0 from q); omega))
        have e4 : sc X ρ (2, .mul (.add (.arg 3520) (.arg 3584)) (.int 7), .add (.arg 1306) (.int 7)) = true := decide_eq_true (lt_i (show ((ρ.1 3520 + ρ.1 3584) * 7).toInt < (ρ.1 1306 + 7).toInt by omega))
        by_cases hj : ρ.1 22880 < ρ.1 22752
        · exact AT_of (q := q_gkx1a) rfl rfl (t_gkx1a hv ρ k1 ((fkc (decide_eq_true hj) (fkc (e1) (fkc (e2) (fkc (e3) (fkc (e4) (fkc (f1) (fkc (f3) (fkc (f4) (fkc (f5) k2)))))))))) k3 k4)
        · exact AT_of (q := q_gkx1b) rfl rfl (t_gkx1b hv ρ k1 ((fkc (decide_eq_false hj) (fkc (e1) (fkc (e2) (fkc (e3) (fkc (e4) (fkc (f1) (fkc (f3) (fkc (f4) (fkc (f5) k2)))))))))) k3 k4)
    · have hl : ¬ (ρ.1 3584).toInt = (ρ.1 60192).toInt := fun q => g1 (Int32.toInt_inj.mp (by rw [← hse]; exact q))
      have e1 : sc X ρ (0, .arg 22496, .int 0) = true := decide_eq_true g2
      have h0 : ¬ (ρ.1 1306).toInt = 0 := fun q => by have := hp.2.2.2.1 q; rcases a7 with r | r <;> omega
      have hq := hp.2.2.2.2 h0
      have e2 : sc X ρ (2, .mul (.add (.arg 3520) (.arg 3584)) (.int 7), .arg 1306) = true := decide_eq_true (lt_i (show ((ρ.1 3520 + ρ.1 3584) * 7).toInt < (ρ.1 1306).toInt by rcases a7 with r | r <;> omega))
      have e3 : sc X ρ (0, .arg 1306, .int 0) = false := decide_eq_false (fun q => h0 (by have q' := congrArg Int32.toInt (show ρ.1 1306 = 0 from q); omega))
      have e4 : sc X ρ (2, .mul (.add (.arg 3520) (.arg 3584)) (.int 7), .add (.arg 1306) (.int 7)) = true := decide_eq_true (lt_i (show ((ρ.1 3520 + ρ.1 3584) * 7).toInt < (ρ.1 1306 + 7).toInt by rcases a7 with r | r <;> omega))
      have hj : ¬ ρ.1 22880 < ρ.1 22752 := nlt_i (by rcases a7 with r | r <;> omega)
      exact AT_of (q := q_gkx3b) rfl rfl (t_gkx3b hv ρ k1 ((fkc (decide_eq_false hj) (fkc (e1) (fkc (e2) (fkc (e3) (fkc (e4) (fkc (f1) (fkc (f3) (fkc (f4) (fkc (f5) k2)))))))))) k3 k4)
theorem gk_at {X : pX} {ρ0 : sR} (hv : vok X ρ0) : ∀ (n : Nat) (ρ : sR), kok X ρ kR → fok X ρ q_gk.2.2.1 → iok X ρ q_gk.2.2.2 → agrM 65536 c_gbk.2.2.2.2.1.1 c_gbk.2.2.2.2.1.2 ρ ρ0 → 0 ≤ (ρ.1 3520).toInt → ρ.1 22240 = ρ.1 3520 * 7 → (ρ.1 60192).toInt = pcsI (ρ.1 1306).toInt - (ρ.1 3520).toInt → 1 ≤ (ρ.1 60192).toInt → 1 ≤ (ρ.1 22752).toInt → (ρ.1 22752).toInt ≤ 16 → ((ρ.1 3584).toInt = (ρ.1 22752).toInt ∧ (ρ.1 22752).toInt ≤ (ρ.1 60192).toInt ∨ (ρ.1 3584).toInt = (ρ.1 60192).toInt ∧ (ρ.1 60192).toInt < (ρ.1 22752).toInt) → 0 ≤ (ρ.1 22880).toInt → (ρ.1 22880).toInt ≤ (ρ.1 3584).toInt → (ρ.1 22880 = ρ.1 60192 ∧ ρ.1 22496 = 1 ∨ ¬ ρ.1 22880 = ρ.1 60192 ∧ ρ.1 22496 = 0) → (ρ.1 3584).toInt - (ρ.1 22880).toInt ≤ n → AT X zVP c_gbk 9 ρ0 ρ q_gk := by
  intro n
  induction n with
  | zero =>
    intro ρ k1 k2 k3 k4 a1 a2 a3 a4 a5 a6 a7 a8 a9 a10 hn
    exact gk_x hv ρ k1 k2 k3 k4 a1 a2 a3 a4 a5 a6 a7 a8 a9 a10 (by omega)
  | succ n ih =>
    intro ρ k1 k2 k3 k4 a1 a2 a3 a4 a5 a6 a7 a8 a9 a10 hn
    by_cases hx : (ρ.1 3584).toInt ≤ (ρ.1 22880).toInt
    · exact gk_x hv ρ k1 k2 k3 k4 a1 a2 a3 a4 a5 a6 a7 a8 a9 a10 hx
    have hz : 0 ≤ (ρ.1 1306).toInt ∧ (ρ.1 1306).toInt ≤ 160 := gk_sz k2
    have hp := pcs_b hz.1 hz.2
    have z0 : (0 : Int32).toInt = 0 := rfl
    have z1 : (1 : Int32).toInt = 1 := rfl
    have z6 : (6 : Int32).toInt = 6 := rfl
    have z7 : (7 : Int32).toInt = 7 := rfl
    have z8 : (8 : Int32).toInt = 8 := rfl
    have zq : (16 : Int32).toInt = 16 := rfl
    have zr : (126 : Int32).toInt = 126 := rfl
    have zs : (160 : Int32).toInt = 160 := rfl
    have i1 : (ρ.1 22880 + 1).toInt = (ρ.1 22880).toInt + 1 := i_of (i_ad (i_s _) rfl) (by omega) (by omega)
    have hlf : ¬ ρ.1 22880 = ρ.1 60192 := fun q => by have q' := congrArg Int32.toInt q; rcases a7 with r | r <;> omega
    have hjl : ρ.1 22496 = 0 := by
      rcases a10 with ⟨g1, -⟩ | ⟨-, g2⟩
      · exact absurd g1 hlf
      · exact g2
    have ic : ((ρ.1 3520 + (ρ.1 22880 + 1) - 1) * 7).toInt = ((ρ.1 3520).toInt + (ρ.1 22880).toInt) * 7 := by
      refine i_of (n := ((ρ.1 3520).toInt + (ρ.1 22880).toInt) * 7) ?_ (by omega) (by rcases a7 with r | r <;> omega)
      rw [i_ml (i_sb (i_ad (i_s (ρ.1 3520)) (i_ad (i_s (ρ.1 22880)) i_1)) i_1) i_7]
      congr 1
      omega
    have hm1 : ρ.1 22240 + 7 * ρ.1 22880 = (ρ.1 3520 + (ρ.1 22880 + 1) - 1) * 7 := by rw [a2]; grind
    have hm2 : ρ.1 22240 + ρ.1 22880 * 7 = (ρ.1 3520 + (ρ.1 22880 + 1) - 1) * 7 := by rw [a2]; grind
    have hc7 : ((ρ.1 3520 + (ρ.1 22880 + 1) - 1) * 7 + 7).toInt = ((ρ.1 3520).toInt + (ρ.1 22880).toInt) * 7 + 7 := by
      rw [s_add (by rw [ic, z7]; omega) (by rw [ic, z7]; rcases a7 with r | r <;> omega), ic, z7]
    have hszE : ∀ {t : sT}, sc X ρ (2, t, .arg 1306) = sc X ρ (2, t, .arg 22112) := fun {t} => by
      have e : ρ.1 1306 = ρ.1 22112 := of_decide_eq_true (k2.2 _ List.mem_cons_self)
      show decide (_ < ρ.1 1306) = decide (_ < ρ.1 22112)
      rw [e]
    have c1 : sc X ρ (2, .arg 3584, .add (.arg 22880) (.int 1)) = false := decide_eq_false (nlt_i (show (ρ.1 22880 + 1).toInt ≤ (ρ.1 3584).toInt by omega))
    have c3 : sc X ρ (2, .arg 22880, .arg 22752) = true := decide_eq_true (lt_i (show (ρ.1 22880).toInt < (ρ.1 22752).toInt by rcases a7 with r | r <;> omega))
    have c4 : sc X ρ (0, .arg 22496, .int 0) = true := decide_eq_true hjl
    have c7 : sc X ρ (0, .add (.arg 22240) (.mul (.int 7) (.arg 22880)), .mul (.sub (.add (.arg 3520) (.add (.arg 22880) (.int 1))) (.int 1)) (.int 7)) = true := decide_eq_true hm1
    have c8 : sc X ρ (0, .add (.arg 22240) (.mul (.arg 22880) (.int 7)), .mul (.sub (.add (.arg 3520) (.add (.arg 22880) (.int 1))) (.int 1)) (.int 7)) = true := decide_eq_true hm2
    have c9 : sc X ρ (0, .mul (.sub (.add (.arg 3520) (.add (.arg 22880) (.int 1))) (.int 1)) (.int 7), .add (.arg 22240) (.mul (.int 7) (.arg 22880))) = true := decide_eq_true hm1.symm
    have c10 : sc X ρ (0, .mul (.sub (.add (.arg 3520) (.add (.arg 22880) (.int 1))) (.int 1)) (.int 7), .add (.arg 22240) (.mul (.arg 22880) (.int 7))) = true := decide_eq_true hm2.symm
    have c11 : sc X ρ (2, .mul (.sub (.add (.arg 3520) (.add (.arg 22880) (.int 1))) (.int 1)) (.int 7), .int 0) = false := decide_eq_false (nlt_i (show (0 : Int32).toInt ≤ ((ρ.1 3520 + (ρ.1 22880 + 1) - 1) * 7).toInt by omega))
    have c12 : sc X ρ (2, .int 160, .mul (.sub (.add (.arg 3520) (.add (.arg 22880) (.int 1))) (.int 1)) (.int 7)) = false := decide_eq_false (nlt_i (show ((ρ.1 3520 + (ρ.1 22880 + 1) - 1) * 7).toInt ≤ (160 : Int32).toInt by rcases a7 with r | r <;> omega))
    have c13 : sc X ρ (2, .arg 22880, .int 0) = false := decide_eq_false (nlt_i (show (0 : Int32).toInt ≤ (ρ.1 22880).toInt by omega))
    have c14 : sc X ρ (2, .int 126, .arg 22880) = false := decide_eq_false (nlt_i (show (ρ.1 22880).toInt ≤ (126 : Int32).toInt by rcases a7 with r | r <;> omega))
    by_cases hw : ρ.1 22880 + 1 = ρ.1 60192
    · have hw' : (ρ.1 22880).toInt + 1 = (ρ.1 60192).toInt := by rw [← i1, hw]
      have c2 : sc X ρ (0, .add (.arg 22880) (.int 1), .arg 60192) = true := decide_eq_true hw
      have c5 : sc X ρ (2, .add (.add (.arg 22240) (.mul (.int 7) (.arg 22880))) (.int 7), .arg 1306) = false := decide_eq_false (nlt_i (show (ρ.1 1306).toInt ≤ (ρ.1 22240 + 7 * ρ.1 22880 + 7).toInt by rw [hm1, hc7]; omega))
      have c6 : sc X ρ (2, .add (.add (.arg 22240) (.mul (.arg 22880) (.int 7))) (.int 7), .arg 1306) = false := decide_eq_false (nlt_i (show (ρ.1 1306).toInt ≤ (ρ.1 22240 + ρ.1 22880 * 7 + 7).toInt by rw [hm2, hc7]; omega))
      have c5b : sc X ρ (2, .add (.add (.arg 22240) (.mul (.int 7) (.arg 22880))) (.int 7), .arg 22112) = false := by rw [← hszE]; exact c5
      have c6b : sc X ρ (2, .add (.add (.arg 22240) (.mul (.arg 22880) (.int 7))) (.int 7), .arg 22112) = false := by rw [← hszE]; exact c6
      refine AT_of (q := q_gkL) rfl rfl (SEM_run kR_x kR_0 (Cs := [(zVP, c_say0), (zVP, c_sevd)]) (fun C hC => by
    simp only [List.mem_cons, List.not_mem_nil, or_false] at hC
    rcases hC with hC | hC
    · rw [hC]; exact s_say0
    · rw [hC]; exact s_sevd) c_gbk_f (Q := w_gkL) hv 300 (b1 := true) (b2 := true) k_gkL k1 ((fkc (c1) (fkc (c2) (fkc (c3) (fkc (c4) (fkc (c5) (fkc (c6) (fkc (c5b) (fkc (c6b) (fkc (c7) (fkc (c8) (fkc (c9) (fkc (c10) (fkc (c11) (fkc (c12) (fkc (c13) (fkc (c14) k2))))))))))))))))) k3 k4 (fun p hp ρ3 m1 m2 m3 m4 m5 => ?_))
      rw [List.mem_singleton.mp hp] at m2 m3 m5 ⊢
      have y1 : ρ3.1 22880 = ρ.1 22880 + 1 := tj1 (m5 _ (List.mem_cons_self))
      have y2 : ρ3.1 22496 = 1 := tj1 (m5 _ (List.mem_cons_of_mem _ (List.mem_cons_self)))
      have y3 : ρ3.1 60192 = ρ.1 60192 := tj1 (m5 _ (List.mem_cons_of_mem _ (List.mem_cons_of_mem _ (List.mem_cons_self))))
      have y4 : ρ3.1 3584 = ρ.1 3584 := tj1 (m5 _ (List.mem_cons_of_mem _ (List.mem_cons_of_mem _ (List.mem_cons_of_mem _ (List.mem_cons_self)))))
      have u1 : ρ3.1 3520 = ρ.1 3520 := ((m4.1 3520 (by decide) (by decide)).1).trans ((k4.1 3520 (by decide) (by decide)).1).symm
      have u2 : ρ3.1 22240 = ρ.1 22240 := ((m4.1 22240 (by decide) (by decide)).1).trans ((k4.1 22240 (by decide) (by decide)).1).symm
      have u3 : ρ3.1 1306 = ρ.1 1306 := ((m4.1 1306 (by decide) (by decide)).1).trans ((k4.1 1306 (by decide) (by decide)).1).symm
      have u4 : ρ3.1 22752 = ρ.1 22752 := ((m4.1 22752 (by decide) (by decide)).1).trans ((k4.1 22752 (by decide) (by decide)).1).symm
      exact ih ρ3 m1 m2 m3 m4 (by rw [u1]; exact a1) (by rw [u2, u1]; exact a2) (by rw [y3, u3, u1]; exact a3) (by rw [y3]; exact a4) (by rw [u4]; exact a5) (by rw [u4]; exact a6) (by rw [y4, u4, y3]; exact a7) (by rw [y1, i1]; omega) (by rw [y1, i1, y4]; omega) (.inl ⟨by rw [y1, y3]; exact hw, y2⟩) (by rw [y4, y1, i1]; rcases a7 with r | r <;> omega)
    · have hw' : ¬ (ρ.1 22880).toInt + 1 = (ρ.1 60192).toInt := fun q => hw (Int32.toInt_inj.mp (by rw [i1]; exact q))
      have h0 : ¬ (ρ.1 1306).toInt = 0 := fun q => by have := hp.2.2.2.1 q; rcases a7 with r | r <;> omega
      have hq := hp.2.2.2.2 h0
      have c2 : sc X ρ (0, .add (.arg 22880) (.int 1), .arg 60192) = false := decide_eq_false hw
      have c5 : sc X ρ (2, .add (.add (.arg 22240) (.mul (.int 7) (.arg 22880))) (.int 7), .arg 1306) = true := decide_eq_true (lt_i (show (ρ.1 22240 + 7 * ρ.1 22880 + 7).toInt < (ρ.1 1306).toInt by rw [hm1, hc7]; rcases a7 with r | r <;> omega))
      have c6 : sc X ρ (2, .add (.add (.arg 22240) (.mul (.arg 22880) (.int 7))) (.int 7), .arg 1306) = true := decide_eq_true (lt_i (show (ρ.1 22240 + ρ.1 22880 * 7 + 7).toInt < (ρ.1 1306).toInt by rw [hm2, hc7]; rcases a7 with r | r <;> omega))
      have c5b : sc X ρ (2, .add (.add (.arg 22240) (.mul (.int 7) (.arg 22880))) (.int 7), .arg 22112) = true := by rw [← hszE]; exact c5
      have c6b : sc X ρ (2, .add (.add (.arg 22240) (.mul (.arg 22880) (.int 7))) (.int 7), .arg 22112) = true := by rw [← hszE]; exact c6
      refine AT_of (q := q_gkK) rfl rfl (SEM_run kR_x kR_0 (Cs := [(zVP, c_say0), (zVP, c_sevd)]) (fun C hC => by
    simp only [List.mem_cons, List.not_mem_nil, or_false] at hC
    rcases hC with hC | hC
    · rw [hC]; exact s_say0
    · rw [hC]; exact s_sevd) c_gbk_f (Q := w_gkK) hv 300 (b1 := true) (b2 := true) k_gkK k1 ((fkc (c1) (fkc (c2) (fkc (c3) (fkc (c4) (fkc (c5) (fkc (c6) (fkc (c5b) (fkc (c6b) (fkc (c7) (fkc (c8) (fkc (c9) (fkc (c10) (fkc (c11) (fkc (c12) (fkc (c13) (fkc (c14) k2))))))))))))))))) k3 k4 (fun p hp ρ3 m1 m2 m3 m4 m5 => ?_))
      rw [List.mem_singleton.mp hp] at m2 m3 m5 ⊢
      have y1 : ρ3.1 22880 = ρ.1 22880 + 1 := tj1 (m5 _ (List.mem_cons_self))
      have y2 : ρ3.1 22496 = 0 := tj1 (m5 _ (List.mem_cons_of_mem _ (List.mem_cons_self)))
      have y3 : ρ3.1 60192 = ρ.1 60192 := tj1 (m5 _ (List.mem_cons_of_mem _ (List.mem_cons_of_mem _ (List.mem_cons_self))))
      have y4 : ρ3.1 3584 = ρ.1 3584 := tj1 (m5 _ (List.mem_cons_of_mem _ (List.mem_cons_of_mem _ (List.mem_cons_of_mem _ (List.mem_cons_self)))))
      have u1 : ρ3.1 3520 = ρ.1 3520 := ((m4.1 3520 (by decide) (by decide)).1).trans ((k4.1 3520 (by decide) (by decide)).1).symm
      have u2 : ρ3.1 22240 = ρ.1 22240 := ((m4.1 22240 (by decide) (by decide)).1).trans ((k4.1 22240 (by decide) (by decide)).1).symm
      have u3 : ρ3.1 1306 = ρ.1 1306 := ((m4.1 1306 (by decide) (by decide)).1).trans ((k4.1 1306 (by decide) (by decide)).1).symm
      have u4 : ρ3.1 22752 = ρ.1 22752 := ((m4.1 22752 (by decide) (by decide)).1).trans ((k4.1 22752 (by decide) (by decide)).1).symm
      exact ih ρ3 m1 m2 m3 m4 (by rw [u1]; exact a1) (by rw [u2, u1]; exact a2) (by rw [y3, u3, u1]; exact a3) (by rw [y3]; exact a4) (by rw [u4]; exact a5) (by rw [u4]; exact a6) (by rw [y4, u4, y3]; exact a7) (by rw [y1, i1]; omega) (by rw [y1, i1, y4]; omega) (.inr ⟨by rw [y1, y3]; exact hw, y2⟩) (by rw [y4, y1, i1]; rcases a7 with r | r <;> omega)
theorem gk_first {X : pX} {ρ0 : sR} (hv : vok X ρ0) (ρ : sR) : kok X ρ kR → fok X ρ q_gk.2.2.1 → iok X ρ q_gk.2.2.2 → agrM 65536 c_gbk.2.2.2.2.1.1 c_gbk.2.2.2.2.1.2 ρ ρ0 → 0 ≤ (ρ.1 3520).toInt → ρ.1 22240 = ρ.1 3520 * 7 → (ρ.1 60192).toInt = pcsI (ρ.1 1306).toInt - (ρ.1 3520).toInt → 1 ≤ (ρ.1 60192).toInt → 1 ≤ (ρ.1 22752).toInt → (ρ.1 22752).toInt ≤ 16 → ((ρ.1 3584).toInt = (ρ.1 22752).toInt ∧ (ρ.1 22752).toInt ≤ (ρ.1 60192).toInt ∨ (ρ.1 3584).toInt = (ρ.1 60192).toInt ∧ (ρ.1 60192).toInt < (ρ.1 22752).toInt) → 0 ≤ (ρ.1 22880).toInt → (ρ.1 22880).toInt ≤ (ρ.1 3584).toInt → (ρ.1 22880 = ρ.1 60192 ∧ ρ.1 22496 = 1 ∨ ¬ ρ.1 22880 = ρ.1 60192 ∧ ρ.1 22496 = 0) → ¬ (ρ.1 3584).toInt ≤ (ρ.1 22880).toInt → AT X zVP c_gbk 9 ρ0 ρ q_gkF := by
    intro k1 k2 k3 k4 a1 a2 a3 a4 a5 a6 a7 a8 a9 a10 hx
    have hz : 0 ≤ (ρ.1 1306).toInt ∧ (ρ.1 1306).toInt ≤ 160 := gk_sz k2
    have hp := pcs_b hz.1 hz.2
    have z0 : (0 : Int32).toInt = 0 := rfl
    have z1 : (1 : Int32).toInt = 1 := rfl
    have z6 : (6 : Int32).toInt = 6 := rfl
    have z7 : (7 : Int32).toInt = 7 := rfl
    have z8 : (8 : Int32).toInt = 8 := rfl
    have zq : (16 : Int32).toInt = 16 := rfl
    have zr : (126 : Int32).toInt = 126 := rfl
    have zs : (160 : Int32).toInt = 160 := rfl
    have i1 : (ρ.1 22880 + 1).toInt = (ρ.1 22880).toInt + 1 := i_of (i_ad (i_s _) rfl) (by omega) (by omega)
    have hlf : ¬ ρ.1 22880 = ρ.1 60192 := fun q => by have q' := congrArg Int32.toInt q; rcases a7 with r | r <;> omega
    have hjl : ρ.1 22496 = 0 := by
      rcases a10 with ⟨g1, -⟩ | ⟨-, g2⟩
      · exact absurd g1 hlf
      · exact g2
    have ic : ((ρ.1 3520 + (ρ.1 22880 + 1) - 1) * 7).toInt = ((ρ.1 3520).toInt + (ρ.1 22880).toInt) * 7 := by
      refine i_of (n := ((ρ.1 3520).toInt + (ρ.1 22880).toInt) * 7) ?_ (by omega) (by rcases a7 with r | r <;> omega)
      rw [i_ml (i_sb (i_ad (i_s (ρ.1 3520)) (i_ad (i_s (ρ.1 22880)) i_1)) i_1) i_7]
      congr 1
      omega
    have hm1 : ρ.1 22240 + 7 * ρ.1 22880 = (ρ.1 3520 + (ρ.1 22880 + 1) - 1) * 7 := by rw [a2]; grind
    have hm2 : ρ.1 22240 + ρ.1 22880 * 7 = (ρ.1 3520 + (ρ.1 22880 + 1) - 1) * 7 := by rw [a2]; grind
    have hc7 : ((ρ.1 3520 + (ρ.1 22880 + 1) - 1) * 7 + 7).toInt = ((ρ.1 3520).toInt + (ρ.1 22880).toInt) * 7 + 7 := by
      rw [s_add (by rw [ic, z7]; omega) (by rw [ic, z7]; rcases a7 with r | r <;> omega), ic, z7]
    have hszE : ∀ {t : sT}, sc X ρ (2, t, .arg 1306) = sc X ρ (2, t, .arg 22112) := fun {t} => by
      have e : ρ.1 1306 = ρ.1 22112 := of_decide_eq_true (k2.2 _ List.mem_cons_self)
      show decide (_ < ρ.1 1306) = decide (_ < ρ.1 22112)
      rw [e]
    have c1 : sc X ρ (2, .arg 3584, .add (.arg 22880) (.int 1)) = false := decide_eq_false (nlt_i (show (ρ.1 22880 + 1).toInt ≤ (ρ.1 3584).toInt by omega))
    have c3 : sc X ρ (2, .arg 22880, .arg 22752) = true := decide_eq_true (lt_i (show (ρ.1 22880).toInt < (ρ.1 22752).toInt by rcases a7 with r | r <;> omega))
    have c4 : sc X ρ (0, .arg 22496, .int 0) = true := decide_eq_true hjl
    have c7 : sc X ρ (0, .add (.arg 22240) (.mul (.int 7) (.arg 22880)), .mul (.sub (.add (.arg 3520) (.add (.arg 22880) (.int 1))) (.int 1)) (.int 7)) = true := decide_eq_true hm1
    have c8 : sc X ρ (0, .add (.arg 22240) (.mul (.arg 22880) (.int 7)), .mul (.sub (.add (.arg 3520) (.add (.arg 22880) (.int 1))) (.int 1)) (.int 7)) = true := decide_eq_true hm2
    have c9 : sc X ρ (0, .mul (.sub (.add (.arg 3520) (.add (.arg 22880) (.int 1))) (.int 1)) (.int 7), .add (.arg 22240) (.mul (.int 7) (.arg 22880))) = true := decide_eq_true hm1.symm
    have c10 : sc X ρ (0, .mul (.sub (.add (.arg 3520) (.add (.arg 22880) (.int 1))) (.int 1)) (.int 7), .add (.arg 22240) (.mul (.arg 22880) (.int 7))) = true := decide_eq_true hm2.symm
    have c11 : sc X ρ (2, .mul (.sub (.add (.arg 3520) (.add (.arg 22880) (.int 1))) (.int 1)) (.int 7), .int 0) = false := decide_eq_false (nlt_i (show (0 : Int32).toInt ≤ ((ρ.1 3520 + (ρ.1 22880 + 1) - 1) * 7).toInt by omega))
    have c12 : sc X ρ (2, .int 160, .mul (.sub (.add (.arg 3520) (.add (.arg 22880) (.int 1))) (.int 1)) (.int 7)) = false := decide_eq_false (nlt_i (show ((ρ.1 3520 + (ρ.1 22880 + 1) - 1) * 7).toInt ≤ (160 : Int32).toInt by rcases a7 with r | r <;> omega))
    have c13 : sc X ρ (2, .arg 22880, .int 0) = false := decide_eq_false (nlt_i (show (0 : Int32).toInt ≤ (ρ.1 22880).toInt by omega))
    have c14 : sc X ρ (2, .int 126, .arg 22880) = false := decide_eq_false (nlt_i (show (ρ.1 22880).toInt ≤ (126 : Int32).toInt by rcases a7 with r | r <;> omega))
    by_cases hw : ρ.1 22880 + 1 = ρ.1 60192
    · have hw' : (ρ.1 22880).toInt + 1 = (ρ.1 60192).toInt := by rw [← i1, hw]
      have c2 : sc X ρ (0, .add (.arg 22880) (.int 1), .arg 60192) = true := decide_eq_true hw
      have c5 : sc X ρ (2, .add (.add (.arg 22240) (.mul (.int 7) (.arg 22880))) (.int 7), .arg 1306) = false := decide_eq_false (nlt_i (show (ρ.1 1306).toInt ≤ (ρ.1 22240 + 7 * ρ.1 22880 + 7).toInt by rw [hm1, hc7]; omega))
      have c6 : sc X ρ (2, .add (.add (.arg 22240) (.mul (.arg 22880) (.int 7))) (.int 7), .arg 1306) = false := decide_eq_false (nlt_i (show (ρ.1 1306).toInt ≤ (ρ.1 22240 + ρ.1 22880 * 7 + 7).toInt by rw [hm2, hc7]; omega))
      have c5b : sc X ρ (2, .add (.add (.arg 22240) (.mul (.int 7) (.arg 22880))) (.int 7), .arg 22112) = false := by rw [← hszE]; exact c5
      have c6b : sc X ρ (2, .add (.add (.arg 22240) (.mul (.arg 22880) (.int 7))) (.int 7), .arg 22112) = false := by rw [← hszE]; exact c6
      refine AT_of (q := q_gkL0) rfl rfl (SEM_run kR_x kR_0 (Cs := [(zVP, c_say0), (zVP, c_sevd)]) (fun C hC => by
    simp only [List.mem_cons, List.not_mem_nil, or_false] at hC
    rcases hC with hC | hC
    · rw [hC]; exact s_say0
    · rw [hC]; exact s_sevd) c_gbk_f (Q := w_gkL0) hv 300 (b1 := true) (b2 := true) k_gkL0 k1 ((fkc (c1) (fkc (c2) (fkc (c3) (fkc (c4) (fkc (c5) (fkc (c6) (fkc (c5b) (fkc (c6b) (fkc (c7) (fkc (c8) (fkc (c9) (fkc (c10) (fkc (c11) (fkc (c12) (fkc (c13) (fkc (c14) k2))))))))))))))))) k3 k4 (fun p hp ρ3 m1 m2 m3 m4 m5 => ?_))
      rw [List.mem_singleton.mp hp] at m2 m3 m5 ⊢
      have y1 : ρ3.1 22880 = ρ.1 22880 + 1 := tj1 (m5 _ (List.mem_cons_self))
      have y2 : ρ3.1 22496 = 1 := tj1 (m5 _ (List.mem_cons_of_mem _ (List.mem_cons_self)))
      have y3 : ρ3.1 60192 = ρ.1 60192 := tj1 (m5 _ (List.mem_cons_of_mem _ (List.mem_cons_of_mem _ (List.mem_cons_self))))
      have y4 : ρ3.1 3584 = ρ.1 3584 := tj1 (m5 _ (List.mem_cons_of_mem _ (List.mem_cons_of_mem _ (List.mem_cons_of_mem _ (List.mem_cons_self)))))
      have u1 : ρ3.1 3520 = ρ.1 3520 := ((m4.1 3520 (by decide) (by decide)).1).trans ((k4.1 3520 (by decide) (by decide)).1).symm
      have u2 : ρ3.1 22240 = ρ.1 22240 := ((m4.1 22240 (by decide) (by decide)).1).trans ((k4.1 22240 (by decide) (by decide)).1).symm
      have u3 : ρ3.1 1306 = ρ.1 1306 := ((m4.1 1306 (by decide) (by decide)).1).trans ((k4.1 1306 (by decide) (by decide)).1).symm
      have u4 : ρ3.1 22752 = ρ.1 22752 := ((m4.1 22752 (by decide) (by decide)).1).trans ((k4.1 22752 (by decide) (by decide)).1).symm
      exact gk_at hv 200 ρ3 m1 m2 m3 m4 (by rw [u1]; exact a1) (by rw [u2, u1]; exact a2) (by rw [y3, u3, u1]; exact a3) (by rw [y3]; exact a4) (by rw [u4]; exact a5) (by rw [u4]; exact a6) (by rw [y4, u4, y3]; exact a7) (by rw [y1, i1]; omega) (by rw [y1, i1, y4]; omega) (.inl ⟨by rw [y1, y3]; exact hw, y2⟩) (by rw [y4, y1, i1]; rcases a7 with r | r <;> omega)
    · have hw' : ¬ (ρ.1 22880).toInt + 1 = (ρ.1 60192).toInt := fun q => hw (Int32.toInt_inj.mp (by rw [i1]; exact q))
      have h0 : ¬ (ρ.1 1306).toInt = 0 := fun q => by have := hp.2.2.2.1 q; rcases a7 with r | r <;> omega
      have hq := hp.2.2.2.2 h0
      have c2 : sc X ρ (0, .add (.arg 22880) (.int 1), .arg 60192) = false := decide_eq_false hw
      have c5 : sc X ρ (2, .add (.add (.arg 22240) (.mul (.int 7) (.arg 22880))) (.int 7), .arg 1306) = true := decide_eq_true (lt_i (show (ρ.1 22240 + 7 * ρ.1 22880 + 7).toInt < (ρ.1 1306).toInt by rw [hm1, hc7]; rcases a7 with r | r <;> omega))
      have c6 : sc X ρ (2, .add (.add (.arg 22240) (.mul (.arg 22880) (.int 7))) (.int 7), .arg 1306) = true := decide_eq_true (lt_i (show (ρ.1 22240 + ρ.1 22880 * 7 + 7).toInt < (ρ.1 1306).toInt by rw [hm2, hc7]; rcases a7 with r | r <;> omega))
      have c5b : sc X ρ (2, .add (.add (.arg 22240) (.mul (.int 7) (.arg 22880))) (.int 7), .arg 22112) = true := by rw [← hszE]; exact c5
      have c6b : sc X ρ (2, .add (.add (.arg 22240) (.mul (.arg 22880) (.int 7))) (.int 7), .arg 22112) = true := by rw [← hszE]; exact c6
      refine AT_of (q := q_gkK0) rfl rfl (SEM_run kR_x kR_0 (Cs := [(zVP, c_say0), (zVP, c_sevd)]) (fun C hC => by
    simp only [List.mem_cons, List.not_mem_nil, or_false] at hC
    rcases hC with hC | hC
    · rw [hC]; exact s_say0
    · rw [hC]; exact s_sevd) c_gbk_f (Q := w_gkK0) hv 300 (b1 := true) (b2 := true) k_gkK0 k1 ((fkc (c1) (fkc (c2) (fkc (c3) (fkc (c4) (fkc (c5) (fkc (c6) (fkc (c5b) (fkc (c6b) (fkc (c7) (fkc (c8) (fkc (c9) (fkc (c10) (fkc (c11) (fkc (c12) (fkc (c13) (fkc (c14) k2))))))))))))))))) k3 k4 (fun p hp ρ3 m1 m2 m3 m4 m5 => ?_))
      rw [List.mem_singleton.mp hp] at m2 m3 m5 ⊢
      have y1 : ρ3.1 22880 = ρ.1 22880 + 1 := tj1 (m5 _ (List.mem_cons_self))
      have y2 : ρ3.1 22496 = 0 := tj1 (m5 _ (List.mem_cons_of_mem _ (List.mem_cons_self)))
      have y3 : ρ3.1 60192 = ρ.1 60192 := tj1 (m5 _ (List.mem_cons_of_mem _ (List.mem_cons_of_mem _ (List.mem_cons_self))))
      have y4 : ρ3.1 3584 = ρ.1 3584 := tj1 (m5 _ (List.mem_cons_of_mem _ (List.mem_cons_of_mem _ (List.mem_cons_of_mem _ (List.mem_cons_self)))))
      have u1 : ρ3.1 3520 = ρ.1 3520 := ((m4.1 3520 (by decide) (by decide)).1).trans ((k4.1 3520 (by decide) (by decide)).1).symm
      have u2 : ρ3.1 22240 = ρ.1 22240 := ((m4.1 22240 (by decide) (by decide)).1).trans ((k4.1 22240 (by decide) (by decide)).1).symm
      have u3 : ρ3.1 1306 = ρ.1 1306 := ((m4.1 1306 (by decide) (by decide)).1).trans ((k4.1 1306 (by decide) (by decide)).1).symm
      have u4 : ρ3.1 22752 = ρ.1 22752 := ((m4.1 22752 (by decide) (by decide)).1).trans ((k4.1 22752 (by decide) (by decide)).1).symm
      exact gk_at hv 200 ρ3 m1 m2 m3 m4 (by rw [u1]; exact a1) (by rw [u2, u1]; exact a2) (by rw [y3, u3, u1]; exact a3) (by rw [y3]; exact a4) (by rw [u4]; exact a5) (by rw [u4]; exact a6) (by rw [y4, u4, y3]; exact a7) (by rw [y1, i1]; omega) (by rw [y1, i1, y4]; omega) (.inr ⟨by rw [y1, y3]; exact hw, y2⟩) (by rw [y4, y1, i1]; rcases a7 with r | r <;> omega)
theorem t_gk000 {X : pX} {ρ0 : sR} (hv : vok X ρ0) : CUTOK X kR zVP c_gbk 9 ρ0 q_gk000 := CUTOK_AT (fun ρ k1 k2 k3 k4 => by
  have b0 : sc X ρ (2, .int 0, .arg 1306) = false := k2.2 _ (List.mem_cons_self)
  have b1 : ρ.1 60192 = 1 - ρ.1 3520 := of_decide_eq_true (k2.2 _ (List.mem_cons_of_mem _ (List.mem_cons_self)))
  have b2 : ρ.1 3584 = ρ.1 3552 := of_decide_eq_true (k2.2 _ (List.mem_cons_of_mem _ (List.mem_cons_of_mem _ (List.mem_cons_self))))
  have b3 : sc X ρ (2, .arg 60192, .arg 3552) = false := k2.2 _ (List.mem_cons_of_mem _ (List.mem_cons_of_mem _ (List.mem_cons_of_mem _ (List.mem_cons_self))))
  have b4 : ρ.1 22880 = 0 := of_decide_eq_true (k2.2 _ (List.mem_cons_of_mem _ (List.mem_cons_of_mem _ (List.mem_cons_of_mem _ (List.mem_cons_of_mem _ (List.mem_cons_self))))))
  have b5 : ρ.1 22496 = 0 := of_decide_eq_true (k2.2 _ (List.mem_cons_of_mem _ (List.mem_cons_of_mem _ (List.mem_cons_of_mem _ (List.mem_cons_of_mem _ (List.mem_cons_of_mem _ (List.mem_cons_self)))))))
  have p1 : ρ.1 22752 = ρ.1 3552 := of_decide_eq_true (k2.2 _ (List.mem_cons_of_mem _ (List.mem_cons_of_mem _ (List.mem_cons_of_mem _ (List.mem_cons_of_mem _ (List.mem_cons_of_mem _ (List.mem_cons_of_mem _ (List.mem_cons_self))))))))
  have p2 : ¬ ρ.1 3552 < 1 := of_decide_eq_false (k2.2 _ (List.mem_cons_of_mem _ (List.mem_cons_of_mem _ (List.mem_cons_of_mem _ (List.mem_cons_of_mem _ (List.mem_cons_of_mem _ (List.mem_cons_of_mem _ (List.mem_cons_of_mem _ (List.mem_cons_self)))))))))
  have p3 : ¬ 16 < ρ.1 3552 := of_decide_eq_false (k2.2 _ (List.mem_cons_of_mem _ (List.mem_cons_of_mem _ (List.mem_cons_of_mem _ (List.mem_cons_of_mem _ (List.mem_cons_of_mem _ (List.mem_cons_of_mem _ (List.mem_cons_of_mem _ (List.mem_cons_of_mem _ (List.mem_cons_self))))))))))
  have p4 : ρ.1 22240 = ρ.1 3520 * 7 := of_decide_eq_true (k2.2 _ (List.mem_cons_of_mem _ (List.mem_cons_of_mem _ (List.mem_cons_of_mem _ (List.mem_cons_of_mem _ (List.mem_cons_of_mem _ (List.mem_cons_of_mem _ (List.mem_cons_of_mem _ (List.mem_cons_of_mem _ (List.mem_cons_of_mem _ (List.mem_cons_self)))))))))))
  have p5 : ¬ ρ.1 3520 < 0 := of_decide_eq_false (k2.2 _ (List.mem_cons_of_mem _ (List.mem_cons_of_mem _ (List.mem_cons_of_mem _ (List.mem_cons_of_mem _ (List.mem_cons_of_mem _ (List.mem_cons_of_mem _ (List.mem_cons_of_mem _ (List.mem_cons_of_mem _ (List.mem_cons_of_mem _ (List.mem_cons_of_mem _ (List.mem_cons_self))))))))))))
  have p6 : ¬ 22 < ρ.1 3520 := of_decide_eq_false (k2.2 _ (List.mem_cons_of_mem _ (List.mem_cons_of_mem _ (List.mem_cons_of_mem _ (List.mem_cons_of_mem _ (List.mem_cons_of_mem _ (List.mem_cons_of_mem _ (List.mem_cons_of_mem _ (List.mem_cons_of_mem _ (List.mem_cons_of_mem _ (List.mem_cons_of_mem _ (List.mem_cons_of_mem _ (List.mem_cons_self)))))))))))))
  have kk2 : fok X ρ q_gk.2.2.1 := ⟨k2.1, fun f hf => k2.2 f (List.mem_of_mem_drop (i := 12) (show f ∈ List.drop 12 q_gk000.2.2.1 from hf))⟩
  have kk3 : iok X ρ q_gk.2.2.2 := fun f hf => k3 f (List.mem_of_mem_drop (i := 2) (show f ∈ List.drop 2 q_gk000.2.2.2 from hf))
  have zt : (22 : Int32).toInt = 22 := rfl
  rw [Int32.lt_iff_toInt_lt, zt] at p6
  have z0 : (0 : Int32).toInt = 0 := rfl
  have z1 : (1 : Int32).toInt = 1 := rfl
  have zq : (16 : Int32).toInt = 16 := rfl
  rw [Int32.lt_iff_toInt_lt, z1] at p2
  rw [Int32.lt_iff_toInt_lt, zq] at p3
  rw [Int32.lt_iff_toInt_lt, z0] at p5
  have hz : 0 ≤ (ρ.1 1306).toInt ∧ (ρ.1 1306).toInt ≤ 160 := gk_sz kk2
  have hp := pcs_b hz.1 hz.2
  have b0 : ¬ 0 < ρ.1 1306 := of_decide_eq_false b0
  rw [Int32.lt_iff_toInt_lt, z0] at b0
  have b3 : ¬ ρ.1 60192 < ρ.1 3552 := of_decide_eq_false b3
  rw [Int32.lt_iff_toInt_lt, ← p1] at b3
  rw [← p1] at p2 p3
  have hpc : (ρ.1 3520).toInt < pcsI (ρ.1 1306).toInt := by
    by_cases h0 : (ρ.1 1306).toInt = 0
    · have e : ρ.1 3520 = 0 := of_decide_eq_true (k3 _ (List.mem_cons_of_mem _ List.mem_cons_self) (fun f hf => by
        rw [List.mem_singleton.mp hf]
        exact decide_eq_true (Int32.toInt_inj.mp (show (ρ.1 1306).toInt = (0 : Int32).toInt by omega))))
      rw [e, z0]
      omega
    · have e : ρ.1 3520 * 7 < ρ.1 1306 := of_decide_eq_true (k3 _ List.mem_cons_self (fun f hf => by
        rw [List.mem_singleton.mp hf]
        exact decide_eq_false (fun q => h0 (by have q' := congrArg Int32.toInt (show ρ.1 1306 = 0 from q); omega))))
      have e' := Int32.lt_iff_toInt_lt.mp e
      have i7 : (ρ.1 3520 * 7).toInt = (ρ.1 3520).toInt * 7 := i_of (i_ml (i_s _) i_7) (by omega) (by omega)
      rw [i7] at e'
      omega
  have hpv : (1 : Int32) = Int32.ofInt (pcsI (ρ.1 1306).toInt) := by
    have : pcsI (ρ.1 1306).toInt = 1 := by unfold pcsI; rw [if_pos (by omega)]
    rw [this]; rfl
  have b2i : (ρ.1 3584).toInt = (ρ.1 22752).toInt := by rw [b2, p1]
  have hlf : (ρ.1 60192).toInt = pcsI (ρ.1 1306).toInt - (ρ.1 3520).toInt := by
    rw [b1]
    refine i_of (n := pcsI (ρ.1 1306).toInt - (ρ.1 3520).toInt) ?_ (by omega) (by omega)
    exact i_sb hpv (i_s _)
  exact AT_of (q := q_gkF) rfl rfl (gk_first hv ρ k1 kk2 kk3 k4 (by omega) p4 hlf (by omega) (by omega) (by omega) (.inl ⟨b2i, by omega⟩) (by rw [b4, z0]; omega) (by rw [b4, z0]; omega) (.inr ⟨by rw [b4]; intro q; have q' := congrArg Int32.toInt q; rw [z0] at q'; omega, b5⟩) (by rw [b4, z0]; omega)))
theorem t_gk001 {X : pX} {ρ0 : sR} (hv : vok X ρ0) : CUTOK X kR zVP c_gbk 9 ρ0 q_gk001 := CUTOK_AT (fun ρ k1 k2 k3 k4 => by
  have b0 : sc X ρ (2, .int 0, .arg 1306) = false := k2.2 _ (List.mem_cons_self)
  have b1 : ρ.1 60192 = 1 - ρ.1 3520 := of_decide_eq_true (k2.2 _ (List.mem_cons_of_mem _ (List.mem_cons_self)))
  have b2 : ρ.1 3584 = ρ.1 60192 := of_decide_eq_true (k2.2 _ (List.mem_cons_of_mem _ (List.mem_cons_of_mem _ (List.mem_cons_self))))
  have b3 : sc X ρ (2, .arg 60192, .arg 3552) = true := k2.2 _ (List.mem_cons_of_mem _ (List.mem_cons_of_mem _ (List.mem_cons_of_mem _ (List.mem_cons_self))))
  have b4 : ρ.1 22880 = 0 := of_decide_eq_true (k2.2 _ (List.mem_cons_of_mem _ (List.mem_cons_of_mem _ (List.mem_cons_of_mem _ (List.mem_cons_of_mem _ (List.mem_cons_self))))))
  have b5 : ρ.1 22496 = 0 := of_decide_eq_true (k2.2 _ (List.mem_cons_of_mem _ (List.mem_cons_of_mem _ (List.mem_cons_of_mem _ (List.mem_cons_of_mem _ (List.mem_cons_of_mem _ (List.mem_cons_self)))))))
  have p1 : ρ.1 22752 = ρ.1 3552 := of_decide_eq_true (k2.2 _ (List.mem_cons_of_mem _ (List.mem_cons_of_mem _ (List.mem_cons_of_mem _ (List.mem_cons_of_mem _ (List.mem_cons_of_mem _ (List.mem_cons_of_mem _ (List.mem_cons_self))))))))
  have p2 : ¬ ρ.1 3552 < 1 := of_decide_eq_false (k2.2 _ (List.mem_cons_of_mem _ (List.mem_cons_of_mem _ (List.mem_cons_of_mem _ (List.mem_cons_of_mem _ (List.mem_cons_of_mem _ (List.mem_cons_of_mem _ (List.mem_cons_of_mem _ (List.mem_cons_self)))))))))
  have p3 : ¬ 16 < ρ.1 3552 := of_decide_eq_false (k2.2 _ (List.mem_cons_of_mem _ (List.mem_cons_of_mem _ (List.mem_cons_of_mem _ (List.mem_cons_of_mem _ (List.mem_cons_of_mem _ (List.mem_cons_of_mem _ (List.mem_cons_of_mem _ (List.mem_cons_of_mem _ (List.mem_cons_self))))))))))
  have p4 : ρ.1 22240 = ρ.1 3520 * 7 := of_decide_eq_true (k2.2 _ (List.mem_cons_of_mem _ (List.mem_cons_of_mem _ (List.mem_cons_of_mem _ (List.mem_cons_of_mem _ (List.mem_cons_of_mem _ (List.mem_cons_of_mem _ (List.mem_cons_of_mem _ (List.mem_cons_of_mem _ (List.mem_cons_of_mem _ (List.mem_cons_self)))))))))))
  have p5 : ¬ ρ.1 3520 < 0 := of_decide_eq_false (k2.2 _ (List.mem_cons_of_mem _ (List.mem_cons_of_mem _ (List.mem_cons_of_mem _ (List.mem_cons_of_mem _ (List.mem_cons_of_mem _ (List.mem_cons_of_mem _ (List.mem_cons_of_mem _ (List.mem_cons_of_mem _ (List.mem_cons_of_mem _ (List.mem_cons_of_mem _ (List.mem_cons_self))))))))))))
  have p6 : ¬ 22 < ρ.1 3520 := of_decide_eq_false (k2.2 _ (List.mem_cons_of_mem _ (List.mem_cons_of_mem _ (List.mem_cons_of_mem _ (List.mem_cons_of_mem _ (List.mem_cons_of_mem _ (List.mem_cons_of_mem _ (List.mem_cons_of_mem _ (List.mem_cons_of_mem _ (List.mem_cons_of_mem _ (List.mem_cons_of_mem _ (List.mem_cons_of_mem _ (List.mem_cons_self)))))))))))))
  have kk2 : fok X ρ q_gk.2.2.1 := ⟨k2.1, fun f hf => k2.2 f (List.mem_of_mem_drop (i := 12) (show f ∈ List.drop 12 q_gk001.2.2.1 from hf))⟩
  have kk3 : iok X ρ q_gk.2.2.2 := fun f hf => k3 f (List.mem_of_mem_drop (i := 2) (show f ∈ List.drop 2 q_gk001.2.2.2 from hf))
  have zt : (22 : Int32).toInt = 22 := rfl
  rw [Int32.lt_iff_toInt_lt, zt] at p6
  have z0 : (0 : Int32).toInt = 0 := rfl
  have z1 : (1 : Int32).toInt = 1 := rfl
  have zq : (16 : Int32).toInt = 16 := rfl
  rw [Int32.lt_iff_toInt_lt, z1] at p2
  rw [Int32.lt_iff_toInt_lt, zq] at p3
  rw [Int32.lt_iff_toInt_lt, z0] at p5
  have hz : 0 ≤ (ρ.1 1306).toInt ∧ (ρ.1 1306).toInt ≤ 160 := gk_sz kk2
  have hp := pcs_b hz.1 hz.2
  have b0 : ¬ 0 < ρ.1 1306 := of_decide_eq_false b0
  rw [Int32.lt_iff_toInt_lt, z0] at b0
  have b3 : ρ.1 60192 < ρ.1 3552 := of_decide_eq_true b3
  rw [Int32.lt_iff_toInt_lt, ← p1] at b3
  rw [← p1] at p2 p3
  have hpc : (ρ.1 3520).toInt < pcsI (ρ.1 1306).toInt := by
    by_cases h0 : (ρ.1 1306).toInt = 0
    · have e : ρ.1 3520 = 0 := of_decide_eq_true (k3 _ (List.mem_cons_of_mem _ List.mem_cons_self) (fun f hf => by
        rw [List.mem_singleton.mp hf]
        exact decide_eq_true (Int32.toInt_inj.mp (show (ρ.1 1306).toInt = (0 : Int32).toInt by omega))))
      rw [e, z0]
      omega
    · have e : ρ.1 3520 * 7 < ρ.1 1306 := of_decide_eq_true (k3 _ List.mem_cons_self (fun f hf => by
        rw [List.mem_singleton.mp hf]
        exact decide_eq_false (fun q => h0 (by have q' := congrArg Int32.toInt (show ρ.1 1306 = 0 from q); omega))))
      have e' := Int32.lt_iff_toInt_lt.mp e
      have i7 : (ρ.1 3520 * 7).toInt = (ρ.1 3520).toInt * 7 := i_of (i_ml (i_s _) i_7) (by omega) (by omega)
      rw [i7] at e'
      omega
  have hpv : (1 : Int32) = Int32.ofInt (pcsI (ρ.1 1306).toInt) := by
    have : pcsI (ρ.1 1306).toInt = 1 := by unfold pcsI; rw [if_pos (by omega)]
    rw [this]; rfl
  have b2i : (ρ.1 3584).toInt = (ρ.1 60192).toInt := by rw [b2]
  have hlf : (ρ.1 60192).toInt = pcsI (ρ.1 1306).toInt - (ρ.1 3520).toInt := by
    rw [b1]
    refine i_of (n := pcsI (ρ.1 1306).toInt - (ρ.1 3520).toInt) ?_ (by omega) (by omega)
    exact i_sb hpv (i_s _)
  exact AT_of (q := q_gkF) rfl rfl (gk_first hv ρ k1 kk2 kk3 k4 (by omega) p4 hlf (by omega) (by omega) (by omega) (.inr ⟨b2i, by omega⟩) (by rw [b4, z0]; omega) (by rw [b4, z0]; omega) (.inr ⟨by rw [b4]; intro q; have q' := congrArg Int32.toInt q; rw [z0] at q'; omega, b5⟩) (by rw [b4, z0]; omega)))
theorem t_gk010 {X : pX} {ρ0 : sR} (hv : vok X ρ0) : CUTOK X kR zVP c_gbk 9 ρ0 q_gk010 := CUTOK_AT (fun ρ k1 k2 k3 k4 => by
  have b0 : sc X ρ (2, .int 0, .arg 1306) = true := k2.2 _ (List.mem_cons_self)
  have b1 : ρ.1 60192 = (ρ.1 1306 + 6) / 7 - ρ.1 3520 := of_decide_eq_true (k2.2 _ (List.mem_cons_of_mem _ (List.mem_cons_self)))
  have b2 : ρ.1 3584 = ρ.1 3552 := of_decide_eq_true (k2.2 _ (List.mem_cons_of_mem _ (List.mem_cons_of_mem _ (List.mem_cons_self))))
  have b3 : sc X ρ (2, .arg 60192, .arg 3552) = false := k2.2 _ (List.mem_cons_of_mem _ (List.mem_cons_of_mem _ (List.mem_cons_of_mem _ (List.mem_cons_self))))
  have b4 : ρ.1 22880 = 0 := of_decide_eq_true (k2.2 _ (List.mem_cons_of_mem _ (List.mem_cons_of_mem _ (List.mem_cons_of_mem _ (List.mem_cons_of_mem _ (List.mem_cons_self))))))
  have b5 : ρ.1 22496 = 0 := of_decide_eq_true (k2.2 _ (List.mem_cons_of_mem _ (List.mem_cons_of_mem _ (List.mem_cons_of_mem _ (List.mem_cons_of_mem _ (List.mem_cons_of_mem _ (List.mem_cons_self)))))))
  have p1 : ρ.1 22752 = ρ.1 3552 := of_decide_eq_true (k2.2 _ (List.mem_cons_of_mem _ (List.mem_cons_of_mem _ (List.mem_cons_of_mem _ (List.mem_cons_of_mem _ (List.mem_cons_of_mem _ (List.mem_cons_of_mem _ (List.mem_cons_self))))))))
  have p2 : ¬ ρ.1 3552 < 1 := of_decide_eq_false (k2.2 _ (List.mem_cons_of_mem _ (List.mem_cons_of_mem _ (List.mem_cons_of_mem _ (List.mem_cons_of_mem _ (List.mem_cons_of_mem _ (List.mem_cons_of_mem _ (List.mem_cons_of_mem _ (List.mem_cons_self)))))))))
  have p3 : ¬ 16 < ρ.1 3552 := of_decide_eq_false (k2.2 _ (List.mem_cons_of_mem _ (List.mem_cons_of_mem _ (List.mem_cons_of_mem _ (List.mem_cons_of_mem _ (List.mem_cons_of_mem _ (List.mem_cons_of_mem _ (List.mem_cons_of_mem _ (List.mem_cons_of_mem _ (List.mem_cons_self))))))))))
  have p4 : ρ.1 22240 = ρ.1 3520 * 7 := of_decide_eq_true (k2.2 _ (List.mem_cons_of_mem _ (List.mem_cons_of_mem _ (List.mem_cons_of_mem _ (List.mem_cons_of_mem _ (List.mem_cons_of_mem _ (List.mem_cons_of_mem _ (List.mem_cons_of_mem _ (List.mem_cons_of_mem _ (List.mem_cons_of_mem _ (List.mem_cons_self)))))))))))
  have p5 : ¬ ρ.1 3520 < 0 := of_decide_eq_false (k2.2 _ (List.mem_cons_of_mem _ (List.mem_cons_of_mem _ (List.mem_cons_of_mem _ (List.mem_cons_of_mem _ (List.mem_cons_of_mem _ (List.mem_cons_of_mem _ (List.mem_cons_of_mem _ (List.mem_cons_of_mem _ (List.mem_cons_of_mem _ (List.mem_cons_of_mem _ (List.mem_cons_self))))))))))))
  have p6 : ¬ 22 < ρ.1 3520 := of_decide_eq_false (k2.2 _ (List.mem_cons_of_mem _ (List.mem_cons_of_mem _ (List.mem_cons_of_mem _ (List.mem_cons_of_mem _ (List.mem_cons_of_mem _ (List.mem_cons_of_mem _ (List.mem_cons_of_mem _ (List.mem_cons_of_mem _ (List.mem_cons_of_mem _ (List.mem_cons_of_mem _ (List.mem_cons_of_mem _ (List.mem_cons_self)))))))))))))
  have kk2 : fok X ρ q_gk.2.2.1 := ⟨k2.1, fun f hf => k2.2 f (List.mem_of_mem_drop (i := 12) (show f ∈ List.drop 12 q_gk010.2.2.1 from hf))⟩
  have kk3 : iok X ρ q_gk.2.2.2 := fun f hf => k3 f (List.mem_of_mem_drop (i := 2) (show f ∈ List.drop 2 q_gk010.2.2.2 from hf))
  have zt : (22 : Int32).toInt = 22 := rfl
  rw [Int32.lt_iff_toInt_lt, zt] at p6
  have z0 : (0 : Int32).toInt = 0 := rfl
  have z1 : (1 : Int32).toInt = 1 := rfl
  have zq : (16 : Int32).toInt = 16 := rfl
  rw [Int32.lt_iff_toInt_lt, z1] at p2
  rw [Int32.lt_iff_toInt_lt, zq] at p3
  rw [Int32.lt_iff_toInt_lt, z0] at p5
  have hz : 0 ≤ (ρ.1 1306).toInt ∧ (ρ.1 1306).toInt ≤ 160 := gk_sz kk2
  have hp := pcs_b hz.1 hz.2
  have b0 : 0 < ρ.1 1306 := of_decide_eq_true b0
  rw [Int32.lt_iff_toInt_lt, z0] at b0
  have b3 : ¬ ρ.1 60192 < ρ.1 3552 := of_decide_eq_false b3
  rw [Int32.lt_iff_toInt_lt, ← p1] at b3
  rw [← p1] at p2 p3
  have hpc : (ρ.1 3520).toInt < pcsI (ρ.1 1306).toInt := by
    by_cases h0 : (ρ.1 1306).toInt = 0
    · have e : ρ.1 3520 = 0 := of_decide_eq_true (k3 _ (List.mem_cons_of_mem _ List.mem_cons_self) (fun f hf => by
        rw [List.mem_singleton.mp hf]
        exact decide_eq_true (Int32.toInt_inj.mp (show (ρ.1 1306).toInt = (0 : Int32).toInt by omega))))
      rw [e, z0]
      omega
    · have e : ρ.1 3520 * 7 < ρ.1 1306 := of_decide_eq_true (k3 _ List.mem_cons_self (fun f hf => by
        rw [List.mem_singleton.mp hf]
        exact decide_eq_false (fun q => h0 (by have q' := congrArg Int32.toInt (show ρ.1 1306 = 0 from q); omega))))
      have e' := Int32.lt_iff_toInt_lt.mp e
      have i7 : (ρ.1 3520 * 7).toInt = (ρ.1 3520).toInt * 7 := i_of (i_ml (i_s _) i_7) (by omega) (by omega)
      rw [i7] at e'
      omega
  have hpv : (ρ.1 1306 + 6) / 7 = Int32.ofInt (pcsI (ρ.1 1306).toInt) := by
    have e6 : (ρ.1 1306 + 6).toInt = (ρ.1 1306).toInt + 6 := i_of (i_ad (i_s _) rfl) (by omega) (by omega)
    have e7 : (7 : Int32).toInt = 7 := rfl
    have : pcsI (ρ.1 1306).toInt = ((ρ.1 1306).toInt + 6) / 7 := by unfold pcsI; rw [if_neg (by omega)]
    apply Int32.toInt_inj.mp
    rw [i_of (n := pcsI (ρ.1 1306).toInt) rfl (by omega) (by omega), this, Int32.toInt_div_of_ne_right _ _ (by decide), e6, e7, Int.tdiv_eq_ediv_of_nonneg (by omega)]
  have b2i : (ρ.1 3584).toInt = (ρ.1 22752).toInt := by rw [b2, p1]
  have hlf : (ρ.1 60192).toInt = pcsI (ρ.1 1306).toInt - (ρ.1 3520).toInt := by
    rw [b1]
    refine i_of (n := pcsI (ρ.1 1306).toInt - (ρ.1 3520).toInt) ?_ (by omega) (by omega)
    exact i_sb hpv (i_s _)
  exact AT_of (q := q_gkF) rfl rfl (gk_first hv ρ k1 kk2 kk3 k4 (by omega) p4 hlf (by omega) (by omega) (by omega) (.inl ⟨b2i, by omega⟩) (by rw [b4, z0]; omega) (by rw [b4, z0]; omega) (.inr ⟨by rw [b4]; intro q; have q' := congrArg Int32.toInt q; rw [z0] at q'; omega, b5⟩) (by rw [b4, z0]; omega)))
theorem t_gk011 {X : pX} {ρ0 : sR} (hv : vok X ρ0) : CUTOK X kR zVP c_gbk 9 ρ0 q_gk011 := CUTOK_AT (fun ρ k1 k2 k3 k4 => by
  have b0 : sc X ρ (2, .int 0, .arg 1306) = true := k2.2 _ (List.mem_cons_self)
  have b1 : ρ.1 60192 = (ρ.1 1306 + 6) / 7 - ρ.1 3520 := of_decide_eq_true (k2.2 _ (List.mem_cons_of_mem _ (List.mem_cons_self)))
  have b2 : ρ.1 3584 = ρ.1 60192 := of_decide_eq_true (k2.2 _ (List.mem_cons_of_mem _ (List.mem_cons_of_mem _ (List.mem_cons_self))))
  have b3 : sc X ρ (2, .arg 60192, .arg 3552) = true := k2.2 _ (List.mem_cons_of_mem _ (List.mem_cons_of_mem _ (List.mem_cons_of_mem _ (List.mem_cons_self))))
  have b4 : ρ.1 22880 = 0 := of_decide_eq_true (k2.2 _ (List.mem_cons_of_mem _ (List.mem_cons_of_mem _ (List.mem_cons_of_mem _ (List.mem_cons_of_mem _ (List.mem_cons_self))))))
  have b5 : ρ.1 22496 = 0 := of_decide_eq_true (k2.2 _ (List.mem_cons_of_mem _ (List.mem_cons_of_mem _ (List.mem_cons_of_mem _ (List.mem_cons_of_mem _ (List.mem_cons_of_mem _ (List.mem_cons_self)))))))
  have p1 : ρ.1 22752 = ρ.1 3552 := of_decide_eq_true (k2.2 _ (List.mem_cons_of_mem _ (List.mem_cons_of_mem _ (List.mem_cons_of_mem _ (List.mem_cons_of_mem _ (List.mem_cons_of_mem _ (List.mem_cons_of_mem _ (List.mem_cons_self))))))))
  have p2 : ¬ ρ.1 3552 < 1 := of_decide_eq_false (k2.2 _ (List.mem_cons_of_mem _ (List.mem_cons_of_mem _ (List.mem_cons_of_mem _ (List.mem_cons_of_mem _ (List.mem_cons_of_mem _ (List.mem_cons_of_mem _ (List.mem_cons_of_mem _ (List.mem_cons_self)))))))))
  have p3 : ¬ 16 < ρ.1 3552 := of_decide_eq_false (k2.2 _ (List.mem_cons_of_mem _ (List.mem_cons_of_mem _ (List.mem_cons_of_mem _ (List.mem_cons_of_mem _ (List.mem_cons_of_mem _ (List.mem_cons_of_mem _ (List.mem_cons_of_mem _ (List.mem_cons_of_mem _ (List.mem_cons_self))))))))))
  have p4 : ρ.1 22240 = ρ.1 3520 * 7 := of_decide_eq_true (k2.2 _ (List.mem_cons_of_mem _ (List.mem_cons_of_mem _ (List.mem_cons_of_mem _ (List.mem_cons_of_mem _ (List.mem_cons_of_mem _ (List.mem_cons_of_mem _ (List.mem_cons_of_mem _ (List.mem_cons_of_mem _ (List.mem_cons_of_mem _ (List.mem_cons_self)))))))))))
  have p5 : ¬ ρ.1 3520 < 0 := of_decide_eq_false (k2.2 _ (List.mem_cons_of_mem _ (List.mem_cons_of_mem _ (List.mem_cons_of_mem _ (List.mem_cons_of_mem _ (List.mem_cons_of_mem _ (List.mem_cons_of_mem _ (List.mem_cons_of_mem _ (List.mem_cons_of_mem _ (List.mem_cons_of_mem _ (List.mem_cons_of_mem _ (List.mem_cons_self))))))))))))
  have p6 : ¬ 22 < ρ.1 3520 := of_decide_eq_false (k2.2 _ (List.mem_cons_of_mem _ (List.mem_cons_of_mem _ (List.mem_cons_of_mem _ (List.mem_cons_of_mem _ (List.mem_cons_of_mem _ (List.mem_cons_of_mem _ (List.mem_cons_of_mem _ (List.mem_cons_of_mem _ (List.mem_cons_of_mem _ (List.mem_cons_of_mem _ (List.mem_cons_of_mem _ (List.mem_cons_self)))))))))))))
  have kk2 : fok X ρ q_gk.2.2.1 := ⟨k2.1, fun f hf => k2.2 f (List.mem_of_mem_drop (i := 12) (show f ∈ List.drop 12 q_gk011.2.2.1 from hf))⟩
  have kk3 : iok X ρ q_gk.2.2.2 := fun f hf => k3 f (List.mem_of_mem_drop (i := 2) (show f ∈ List.drop 2 q_gk011.2.2.2 from hf))
  have zt : (22 : Int32).toInt = 22 := rfl
  rw [Int32.lt_iff_toInt_lt, zt] at p6
  have z0 : (0 : Int32).toInt = 0 := rfl
  have z1 : (1 : Int32).toInt = 1 := rfl
  have zq : (16 : Int32).toInt = 16 := rfl
  rw [Int32.lt_iff_toInt_lt, z1] at p2
  rw [Int32.lt_iff_toInt_lt, zq] at p3
  rw [Int32.lt_iff_toInt_lt, z0] at p5
  have hz : 0 ≤ (ρ.1 1306).toInt ∧ (ρ.1 1306).toInt ≤ 160 := gk_sz kk2
  have hp := pcs_b hz.1 hz.2
  have b0 : 0 < ρ.1 1306 := of_decide_eq_true b0
  rw [Int32.lt_iff_toInt_lt, z0] at b0
  have b3 : ρ.1 60192 < ρ.1 3552 := of_decide_eq_true b3
  rw [Int32.lt_iff_toInt_lt, ← p1] at b3
  rw [← p1] at p2 p3
  have hpc : (ρ.1 3520).toInt < pcsI (ρ.1 1306).toInt := by
    by_cases h0 : (ρ.1 1306).toInt = 0
    · have e : ρ.1 3520 = 0 := of_decide_eq_true (k3 _ (List.mem_cons_of_mem _ List.mem_cons_self) (fun f hf => by
        rw [List.mem_singleton.mp hf]
        exact decide_eq_true (Int32.toInt_inj.mp (show (ρ.1 1306).toInt = (0 : Int32).toInt by omega))))
      rw [e, z0]
      omega
    · have e : ρ.1 3520 * 7 < ρ.1 1306 := of_decide_eq_true (k3 _ List.mem_cons_self (fun f hf => by
        rw [List.mem_singleton.mp hf]
        exact decide_eq_false (fun q => h0 (by have q' := congrArg Int32.toInt (show ρ.1 1306 = 0 from q); omega))))
      have e' := Int32.lt_iff_toInt_lt.mp e
      have i7 : (ρ.1 3520 * 7).toInt = (ρ.1 3520).toInt * 7 := i_of (i_ml (i_s _) i_7) (by omega) (by omega)
      rw [i7] at e'
      omega
  have hpv : (ρ.1 1306 + 6) / 7 = Int32.ofInt (pcsI (ρ.1 1306).toInt) := by
    have e6 : (ρ.1 1306 + 6).toInt = (ρ.1 1306).toInt + 6 := i_of (i_ad (i_s _) rfl) (by omega) (by omega)
    have e7 : (7 : Int32).toInt = 7 := rfl
    have : pcsI (ρ.1 1306).toInt = ((ρ.1 1306).toInt + 6) / 7 := by unfold pcsI; rw [if_neg (by omega)]
    apply Int32.toInt_inj.mp
    rw [i_of (n := pcsI (ρ.1 1306).toInt) rfl (by omega) (by omega), this, Int32.toInt_div_of_ne_right _ _ (by decide), e6, e7, Int.tdiv_eq_ediv_of_nonneg (by omega)]
  have b2i : (ρ.1 3584).toInt = (ρ.1 60192).toInt := by rw [b2]
  have hlf : (ρ.1 60192).toInt = pcsI (ρ.1 1306).toInt - (ρ.1 3520).toInt := by
    rw [b1]
    refine i_of (n := pcsI (ρ.1 1306).toInt - (ρ.1 3520).toInt) ?_ (by omega) (by omega)
    exact i_sb hpv (i_s _)
  exact AT_of (q := q_gkF) rfl rfl (gk_first hv ρ k1 kk2 kk3 k4 (by omega) p4 hlf (by omega) (by omega) (by omega) (.inr ⟨b2i, by omega⟩) (by rw [b4, z0]; omega) (by rw [b4, z0]; omega) (.inr ⟨by rw [b4]; intro q; have q' := congrArg Int32.toInt q; rw [z0] at q'; omega, b5⟩) (by rw [b4, z0]; omega)))
theorem s_gbk {X : pX} : SREL X pF pdfl mt_all kR zVP c_gbk := SREL_QC kR_x kR_0 (Cs := []) (fun C hC => by cases hC) (d := 9) rfl c_gbk_f (Q := [q_gk000, q_gk001, q_gk010, q_gk011]) (fun ρ0 hv => fun q hq => by
    simp only [List.mem_cons, List.not_mem_nil, or_false] at hq
    rcases hq with hq | hq | hq | hq
    · rw [hq]; exact t_gk000 hv
    · rw [hq]; exact t_gk001 hv
    · rw [hq]; exact t_gk010 hv
    · rw [hq]; exact t_gk011 hv) (QC_run 200 e_gbk)
