/-! ===== the faults are over: Alarms.resetFaults and reset ===== -/
noncomputable def c_reset0 : sC := ((19, 343, 6), ([tr 49], [tr 219, .arg 1308]), ([49, 50, 51, 42, 43], [219, 228, 229, 290, 291, 292, 293, 220, 221, 260]), [((2, .int 6, .arg 1318), false), ((104, .add (.arg 6625) (.elem (.arg 2944) (.int 0)), .arg 1318), true)], ([1318, 1350, 20192, 6625, 7041, 60096], [2944, 2976]), (none, none), [((2, .int 6, .arg 1318), false), ((104, .add (.arg 6625) (.elem (.arg 2944) (.int 0)), .arg 1318), true), ((0, .arg 20192, .int 1), true)], (iv_al0, iv_al0))
theorem c_reset0_f : cfine zVQ 65536 c_reset0 = true := by decide +kernel
noncomputable def q_reset0_0_0 : sCut := ((fr 0 19 4 [(0, tr 49), (1, .int 0), (2, .arg 60096)] [], [fBot], 5), (fr 0 343 2 [(0, tr 219), (1, .arg 1308), (2, .int 0)] [], [fBot], 5), [((0, .arg 1318, .int 0), true), ((104, .add (.arg 6625) (.elem (.arg 2944) (.int 0)), .arg 1318), true), ((2, .arg 60096, .int 0), false), ((2, .int 6, .arg 60096), false)], iv_al0)
noncomputable def q_reset0_1_0 : sCut := ((fr 0 19 4 [(0, tr 49), (1, .int 0), (2, .arg 60096)] [], [fBot], 5), (fr 0 343 2 [(0, tr 219), (1, .arg 1308), (2, .int 0)] [], [fBot], 5), [((0, .arg 1318, .int 1), true), ((104, .add (.arg 6625) (.elem (.arg 2944) (.int 0)), .arg 1318), true), ((2, .arg 60096, .int 0), false), ((2, .int 5, .arg 60096), false)], iv_al0)
noncomputable def q_reset0_1_1 : sCut := ((fr 0 19 4 [(0, tr 49), (1, .int 1), (2, .arg 60096)] [], [fBot], 5), (fr 0 343 2 [(0, tr 219), (1, .arg 1308), (2, .int 1)] [], [fBot], 5), [((0, .arg 1318, .int 1), true), ((104, .add (.arg 6625) (.elem (.arg 2944) (.int 0)), .arg 1318), true), ((2, .arg 60096, .int 0), false), ((2, .int 6, .arg 60096), false)], iv_al0)
noncomputable def q_reset0_2_0 : sCut := ((fr 0 19 4 [(0, tr 49), (1, .int 0), (2, .arg 60096)] [], [fBot], 5), (fr 0 343 2 [(0, tr 219), (1, .arg 1308), (2, .int 0)] [], [fBot], 5), [((0, .arg 1318, .int 2), true), ((104, .add (.arg 6625) (.elem (.arg 2944) (.int 0)), .arg 1318), true), ((2, .arg 60096, .int 0), false), ((2, .int 4, .arg 60096), false)], iv_al0)
noncomputable def q_reset0_2_1 : sCut := ((fr 0 19 4 [(0, tr 49), (1, .int 1), (2, .arg 60096)] [], [fBot], 5), (fr 0 343 2 [(0, tr 219), (1, .arg 1308), (2, .int 1)] [], [fBot], 5), [((0, .arg 1318, .int 2), true), ((104, .add (.arg 6625) (.elem (.arg 2944) (.int 0)), .arg 1318), true), ((2, .arg 60096, .int 0), false), ((2, .int 5, .arg 60096), false)], iv_al0)
noncomputable def q_reset0_2_2 : sCut := ((fr 0 19 4 [(0, tr 49), (1, .int 2), (2, .arg 60096)] [], [fBot], 5), (fr 0 343 2 [(0, tr 219), (1, .arg 1308), (2, .int 2)] [], [fBot], 5), [((0, .arg 1318, .int 2), true), ((104, .add (.arg 6625) (.elem (.arg 2944) (.int 0)), .arg 1318), true), ((2, .arg 60096, .int 0), false), ((2, .int 6, .arg 60096), false)], iv_al0)
noncomputable def q_reset0_3_0 : sCut := ((fr 0 19 4 [(0, tr 49), (1, .int 0), (2, .arg 60096)] [], [fBot], 5), (fr 0 343 2 [(0, tr 219), (1, .arg 1308), (2, .int 0)] [], [fBot], 5), [((0, .arg 1318, .int 3), true), ((104, .add (.arg 6625) (.elem (.arg 2944) (.int 0)), .arg 1318), true), ((2, .arg 60096, .int 0), false), ((2, .int 3, .arg 60096), false)], iv_al0)
noncomputable def q_reset0_3_1 : sCut := ((fr 0 19 4 [(0, tr 49), (1, .int 1), (2, .arg 60096)] [], [fBot], 5), (fr 0 343 2 [(0, tr 219), (1, .arg 1308), (2, .int 1)] [], [fBot], 5), [((0, .arg 1318, .int 3), true), ((104, .add (.arg 6625) (.elem (.arg 2944) (.int 0)), .arg 1318), true), ((2, .arg 60096, .int 0), false), ((2, .int 4, .arg 60096), false)], iv_al0)
noncomputable def q_reset0_3_2 : sCut := ((fr 0 19 4 [(0, tr 49), (1, .int 2), (2, .arg 60096)] [], [fBot], 5), (fr 0 343 2 [(0, tr 219), (1, .arg 1308), (2, .int 2)] [], [fBot], 5), [((0, .arg 1318, .int 3), true), ((104, .add (.arg 6625) (.elem (.arg 2944) (.int 0)), .arg 1318), true), ((2, .arg 60096, .int 0), false), ((2, .int 5, .arg 60096), false)], iv_al0)
noncomputable def q_reset0_3_3 : sCut := ((fr 0 19 4 [(0, tr 49), (1, .int 3), (2, .arg 60096)] [], [fBot], 5), (fr 0 343 2 [(0, tr 219), (1, .arg 1308), (2, .int 3)] [], [fBot], 5), [((0, .arg 1318, .int 3), true), ((104, .add (.arg 6625) (.elem (.arg 2944) (.int 0)), .arg 1318), true), ((2, .arg 60096, .int 0), false), ((2, .int 6, .arg 60096), false)], iv_al0)
noncomputable def q_reset0_4_0 : sCut := ((fr 0 19 4 [(0, tr 49), (1, .int 0), (2, .arg 60096)] [], [fBot], 5), (fr 0 343 2 [(0, tr 219), (1, .arg 1308), (2, .int 0)] [], [fBot], 5), [((0, .arg 1318, .int 4), true), ((104, .add (.arg 6625) (.elem (.arg 2944) (.int 0)), .arg 1318), true), ((2, .arg 60096, .int 0), false), ((2, .int 2, .arg 60096), false)], iv_al0)
noncomputable def q_reset0_4_1 : sCut := ((fr 0 19 4 [(0, tr 49), (1, .int 1), (2, .arg 60096)] [], [fBot], 5), (fr 0 343 2 [(0, tr 219), (1, .arg 1308), (2, .int 1)] [], [fBot], 5), [((0, .arg 1318, .int 4), true), ((104, .add (.arg 6625) (.elem (.arg 2944) (.int 0)), .arg 1318), true), ((2, .arg 60096, .int 0), false), ((2, .int 3, .arg 60096), false)], iv_al0)
noncomputable def q_reset0_4_2 : sCut := ((fr 0 19 4 [(0, tr 49), (1, .int 2), (2, .arg 60096)] [], [fBot], 5), (fr 0 343 2 [(0, tr 219), (1, .arg 1308), (2, .int 2)] [], [fBot], 5), [((0, .arg 1318, .int 4), true), ((104, .add (.arg 6625) (.elem (.arg 2944) (.int 0)), .arg 1318), true), ((2, .arg 60096, .int 0), false), ((2, .int 4, .arg 60096), false)], iv_al0)
noncomputable def q_reset0_4_3 : sCut := ((fr 0 19 4 [(0, tr 49), (1, .int 3), (2, .arg 60096)] [], [fBot], 5), (fr 0 343 2 [(0, tr 219), (1, .arg 1308), (2, .int 3)] [], [fBot], 5), [((0, .arg 1318, .int 4), true), ((104, .add (.arg 6625) (.elem (.arg 2944) (.int 0)), .arg 1318), true), ((2, .arg 60096, .int 0), false), ((2, .int 5, .arg 60096), false)], iv_al0)
noncomputable def q_reset0_4_4 : sCut := ((fr 0 19 4 [(0, tr 49), (1, .int 4), (2, .arg 60096)] [], [fBot], 5), (fr 0 343 2 [(0, tr 219), (1, .arg 1308), (2, .int 4)] [], [fBot], 5), [((0, .arg 1318, .int 4), true), ((104, .add (.arg 6625) (.elem (.arg 2944) (.int 0)), .arg 1318), true), ((2, .arg 60096, .int 0), false), ((2, .int 6, .arg 60096), false)], iv_al0)
noncomputable def q_reset0_5_0 : sCut := ((fr 0 19 4 [(0, tr 49), (1, .int 0), (2, .arg 60096)] [], [fBot], 5), (fr 0 343 2 [(0, tr 219), (1, .arg 1308), (2, .int 0)] [], [fBot], 5), [((0, .arg 1318, .int 5), true), ((104, .add (.arg 6625) (.elem (.arg 2944) (.int 0)), .arg 1318), true), ((2, .arg 60096, .int 0), false), ((2, .int 1, .arg 60096), false)], iv_al0)
noncomputable def q_reset0_5_1 : sCut := ((fr 0 19 4 [(0, tr 49), (1, .int 1), (2, .arg 60096)] [], [fBot], 5), (fr 0 343 2 [(0, tr 219), (1, .arg 1308), (2, .int 1)] [], [fBot], 5), [((0, .arg 1318, .int 5), true), ((104, .add (.arg 6625) (.elem (.arg 2944) (.int 0)), .arg 1318), true), ((2, .arg 60096, .int 0), false), ((2, .int 2, .arg 60096), false)], iv_al0)
noncomputable def q_reset0_5_2 : sCut := ((fr 0 19 4 [(0, tr 49), (1, .int 2), (2, .arg 60096)] [], [fBot], 5), (fr 0 343 2 [(0, tr 219), (1, .arg 1308), (2, .int 2)] [], [fBot], 5), [((0, .arg 1318, .int 5), true), ((104, .add (.arg 6625) (.elem (.arg 2944) (.int 0)), .arg 1318), true), ((2, .arg 60096, .int 0), false), ((2, .int 3, .arg 60096), false)], iv_al0)
noncomputable def q_reset0_5_3 : sCut := ((fr 0 19 4 [(0, tr 49), (1, .int 3), (2, .arg 60096)] [], [fBot], 5), (fr 0 343 2 [(0, tr 219), (1, .arg 1308), (2, .int 3)] [], [fBot], 5), [((0, .arg 1318, .int 5), true), ((104, .add (.arg 6625) (.elem (.arg 2944) (.int 0)), .arg 1318), true), ((2, .arg 60096, .int 0), false), ((2, .int 4, .arg 60096), false)], iv_al0)
noncomputable def q_reset0_5_4 : sCut := ((fr 0 19 4 [(0, tr 49), (1, .int 4), (2, .arg 60096)] [], [fBot], 5), (fr 0 343 2 [(0, tr 219), (1, .arg 1308), (2, .int 4)] [], [fBot], 5), [((0, .arg 1318, .int 5), true), ((104, .add (.arg 6625) (.elem (.arg 2944) (.int 0)), .arg 1318), true), ((2, .arg 60096, .int 0), false), ((2, .int 5, .arg 60096), false)], iv_al0)
noncomputable def q_reset0_5_5 : sCut := ((fr 0 19 4 [(0, tr 49), (1, .int 5), (2, .arg 60096)] [], [fBot], 5), (fr 0 343 2 [(0, tr 219), (1, .arg 1308), (2, .int 5)] [], [fBot], 5), [((0, .arg 1318, .int 5), true), ((104, .add (.arg 6625) (.elem (.arg 2944) (.int 0)), .arg 1318), true), ((2, .arg 60096, .int 0), false), ((2, .int 6, .arg 60096), false)], iv_al0)
noncomputable def q_reset0_6_0 : sCut := ((fr 0 19 4 [(0, tr 49), (1, .int 0), (2, .arg 60096)] [], [fBot], 5), (fr 0 343 2 [(0, tr 219), (1, .arg 1308), (2, .int 0)] [], [fBot], 5), [((0, .arg 1318, .int 6), true), ((104, .add (.arg 6625) (.elem (.arg 2944) (.int 0)), .arg 1318), true), ((2, .arg 60096, .int 0), false), ((2, .int 0, .arg 60096), false)], iv_al0)
noncomputable def q_reset0_6_1 : sCut := ((fr 0 19 4 [(0, tr 49), (1, .int 1), (2, .arg 60096)] [], [fBot], 5), (fr 0 343 2 [(0, tr 219), (1, .arg 1308), (2, .int 1)] [], [fBot], 5), [((0, .arg 1318, .int 6), true), ((104, .add (.arg 6625) (.elem (.arg 2944) (.int 0)), .arg 1318), true), ((2, .arg 60096, .int 0), false), ((2, .int 1, .arg 60096), false)], iv_al0)
noncomputable def q_reset0_6_2 : sCut := ((fr 0 19 4 [(0, tr 49), (1, .int 2), (2, .arg 60096)] [], [fBot], 5), (fr 0 343 2 [(0, tr 219), (1, .arg 1308), (2, .int 2)] [], [fBot], 5), [((0, .arg 1318, .int 6), true), ((104, .add (.arg 6625) (.elem (.arg 2944) (.int 0)), .arg 1318), true), ((2, .arg 60096, .int 0), false), ((2, .int 2, .arg 60096), false)], iv_al0)
noncomputable def q_reset0_6_3 : sCut := ((fr 0 19 4 [(0, tr 49), (1, .int 3), (2, .arg 60096)] [], [fBot], 5), (fr 0 343 2 [(0, tr 219), (1, .arg 1308), (2, .int 3)] [], [fBot], 5), [((0, .arg 1318, .int 6), true), ((104, .add (.arg 6625) (.elem (.arg 2944) (.int 0)), .arg 1318), true), ((2, .arg 60096, .int 0), false), ((2, .int 3, .arg 60096), false)], iv_al0)
noncomputable def q_reset0_6_4 : sCut := ((fr 0 19 4 [(0, tr 49), (1, .int 4), (2, .arg 60096)] [], [fBot], 5), (fr 0 343 2 [(0, tr 219), (1, .arg 1308), (2, .int 4)] [], [fBot], 5), [((0, .arg 1318, .int 6), true), ((104, .add (.arg 6625) (.elem (.arg 2944) (.int 0)), .arg 1318), true), ((2, .arg 60096, .int 0), false), ((2, .int 4, .arg 60096), false)], iv_al0)
noncomputable def q_reset0_6_5 : sCut := ((fr 0 19 4 [(0, tr 49), (1, .int 5), (2, .arg 60096)] [], [fBot], 5), (fr 0 343 2 [(0, tr 219), (1, .arg 1308), (2, .int 5)] [], [fBot], 5), [((0, .arg 1318, .int 6), true), ((104, .add (.arg 6625) (.elem (.arg 2944) (.int 0)), .arg 1318), true), ((2, .arg 60096, .int 0), false), ((2, .int 5, .arg 60096), false)], iv_al0)
noncomputable def q_reset0_6_6 : sCut := ((fr 0 19 4 [(0, tr 49), (1, .int 6), (2, .arg 60096)] [], [fBot], 5), (fr 0 343 2 [(0, tr 219), (1, .arg 1308), (2, .int 6)] [], [fBot], 5), [((0, .arg 1318, .int 6), true), ((104, .add (.arg 6625) (.elem (.arg 2944) (.int 0)), .arg 1318), true), ((2, .arg 60096, .int 0), false), ((2, .int 6, .arg 60096), false)], iv_al0)
theorem k_reset0_0_0 : cbody kR [(zVP, c_drop0)] (cpl1 zVQ c_reset0 []) (cpl2 zVQ c_reset0 []) (cleaf kR zVQ c_reset0 []) 1000 true true q_reset0_0_0.2.2.1 q_reset0_0_0.2.2.2 (cst zVQ c_reset0.2.2.1.1 q_reset0_0_0.1) (cst zVQ c_reset0.2.2.1.2 q_reset0_0_0.2.1) = true := by decide +kernel
theorem t_reset0_0_0 {X : pX} {ρ0 : sR} (hv : vok X ρ0) : CUTOK X kR zVQ c_reset0 5 ρ0 q_reset0_0_0 := CUT_run kR_x kR_0 (Cs := [(zVP, c_drop0)]) (fun C hC => by rw [List.mem_singleton.mp hC]; exact s_drop0) c_reset0_f (Q := []) hv (fun q hq => by cases hq) 1000 (b1 := true) (b2 := true) k_reset0_0_0
theorem k_reset0_1_1 : cbody kR [(zVP, c_drop0)] (cpl1 zVQ c_reset0 []) (cpl2 zVQ c_reset0 []) (cleaf kR zVQ c_reset0 []) 1000 true true q_reset0_1_1.2.2.1 q_reset0_1_1.2.2.2 (cst zVQ c_reset0.2.2.1.1 q_reset0_1_1.1) (cst zVQ c_reset0.2.2.1.2 q_reset0_1_1.2.1) = true := by decide +kernel
theorem t_reset0_1_1 {X : pX} {ρ0 : sR} (hv : vok X ρ0) : CUTOK X kR zVQ c_reset0 5 ρ0 q_reset0_1_1 := CUT_run kR_x kR_0 (Cs := [(zVP, c_drop0)]) (fun C hC => by rw [List.mem_singleton.mp hC]; exact s_drop0) c_reset0_f (Q := []) hv (fun q hq => by cases hq) 1000 (b1 := true) (b2 := true) k_reset0_1_1
theorem k_reset0_1_0 : cbody kR [(zVP, c_drop0)] (cpl1 zVQ c_reset0 [q_reset0_1_1, q_reset0_0_0]) (cpl2 zVQ c_reset0 [q_reset0_1_1, q_reset0_0_0]) (cleaf kR zVQ c_reset0 [q_reset0_1_1, q_reset0_0_0]) 1000 true true q_reset0_1_0.2.2.1 q_reset0_1_0.2.2.2 (cst zVQ c_reset0.2.2.1.1 q_reset0_1_0.1) (cst zVQ c_reset0.2.2.1.2 q_reset0_1_0.2.1) = true := by decide +kernel
theorem t_reset0_1_0 {X : pX} {ρ0 : sR} (hv : vok X ρ0) : CUTOK X kR zVQ c_reset0 5 ρ0 q_reset0_1_0 := CUT_run kR_x kR_0 (Cs := [(zVP, c_drop0)]) (fun C hC => by rw [List.mem_singleton.mp hC]; exact s_drop0) c_reset0_f (Q := [q_reset0_1_1, q_reset0_0_0]) hv (fun q hq => by
    simp only [List.mem_cons, List.not_mem_nil, or_false] at hq
    rcases hq with hq | hq
    · rw [hq]; exact t_reset0_1_1 hv
    · rw [hq]; exact t_reset0_0_0 hv) 1000 (b1 := true) (b2 := true) k_reset0_1_0
theorem k_reset0_2_2 : cbody kR [(zVP, c_drop0)] (cpl1 zVQ c_reset0 []) (cpl2 zVQ c_reset0 []) (cleaf kR zVQ c_reset0 []) 1000 true true q_reset0_2_2.2.2.1 q_reset0_2_2.2.2.2 (cst zVQ c_reset0.2.2.1.1 q_reset0_2_2.1) (cst zVQ c_reset0.2.2.1.2 q_reset0_2_2.2.1) = true := by decide +kernel
theorem t_reset0_2_2 {X : pX} {ρ0 : sR} (hv : vok X ρ0) : CUTOK X kR zVQ c_reset0 5 ρ0 q_reset0_2_2 := CUT_run kR_x kR_0 (Cs := [(zVP, c_drop0)]) (fun C hC => by rw [List.mem_singleton.mp hC]; exact s_drop0) c_reset0_f (Q := []) hv (fun q hq => by cases hq) 1000 (b1 := true) (b2 := true) k_reset0_2_2
theorem k_reset0_2_1 : cbody kR [(zVP, c_drop0)] (cpl1 zVQ c_reset0 [q_reset0_2_2, q_reset0_1_1]) (cpl2 zVQ c_reset0 [q_reset0_2_2, q_reset0_1_1]) (cleaf kR zVQ c_reset0 [q_reset0_2_2, q_reset0_1_1]) 1000 true true q_reset0_2_1.2.2.1 q_reset0_2_1.2.2.2 (cst zVQ c_reset0.2.2.1.1 q_reset0_2_1.1) (cst zVQ c_reset0.2.2.1.2 q_reset0_2_1.2.1) = true := by decide +kernel
theorem t_reset0_2_1 {X : pX} {ρ0 : sR} (hv : vok X ρ0) : CUTOK X kR zVQ c_reset0 5 ρ0 q_reset0_2_1 := CUT_run kR_x kR_0 (Cs := [(zVP, c_drop0)]) (fun C hC => by rw [List.mem_singleton.mp hC]; exact s_drop0) c_reset0_f (Q := [q_reset0_2_2, q_reset0_1_1]) hv (fun q hq => by
    simp only [List.mem_cons, List.not_mem_nil, or_false] at hq
    rcases hq with hq | hq
    · rw [hq]; exact t_reset0_2_2 hv
    · rw [hq]; exact t_reset0_1_1 hv) 1000 (b1 := true) (b2 := true) k_reset0_2_1
theorem k_reset0_2_0 : cbody kR [(zVP, c_drop0)] (cpl1 zVQ c_reset0 [q_reset0_2_1, q_reset0_1_0]) (cpl2 zVQ c_reset0 [q_reset0_2_1, q_reset0_1_0]) (cleaf kR zVQ c_reset0 [q_reset0_2_1, q_reset0_1_0]) 1000 true true q_reset0_2_0.2.2.1 q_reset0_2_0.2.2.2 (cst zVQ c_reset0.2.2.1.1 q_reset0_2_0.1) (cst zVQ c_reset0.2.2.1.2 q_reset0_2_0.2.1) = true := by decide +kernel
theorem t_reset0_2_0 {X : pX} {ρ0 : sR} (hv : vok X ρ0) : CUTOK X kR zVQ c_reset0 5 ρ0 q_reset0_2_0 := CUT_run kR_x kR_0 (Cs := [(zVP, c_drop0)]) (fun C hC => by rw [List.mem_singleton.mp hC]; exact s_drop0) c_reset0_f (Q := [q_reset0_2_1, q_reset0_1_0]) hv (fun q hq => by
    simp only [List.mem_cons, List.not_mem_nil, or_false] at hq
    rcases hq with hq | hq
    · rw [hq]; exact t_reset0_2_1 hv
    · rw [hq]; exact t_reset0_1_0 hv) 1000 (b1 := true) (b2 := true) k_reset0_2_0
theorem k_reset0_3_3 : cbody kR [(zVP, c_drop0)] (cpl1 zVQ c_reset0 []) (cpl2 zVQ c_reset0 []) (cleaf kR zVQ c_reset0 []) 1000 true true q_reset0_3_3.2.2.1 q_reset0_3_3.2.2.2 (cst zVQ c_reset0.2.2.1.1 q_reset0_3_3.1) (cst zVQ c_reset0.2.2.1.2 q_reset0_3_3.2.1) = true := by decide +kernel
theorem t_reset0_3_3 {X : pX} {ρ0 : sR} (hv : vok X ρ0) : CUTOK X kR zVQ c_reset0 5 ρ0 q_reset0_3_3 := CUT_run kR_x kR_0 (Cs := [(zVP, c_drop0)]) (fun C hC => by rw [List.mem_singleton.mp hC]; exact s_drop0) c_reset0_f (Q := []) hv (fun q hq => by cases hq) 1000 (b1 := true) (b2 := true) k_reset0_3_3
theorem k_reset0_3_2 : cbody kR [(zVP, c_drop0)] (cpl1 zVQ c_reset0 [q_reset0_3_3, q_reset0_2_2]) (cpl2 zVQ c_reset0 [q_reset0_3_3, q_reset0_2_2]) (cleaf kR zVQ c_reset0 [q_reset0_3_3, q_reset0_2_2]) 1000 true true q_reset0_3_2.2.2.1 q_reset0_3_2.2.2.2 (cst zVQ c_reset0.2.2.1.1 q_reset0_3_2.1) (cst zVQ c_reset0.2.2.1.2 q_reset0_3_2.2.1) = true := by decide +kernel
theorem t_reset0_3_2 {X : pX} {ρ0 : sR} (hv : vok X ρ0) : CUTOK X kR zVQ c_reset0 5 ρ0 q_reset0_3_2 := CUT_run kR_x kR_0 (Cs := [(zVP, c_drop0)]) (fun C hC => by rw [List.mem_singleton.mp hC]; exact s_drop0) c_reset0_f (Q := [q_reset0_3_3, q_reset0_2_2]) hv (fun q hq => by
    simp only [List.mem_cons, List.not_mem_nil, or_false] at hq
    rcases hq with hq | hq
    · rw [hq]; exact t_reset0_3_3 hv
    · rw [hq]; exact t_reset0_2_2 hv) 1000 (b1 := true) (b2 := true) k_reset0_3_2
theorem k_reset0_3_1 : cbody kR [(zVP, c_drop0)] (cpl1 zVQ c_reset0 [q_reset0_3_2, q_reset0_2_1]) (cpl2 zVQ c_reset0 [q_reset0_3_2, q_reset0_2_1]) (cleaf kR zVQ c_reset0 [q_reset0_3_2, q_reset0_2_1]) 1000 true true q_reset0_3_1.2.2.1 q_reset0_3_1.2.2.2 (cst zVQ c_reset0.2.2.1.1 q_reset0_3_1.1) (cst zVQ c_reset0.2.2.1.2 q_reset0_3_1.2.1) = true := by decide +kernel
theorem t_reset0_3_1 {X : pX} {ρ0 : sR} (hv : vok X ρ0) : CUTOK X kR zVQ c_reset0 5 ρ0 q_reset0_3_1 := CUT_run kR_x kR_0 (Cs := [(zVP, c_drop0)]) (fun C hC => by rw [List.mem_singleton.mp hC]; exact s_drop0) c_reset0_f (Q := [q_reset0_3_2, q_reset0_2_1]) hv (fun q hq => by
    simp only [List.mem_cons, List.not_mem_nil, or_false] at hq
    rcases hq with hq | hq
    · rw [hq]; exact t_reset0_3_2 hv
    · rw [hq]; exact t_reset0_2_1 hv) 1000 (b1 := true) (b2 := true) k_reset0_3_1
theorem k_reset0_3_0 : cbody kR [(zVP, c_drop0)] (cpl1 zVQ c_reset0 [q_reset0_3_1, q_reset0_2_0]) (cpl2 zVQ c_reset0 [q_reset0_3_1, q_reset0_2_0]) (cleaf kR zVQ c_reset0 [q_reset0_3_1, q_reset0_2_0]) 1000 true true q_reset0_3_0.2.2.1 q_reset0_3_0.2.2.2 (cst zVQ c_reset0.2.2.1.1 q_reset0_3_0.1) (cst zVQ c_reset0.2.2.1.2 q_reset0_3_0.2.1) = true := by decide +kernel
theorem t_reset0_3_0 {X : pX} {ρ0 : sR} (hv : vok X ρ0) : CUTOK X kR zVQ c_reset0 5 ρ0 q_reset0_3_0 := CUT_run kR_x kR_0 (Cs := [(zVP, c_drop0)]) (fun C hC => by rw [List.mem_singleton.mp hC]; exact s_drop0) c_reset0_f (Q := [q_reset0_3_1, q_reset0_2_0]) hv (fun q hq => by
    simp only [List.mem_cons, List.not_mem_nil, or_false] at hq
    rcases hq with hq | hq
    · rw [hq]; exact t_reset0_3_1 hv
    · rw [hq]; exact t_reset0_2_0 hv) 1000 (b1 := true) (b2 := true) k_reset0_3_0
theorem k_reset0_4_4 : cbody kR [(zVP, c_drop0)] (cpl1 zVQ c_reset0 []) (cpl2 zVQ c_reset0 []) (cleaf kR zVQ c_reset0 []) 1000 true true q_reset0_4_4.2.2.1 q_reset0_4_4.2.2.2 (cst zVQ c_reset0.2.2.1.1 q_reset0_4_4.1) (cst zVQ c_reset0.2.2.1.2 q_reset0_4_4.2.1) = true := by decide +kernel
theorem t_reset0_4_4 {X : pX} {ρ0 : sR} (hv : vok X ρ0) : CUTOK X kR zVQ c_reset0 5 ρ0 q_reset0_4_4 := CUT_run kR_x kR_0 (Cs := [(zVP, c_drop0)]) (fun C hC => by rw [List.mem_singleton.mp hC]; exact s_drop0) c_reset0_f (Q := []) hv (fun q hq => by cases hq) 1000 (b1 := true) (b2 := true) k_reset0_4_4
theorem k_reset0_4_3 : cbody kR [(zVP, c_drop0)] (cpl1 zVQ c_reset0 [q_reset0_4_4, q_reset0_3_3]) (cpl2 zVQ c_reset0 [q_reset0_4_4, q_reset0_3_3]) (cleaf kR zVQ c_reset0 [q_reset0_4_4, q_reset0_3_3]) 1000 true true q_reset0_4_3.2.2.1 q_reset0_4_3.2.2.2 (cst zVQ c_reset0.2.2.1.1 q_reset0_4_3.1) (cst zVQ c_reset0.2.2.1.2 q_reset0_4_3.2.1) = true := by decide +kernel
theorem t_reset0_4_3 {X : pX} {ρ0 : sR} (hv : vok X ρ0) : CUTOK X kR zVQ c_reset0 5 ρ0 q_reset0_4_3 := CUT_run kR_x kR_0 (Cs := [(zVP, c_drop0)]) (fun C hC => by rw [List.mem_singleton.mp hC]; exact s_drop0) c_reset0_f (Q := [q_reset0_4_4, q_reset0_3_3]) hv (fun q hq => by
    simp only [List.mem_cons, List.not_mem_nil, or_false] at hq
    rcases hq with hq | hq
    · rw [hq]; exact t_reset0_4_4 hv
    · rw [hq]; exact t_reset0_3_3 hv) 1000 (b1 := true) (b2 := true) k_reset0_4_3
theorem k_reset0_4_2 : cbody kR [(zVP, c_drop0)] (cpl1 zVQ c_reset0 [q_reset0_4_3, q_reset0_3_2]) (cpl2 zVQ c_reset0 [q_reset0_4_3, q_reset0_3_2]) (cleaf kR zVQ c_reset0 [q_reset0_4_3, q_reset0_3_2]) 1000 true true q_reset0_4_2.2.2.1 q_reset0_4_2.2.2.2 (cst zVQ c_reset0.2.2.1.1 q_reset0_4_2.1) (cst zVQ c_reset0.2.2.1.2 q_reset0_4_2.2.1) = true := by decide +kernel
theorem t_reset0_4_2 {X : pX} {ρ0 : sR} (hv : vok X ρ0) : CUTOK X kR zVQ c_reset0 5 ρ0 q_reset0_4_2 := CUT_run kR_x kR_0 (Cs := [(zVP, c_drop0)]) (fun C hC => by rw [List.mem_singleton.mp hC]; exact s_drop0) c_reset0_f (Q := [q_reset0_4_3, q_reset0_3_2]) hv (fun q hq => by
    simp only [List.mem_cons, List.not_mem_nil, or_false] at hq
    rcases hq with hq | hq
    · rw [hq]; exact t_reset0_4_3 hv
    · rw [hq]; exact t_reset0_3_2 hv) 1000 (b1 := true) (b2 := true) k_reset0_4_2
theorem k_reset0_4_1 : cbody kR [(zVP, c_drop0)] (cpl1 zVQ c_reset0 [q_reset0_4_2, q_reset0_3_1]) (cpl2 zVQ c_reset0 [q_reset0_4_2, q_reset0_3_1]) (cleaf kR zVQ c_reset0 [q_reset0_4_2, q_reset0_3_1]) 1000 true true q_reset0_4_1.2.2.1 q_reset0_4_1.2.2.2 (cst zVQ c_reset0.2.2.1.1 q_reset0_4_1.1) (cst zVQ c_reset0.2.2.1.2 q_reset0_4_1.2.1) = true := by decide +kernel
theorem t_reset0_4_1 {X : pX} {ρ0 : sR} (hv : vok X ρ0) : CUTOK X kR zVQ c_reset0 5 ρ0 q_reset0_4_1 := CUT_run kR_x kR_0 (Cs := [(zVP, c_drop0)]) (fun C hC => by rw [List.mem_singleton.mp hC]; exact s_drop0) c_reset0_f (Q := [q_reset0_4_2, q_reset0_3_1]) hv (fun q hq => by
    simp only [List.mem_cons, List.not_mem_nil, or_false] at hq
    rcases hq with hq | hq
    · rw [hq]; exact t_reset0_4_2 hv
    · rw [hq]; exact t_reset0_3_1 hv) 1000 (b1 := true) (b2 := true) k_reset0_4_1
theorem k_reset0_4_0 : cbody kR [(zVP, c_drop0)] (cpl1 zVQ c_reset0 [q_reset0_4_1, q_reset0_3_0]) (cpl2 zVQ c_reset0 [q_reset0_4_1, q_reset0_3_0]) (cleaf kR zVQ c_reset0 [q_reset0_4_1, q_reset0_3_0]) 1000 true true q_reset0_4_0.2.2.1 q_reset0_4_0.2.2.2 (cst zVQ c_reset0.2.2.1.1 q_reset0_4_0.1) (cst zVQ c_reset0.2.2.1.2 q_reset0_4_0.2.1) = true := by decide +kernel
theorem t_reset0_4_0 {X : pX} {ρ0 : sR} (hv : vok X ρ0) : CUTOK X kR zVQ c_reset0 5 ρ0 q_reset0_4_0 := CUT_run kR_x kR_0 (Cs := [(zVP, c_drop0)]) (fun C hC => by rw [List.mem_singleton.mp hC]; exact s_drop0) c_reset0_f (Q := [q_reset0_4_1, q_reset0_3_0]) hv (fun q hq => by
    simp only [List.mem_cons, List.not_mem_nil, or_false] at hq
    rcases hq with hq | hq
    · rw [hq]; exact t_reset0_4_1 hv
    · rw [hq]; exact t_reset0_3_0 hv) 1000 (b1 := true) (b2 := true) k_reset0_4_0
theorem k_reset0_5_5 : cbody kR [(zVP, c_drop0)] (cpl1 zVQ c_reset0 []) (cpl2 zVQ c_reset0 []) (cleaf kR zVQ c_reset0 []) 1000 true true q_reset0_5_5.2.2.1 q_reset0_5_5.2.2.2 (cst zVQ c_reset0.2.2.1.1 q_reset0_5_5.1) (cst zVQ c_reset0.2.2.1.2 q_reset0_5_5.2.1) = true := by decide +kernel
theorem t_reset0_5_5 {X : pX} {ρ0 : sR} (hv : vok X ρ0) : CUTOK X kR zVQ c_reset0 5 ρ0 q_reset0_5_5 := CUT_run kR_x kR_0 (Cs := [(zVP, c_drop0)]) (fun C hC => by rw [List.mem_singleton.mp hC]; exact s_drop0) c_reset0_f (Q := []) hv (fun q hq => by cases hq) 1000 (b1 := true) (b2 := true) k_reset0_5_5
theorem k_reset0_5_4 : cbody kR [(zVP, c_drop0)] (cpl1 zVQ c_reset0 [q_reset0_5_5, q_reset0_4_4]) (cpl2 zVQ c_reset0 [q_reset0_5_5, q_reset0_4_4]) (cleaf kR zVQ c_reset0 [q_reset0_5_5, q_reset0_4_4]) 1000 true true q_reset0_5_4.2.2.1 q_reset0_5_4.2.2.2 (cst zVQ c_reset0.2.2.1.1 q_reset0_5_4.1) (cst zVQ c_reset0.2.2.1.2 q_reset0_5_4.2.1) = true := by decide +kernel
theorem t_reset0_5_4 {X : pX} {ρ0 : sR} (hv : vok X ρ0) : CUTOK X kR zVQ c_reset0 5 ρ0 q_reset0_5_4 := CUT_run kR_x kR_0 (Cs := [(zVP, c_drop0)]) (fun C hC => by rw [List.mem_singleton.mp hC]; exact s_drop0) c_reset0_f (Q := [q_reset0_5_5, q_reset0_4_4]) hv (fun q hq => by
    simp only [List.mem_cons, List.not_mem_nil, or_false] at hq
    rcases hq with hq | hq
    · rw [hq]; exact t_reset0_5_5 hv
    · rw [hq]; exact t_reset0_4_4 hv) 1000 (b1 := true) (b2 := true) k_reset0_5_4
theorem k_reset0_5_3 : cbody kR [(zVP, c_drop0)] (cpl1 zVQ c_reset0 [q_reset0_5_4, q_reset0_4_3]) (cpl2 zVQ c_reset0 [q_reset0_5_4, q_reset0_4_3]) (cleaf kR zVQ c_reset0 [q_reset0_5_4, q_reset0_4_3]) 1000 true true q_reset0_5_3.2.2.1 q_reset0_5_3.2.2.2 (cst zVQ c_reset0.2.2.1.1 q_reset0_5_3.1) (cst zVQ c_reset0.2.2.1.2 q_reset0_5_3.2.1) = true := by decide +kernel
theorem t_reset0_5_3 {X : pX} {ρ0 : sR} (hv : vok X ρ0) : CUTOK X kR zVQ c_reset0 5 ρ0 q_reset0_5_3 := CUT_run kR_x kR_0 (Cs := [(zVP, c_drop0)]) (fun C hC => by rw [List.mem_singleton.mp hC]; exact s_drop0) c_reset0_f (Q := [q_reset0_5_4, q_reset0_4_3]) hv (fun q hq => by
    simp only [List.mem_cons, List.not_mem_nil, or_false] at hq
    rcases hq with hq | hq
    · rw [hq]; exact t_reset0_5_4 hv
    · rw [hq]; exact t_reset0_4_3 hv) 1000 (b1 := true) (b2 := true) k_reset0_5_3
theorem k_reset0_5_2 : cbody kR [(zVP, c_drop0)] (cpl1 zVQ c_reset0 [q_reset0_5_3, q_reset0_4_2]) (cpl2 zVQ c_reset0 [q_reset0_5_3, q_reset0_4_2]) (cleaf kR zVQ c_reset0 [q_reset0_5_3, q_reset0_4_2]) 1000 true true q_reset0_5_2.2.2.1 q_reset0_5_2.2.2.2 (cst zVQ c_reset0.2.2.1.1 q_reset0_5_2.1) (cst zVQ c_reset0.2.2.1.2 q_reset0_5_2.2.1) = true := by decide +kernel
theorem t_reset0_5_2 {X : pX} {ρ0 : sR} (hv : vok X ρ0) : CUTOK X kR zVQ c_reset0 5 ρ0 q_reset0_5_2 := CUT_run kR_x kR_0 (Cs := [(zVP, c_drop0)]) (fun C hC => by rw [List.mem_singleton.mp hC]; exact s_drop0) c_reset0_f (Q := [q_reset0_5_3, q_reset0_4_2]) hv (fun q hq => by
    simp only [List.mem_cons, List.not_mem_nil, or_false] at hq
    rcases hq with hq | hq
    · rw [hq]; exact t_reset0_5_3 hv
    · rw [hq]; exact t_reset0_4_2 hv) 1000 (b1 := true) (b2 := true) k_reset0_5_2
theorem k_reset0_5_1 : cbody kR [(zVP, c_drop0)] (cpl1 zVQ c_reset0 [q_reset0_5_2, q_reset0_4_1]) (cpl2 zVQ c_reset0 [q_reset0_5_2, q_reset0_4_1]) (cleaf kR zVQ c_reset0 [q_reset0_5_2, q_reset0_4_1]) 1000 true true q_reset0_5_1.2.2.1 q_reset0_5_1.2.2.2 (cst zVQ c_reset0.2.2.1.1 q_reset0_5_1.1) (cst zVQ c_reset0.2.2.1.2 q_reset0_5_1.2.1) = true := by decide +kernel
theorem t_reset0_5_1 {X : pX} {ρ0 : sR} (hv : vok X ρ0) : CUTOK X kR zVQ c_reset0 5 ρ0 q_reset0_5_1 := CUT_run kR_x kR_0 (Cs := [(zVP, c_drop0)]) (fun C hC => by rw [List.mem_singleton.mp hC]; exact s_drop0) c_reset0_f (Q := [q_reset0_5_2, q_reset0_4_1]) hv (fun q hq => by
    simp only [List.mem_cons, List.not_mem_nil, or_false] at hq
    rcases hq with hq | hq
    · rw [hq]; exact t_reset0_5_2 hv
    · rw [hq]; exact t_reset0_4_1 hv) 1000 (b1 := true) (b2 := true) k_reset0_5_1
theorem k_reset0_5_0 : cbody kR [(zVP, c_drop0)] (cpl1 zVQ c_reset0 [q_reset0_5_1, q_reset0_4_0]) (cpl2 zVQ c_reset0 [q_reset0_5_1, q_reset0_4_0]) (cleaf kR zVQ c_reset0 [q_reset0_5_1, q_reset0_4_0]) 1000 true true q_reset0_5_0.2.2.1 q_reset0_5_0.2.2.2 (cst zVQ c_reset0.2.2.1.1 q_reset0_5_0.1) (cst zVQ c_reset0.2.2.1.2 q_reset0_5_0.2.1) = true := by decide +kernel
theorem t_reset0_5_0 {X : pX} {ρ0 : sR} (hv : vok X ρ0) : CUTOK X kR zVQ c_reset0 5 ρ0 q_reset0_5_0 := CUT_run kR_x kR_0 (Cs := [(zVP, c_drop0)]) (fun C hC => by rw [List.mem_singleton.mp hC]; exact s_drop0) c_reset0_f (Q := [q_reset0_5_1, q_reset0_4_0]) hv (fun q hq => by
    simp only [List.mem_cons, List.not_mem_nil, or_false] at hq
    rcases hq with hq | hq
    · rw [hq]; exact t_reset0_5_1 hv
    · rw [hq]; exact t_reset0_4_0 hv) 1000 (b1 := true) (b2 := true) k_reset0_5_0
theorem k_reset0_6_6 : cbody kR [(zVP, c_drop0)] (cpl1 zVQ c_reset0 []) (cpl2 zVQ c_reset0 []) (cleaf kR zVQ c_reset0 []) 1000 true true q_reset0_6_6.2.2.1 q_reset0_6_6.2.2.2 (cst zVQ c_reset0.2.2.1.1 q_reset0_6_6.1) (cst zVQ c_reset0.2.2.1.2 q_reset0_6_6.2.1) = true := by decide +kernel
theorem t_reset0_6_6 {X : pX} {ρ0 : sR} (hv : vok X ρ0) : CUTOK X kR zVQ c_reset0 5 ρ0 q_reset0_6_6 := CUT_run kR_x kR_0 (Cs := [(zVP, c_drop0)]) (fun C hC => by rw [List.mem_singleton.mp hC]; exact s_drop0) c_reset0_f (Q := []) hv (fun q hq => by cases hq) 1000 (b1 := true) (b2 := true) k_reset0_6_6
theorem k_reset0_6_5 : cbody kR [(zVP, c_drop0)] (cpl1 zVQ c_reset0 [q_reset0_6_6, q_reset0_5_5]) (cpl2 zVQ c_reset0 [q_reset0_6_6, q_reset0_5_5]) (cleaf kR zVQ c_reset0 [q_reset0_6_6, q_reset0_5_5]) 1000 true true q_reset0_6_5.2.2.1 q_reset0_6_5.2.2.2 (cst zVQ c_reset0.2.2.1.1 q_reset0_6_5.1) (cst zVQ c_reset0.2.2.1.2 q_reset0_6_5.2.1) = true := by decide +kernel
theorem t_reset0_6_5 {X : pX} {ρ0 : sR} (hv : vok X ρ0) : CUTOK X kR zVQ c_reset0 5 ρ0 q_reset0_6_5 := CUT_run kR_x kR_0 (Cs := [(zVP, c_drop0)]) (fun C hC => by rw [List.mem_singleton.mp hC]; exact s_drop0) c_reset0_f (Q := [q_reset0_6_6, q_reset0_5_5]) hv (fun q hq => by
    simp only [List.mem_cons, List.not_mem_nil, or_false] at hq
    rcases hq with hq | hq
    · rw [hq]; exact t_reset0_6_6 hv
    · rw [hq]; exact t_reset0_5_5 hv) 1000 (b1 := true) (b2 := true) k_reset0_6_5
theorem k_reset0_6_4 : cbody kR [(zVP, c_drop0)] (cpl1 zVQ c_reset0 [q_reset0_6_5, q_reset0_5_4]) (cpl2 zVQ c_reset0 [q_reset0_6_5, q_reset0_5_4]) (cleaf kR zVQ c_reset0 [q_reset0_6_5, q_reset0_5_4]) 1000 true true q_reset0_6_4.2.2.1 q_reset0_6_4.2.2.2 (cst zVQ c_reset0.2.2.1.1 q_reset0_6_4.1) (cst zVQ c_reset0.2.2.1.2 q_reset0_6_4.2.1) = true := by decide +kernel
theorem t_reset0_6_4 {X : pX} {ρ0 : sR} (hv : vok X ρ0) : CUTOK X kR zVQ c_reset0 5 ρ0 q_reset0_6_4 := CUT_run kR_x kR_0 (Cs := [(zVP, c_drop0)]) (fun C hC => by rw [List.mem_singleton.mp hC]; exact s_drop0) c_reset0_f (Q := [q_reset0_6_5, q_reset0_5_4]) hv (fun q hq => by
    simp only [List.mem_cons, List.not_mem_nil, or_false] at hq
    rcases hq with hq | hq
    · rw [hq]; exact t_reset0_6_5 hv
    · rw [hq]; exact t_reset0_5_4 hv) 1000 (b1 := true) (b2 := true) k_reset0_6_4
theorem k_reset0_6_3 : cbody kR [(zVP, c_drop0)] (cpl1 zVQ c_reset0 [q_reset0_6_4, q_reset0_5_3]) (cpl2 zVQ c_reset0 [q_reset0_6_4, q_reset0_5_3]) (cleaf kR zVQ c_reset0 [q_reset0_6_4, q_reset0_5_3]) 1000 true true q_reset0_6_3.2.2.1 q_reset0_6_3.2.2.2 (cst zVQ c_reset0.2.2.1.1 q_reset0_6_3.1) (cst zVQ c_reset0.2.2.1.2 q_reset0_6_3.2.1) = true := by decide +kernel
theorem t_reset0_6_3 {X : pX} {ρ0 : sR} (hv : vok X ρ0) : CUTOK X kR zVQ c_reset0 5 ρ0 q_reset0_6_3 := CUT_run kR_x kR_0 (Cs := [(zVP, c_drop0)]) (fun C hC => by rw [List.mem_singleton.mp hC]; exact s_drop0) c_reset0_f (Q := [q_reset0_6_4, q_reset0_5_3]) hv (fun q hq => by
    simp only [List.mem_cons, List.not_mem_nil, or_false] at hq
    rcases hq with hq | hq
    · rw [hq]; exact t_reset0_6_4 hv
    · rw [hq]; exact t_reset0_5_3 hv) 1000 (b1 := true) (b2 := true) k_reset0_6_3
theorem k_reset0_6_2 : cbody kR [(zVP, c_drop0)] (cpl1 zVQ c_reset0 [q_reset0_6_3, q_reset0_5_2]) (cpl2 zVQ c_reset0 [q_reset0_6_3, q_reset0_5_2]) (cleaf kR zVQ c_reset0 [q_reset0_6_3, q_reset0_5_2]) 1000 true true q_reset0_6_2.2.2.1 q_reset0_6_2.2.2.2 (cst zVQ c_reset0.2.2.1.1 q_reset0_6_2.1) (cst zVQ c_reset0.2.2.1.2 q_reset0_6_2.2.1) = true := by decide +kernel
theorem t_reset0_6_2 {X : pX} {ρ0 : sR} (hv : vok X ρ0) : CUTOK X kR zVQ c_reset0 5 ρ0 q_reset0_6_2 := CUT_run kR_x kR_0 (Cs := [(zVP, c_drop0)]) (fun C hC => by rw [List.mem_singleton.mp hC]; exact s_drop0) c_reset0_f (Q := [q_reset0_6_3, q_reset0_5_2]) hv (fun q hq => by
    simp only [List.mem_cons, List.not_mem_nil, or_false] at hq
    rcases hq with hq | hq
    · rw [hq]; exact t_reset0_6_3 hv
    · rw [hq]; exact t_reset0_5_2 hv) 1000 (b1 := true) (b2 := true) k_reset0_6_2
theorem k_reset0_6_1 : cbody kR [(zVP, c_drop0)] (cpl1 zVQ c_reset0 [q_reset0_6_2, q_reset0_5_1]) (cpl2 zVQ c_reset0 [q_reset0_6_2, q_reset0_5_1]) (cleaf kR zVQ c_reset0 [q_reset0_6_2, q_reset0_5_1]) 1000 true true q_reset0_6_1.2.2.1 q_reset0_6_1.2.2.2 (cst zVQ c_reset0.2.2.1.1 q_reset0_6_1.1) (cst zVQ c_reset0.2.2.1.2 q_reset0_6_1.2.1) = true := by decide +kernel
theorem t_reset0_6_1 {X : pX} {ρ0 : sR} (hv : vok X ρ0) : CUTOK X kR zVQ c_reset0 5 ρ0 q_reset0_6_1 := CUT_run kR_x kR_0 (Cs := [(zVP, c_drop0)]) (fun C hC => by rw [List.mem_singleton.mp hC]; exact s_drop0) c_reset0_f (Q := [q_reset0_6_2, q_reset0_5_1]) hv (fun q hq => by
    simp only [List.mem_cons, List.not_mem_nil, or_false] at hq
    rcases hq with hq | hq
    · rw [hq]; exact t_reset0_6_2 hv
    · rw [hq]; exact t_reset0_5_1 hv) 1000 (b1 := true) (b2 := true) k_reset0_6_1
theorem k_reset0_6_0 : cbody kR [(zVP, c_drop0)] (cpl1 zVQ c_reset0 [q_reset0_6_1, q_reset0_5_0]) (cpl2 zVQ c_reset0 [q_reset0_6_1, q_reset0_5_0]) (cleaf kR zVQ c_reset0 [q_reset0_6_1, q_reset0_5_0]) 1000 true true q_reset0_6_0.2.2.1 q_reset0_6_0.2.2.2 (cst zVQ c_reset0.2.2.1.1 q_reset0_6_0.1) (cst zVQ c_reset0.2.2.1.2 q_reset0_6_0.2.1) = true := by decide +kernel
theorem t_reset0_6_0 {X : pX} {ρ0 : sR} (hv : vok X ρ0) : CUTOK X kR zVQ c_reset0 5 ρ0 q_reset0_6_0 := CUT_run kR_x kR_0 (Cs := [(zVP, c_drop0)]) (fun C hC => by rw [List.mem_singleton.mp hC]; exact s_drop0) c_reset0_f (Q := [q_reset0_6_1, q_reset0_5_0]) hv (fun q hq => by
    simp only [List.mem_cons, List.not_mem_nil, or_false] at hq
    rcases hq with hq | hq
    · rw [hq]; exact t_reset0_6_1 hv
    · rw [hq]; exact t_reset0_5_0 hv) 1000 (b1 := true) (b2 := true) k_reset0_6_0
theorem e_reset0_0 : frun kR [(zVP, c_drop0)] (cpl1 zVQ c_reset0 [q_reset0_0_0, q_reset0_1_0, q_reset0_2_0, q_reset0_3_0, q_reset0_4_0, q_reset0_5_0, q_reset0_6_0]) (cpl2 zVQ c_reset0 [q_reset0_0_0, q_reset0_1_0, q_reset0_2_0, q_reset0_3_0, q_reset0_4_0, q_reset0_5_0, q_reset0_6_0]) (cleaf kR zVQ c_reset0 [q_reset0_0_0, q_reset0_1_0, q_reset0_2_0, q_reset0_3_0, q_reset0_4_0, q_reset0_5_0, q_reset0_6_0]) 1000 65536 (isatP (((0, .arg 1318, .int 0), true) :: c_reset0.2.2.2.1) c_reset0.2.2.2.2.2.2.2.1) c_reset0.2.2.2.2.2.2.2.1 (sin0 mt_all c_reset0.1.1 5 c_reset0.2.1.1 (foot zVQ c_reset0.2.2.1.1)) (sin0 mt_all c_reset0.1.2.1 5 c_reset0.2.1.2 (foot zVQ c_reset0.2.2.1.2)) = true := by decide +kernel
theorem e_reset0_1 : frun kR [(zVP, c_drop0)] (cpl1 zVQ c_reset0 [q_reset0_0_0, q_reset0_1_0, q_reset0_2_0, q_reset0_3_0, q_reset0_4_0, q_reset0_5_0, q_reset0_6_0]) (cpl2 zVQ c_reset0 [q_reset0_0_0, q_reset0_1_0, q_reset0_2_0, q_reset0_3_0, q_reset0_4_0, q_reset0_5_0, q_reset0_6_0]) (cleaf kR zVQ c_reset0 [q_reset0_0_0, q_reset0_1_0, q_reset0_2_0, q_reset0_3_0, q_reset0_4_0, q_reset0_5_0, q_reset0_6_0]) 1000 65536 (isatP (((0, .arg 1318, .int 1), true) :: c_reset0.2.2.2.1) c_reset0.2.2.2.2.2.2.2.1) c_reset0.2.2.2.2.2.2.2.1 (sin0 mt_all c_reset0.1.1 5 c_reset0.2.1.1 (foot zVQ c_reset0.2.2.1.1)) (sin0 mt_all c_reset0.1.2.1 5 c_reset0.2.1.2 (foot zVQ c_reset0.2.2.1.2)) = true := by decide +kernel
theorem e_reset0_2 : frun kR [(zVP, c_drop0)] (cpl1 zVQ c_reset0 [q_reset0_0_0, q_reset0_1_0, q_reset0_2_0, q_reset0_3_0, q_reset0_4_0, q_reset0_5_0, q_reset0_6_0]) (cpl2 zVQ c_reset0 [q_reset0_0_0, q_reset0_1_0, q_reset0_2_0, q_reset0_3_0, q_reset0_4_0, q_reset0_5_0, q_reset0_6_0]) (cleaf kR zVQ c_reset0 [q_reset0_0_0, q_reset0_1_0, q_reset0_2_0, q_reset0_3_0, q_reset0_4_0, q_reset0_5_0, q_reset0_6_0]) 1000 65536 (isatP (((0, .arg 1318, .int 2), true) :: c_reset0.2.2.2.1) c_reset0.2.2.2.2.2.2.2.1) c_reset0.2.2.2.2.2.2.2.1 (sin0 mt_all c_reset0.1.1 5 c_reset0.2.1.1 (foot zVQ c_reset0.2.2.1.1)) (sin0 mt_all c_reset0.1.2.1 5 c_reset0.2.1.2 (foot zVQ c_reset0.2.2.1.2)) = true := by decide +kernel
theorem e_reset0_3 : frun kR [(zVP, c_drop0)] (cpl1 zVQ c_reset0 [q_reset0_0_0, q_reset0_1_0, q_reset0_2_0, q_reset0_3_0, q_reset0_4_0, q_reset0_5_0, q_reset0_6_0]) (cpl2 zVQ c_reset0 [q_reset0_0_0, q_reset0_1_0, q_reset0_2_0, q_reset0_3_0, q_reset0_4_0, q_reset0_5_0, q_reset0_6_0]) (cleaf kR zVQ c_reset0 [q_reset0_0_0, q_reset0_1_0, q_reset0_2_0, q_reset0_3_0, q_reset0_4_0, q_reset0_5_0, q_reset0_6_0]) 1000 65536 (isatP (((0, .arg 1318, .int 3), true) :: c_reset0.2.2.2.1) c_reset0.2.2.2.2.2.2.2.1) c_reset0.2.2.2.2.2.2.2.1 (sin0 mt_all c_reset0.1.1 5 c_reset0.2.1.1 (foot zVQ c_reset0.2.2.1.1)) (sin0 mt_all c_reset0.1.2.1 5 c_reset0.2.1.2 (foot zVQ c_reset0.2.2.1.2)) = true := by decide +kernel
theorem e_reset0_4 : frun kR [(zVP, c_drop0)] (cpl1 zVQ c_reset0 [q_reset0_0_0, q_reset0_1_0, q_reset0_2_0, q_reset0_3_0, q_reset0_4_0, q_reset0_5_0, q_reset0_6_0]) (cpl2 zVQ c_reset0 [q_reset0_0_0, q_reset0_1_0, q_reset0_2_0, q_reset0_3_0, q_reset0_4_0, q_reset0_5_0, q_reset0_6_0]) (cleaf kR zVQ c_reset0 [q_reset0_0_0, q_reset0_1_0, q_reset0_2_0, q_reset0_3_0, q_reset0_4_0, q_reset0_5_0, q_reset0_6_0]) 1000 65536 (isatP (((0, .arg 1318, .int 4), true) :: c_reset0.2.2.2.1) c_reset0.2.2.2.2.2.2.2.1) c_reset0.2.2.2.2.2.2.2.1 (sin0 mt_all c_reset0.1.1 5 c_reset0.2.1.1 (foot zVQ c_reset0.2.2.1.1)) (sin0 mt_all c_reset0.1.2.1 5 c_reset0.2.1.2 (foot zVQ c_reset0.2.2.1.2)) = true := by decide +kernel
theorem e_reset0_5 : frun kR [(zVP, c_drop0)] (cpl1 zVQ c_reset0 [q_reset0_0_0, q_reset0_1_0, q_reset0_2_0, q_reset0_3_0, q_reset0_4_0, q_reset0_5_0, q_reset0_6_0]) (cpl2 zVQ c_reset0 [q_reset0_0_0, q_reset0_1_0, q_reset0_2_0, q_reset0_3_0, q_reset0_4_0, q_reset0_5_0, q_reset0_6_0]) (cleaf kR zVQ c_reset0 [q_reset0_0_0, q_reset0_1_0, q_reset0_2_0, q_reset0_3_0, q_reset0_4_0, q_reset0_5_0, q_reset0_6_0]) 1000 65536 (isatP (((0, .arg 1318, .int 5), true) :: c_reset0.2.2.2.1) c_reset0.2.2.2.2.2.2.2.1) c_reset0.2.2.2.2.2.2.2.1 (sin0 mt_all c_reset0.1.1 5 c_reset0.2.1.1 (foot zVQ c_reset0.2.2.1.1)) (sin0 mt_all c_reset0.1.2.1 5 c_reset0.2.1.2 (foot zVQ c_reset0.2.2.1.2)) = true := by decide +kernel
theorem e_reset0_6 : frun kR [(zVP, c_drop0)] (cpl1 zVQ c_reset0 [q_reset0_0_0, q_reset0_1_0, q_reset0_2_0, q_reset0_3_0, q_reset0_4_0, q_reset0_5_0, q_reset0_6_0]) (cpl2 zVQ c_reset0 [q_reset0_0_0, q_reset0_1_0, q_reset0_2_0, q_reset0_3_0, q_reset0_4_0, q_reset0_5_0, q_reset0_6_0]) (cleaf kR zVQ c_reset0 [q_reset0_0_0, q_reset0_1_0, q_reset0_2_0, q_reset0_3_0, q_reset0_4_0, q_reset0_5_0, q_reset0_6_0]) 1000 65536 (isatP (((0, .arg 1318, .int 6), true) :: c_reset0.2.2.2.1) c_reset0.2.2.2.2.2.2.2.1) c_reset0.2.2.2.2.2.2.2.1 (sin0 mt_all c_reset0.1.1 5 c_reset0.2.1.1 (foot zVQ c_reset0.2.2.1.1)) (sin0 mt_all c_reset0.1.2.1 5 c_reset0.2.1.2 (foot zVQ c_reset0.2.2.1.2)) = true := by decide +kernel
theorem n_reset0 : scon (([(0, .arg 1318, .int 0), (0, .arg 1318, .int 1), (0, .arg 1318, .int 2), (0, .arg 1318, .int 3), (0, .arg 1318, .int 4), (0, .arg 1318, .int 5), (0, .arg 1318, .int 6)] : List sQ).map (fun q => (q, false)) ++ c_reset0.2.2.2.1) = true := by decide +kernel
theorem s_reset0 {X : pX} : SREL X pF pdfl mt_all kR zVQ c_reset0 := SREL_QC kR_x kR_0 (Cs := [(zVP, c_drop0)]) (fun C hC => by rw [List.mem_singleton.mp hC]; exact s_drop0) (d := 5) rfl c_reset0_f (Q := [q_reset0_0_0, q_reset0_1_0, q_reset0_2_0, q_reset0_3_0, q_reset0_4_0, q_reset0_5_0, q_reset0_6_0]) (fun ρ0 hv => fun q hq => by
    simp only [List.mem_cons, List.not_mem_nil, or_false] at hq
    rcases hq with hq | hq | hq | hq | hq | hq | hq
    · rw [hq]; exact t_reset0_0_0 hv
    · rw [hq]; exact t_reset0_1_0 hv
    · rw [hq]; exact t_reset0_2_0 hv
    · rw [hq]; exact t_reset0_3_0 hv
    · rw [hq]; exact t_reset0_4_0 hv
    · rw [hq]; exact t_reset0_5_0 hv
    · rw [hq]; exact t_reset0_6_0 hv) (QC_each [(0, .arg 1318, .int 0), (0, .arg 1318, .int 1), (0, .arg 1318, .int 2), (0, .arg 1318, .int 3), (0, .arg 1318, .int 4), (0, .arg 1318, .int 5), (0, .arg 1318, .int 6)] (fun q hq => by
    simp only [List.mem_cons, List.not_mem_nil, or_false] at hq
    rcases hq with hq | hq | hq | hq | hq | hq | hq
    · rw [hq]; exact QC_run 1000 e_reset0_0
    · rw [hq]; exact QC_run 1000 e_reset0_1
    · rw [hq]; exact QC_run 1000 e_reset0_2
    · rw [hq]; exact QC_run 1000 e_reset0_3
    · rw [hq]; exact QC_run 1000 e_reset0_4
    · rw [hq]; exact QC_run 1000 e_reset0_5
    · rw [hq]; exact QC_run 1000 e_reset0_6) (QC_con n_reset0))
