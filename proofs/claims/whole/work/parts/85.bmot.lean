/-! ===== ... the bit of a goal stands ===== -/
noncomputable def q_mvE10L : sCut := ((fr 0 32 2 [(0, tr 56)] [], [fBot], 12), (fr 0 351 45 [(0, tr 219), (1, .arg 1308), (2, .int 1), (3, .int 0), (6, .op1 .l2i (.arg 7073))] [], [fr 0 349 43 [(0, tr 219), (1, .arg 1308), (2, .int 1)] [], fBot], 11), [((2, .int 0, .arg 1340), true), ((0, .arg 2816, .int 4), true), ((0, .arg 2050, .int 0), true), ((0, .arg 5570, .int 0), true), ((6, .arg 5313, .arg 1633), true), ((0, .op2 .iand (.op1 .l2i (.elem (.arg 1761) (.int 115))) (.int 16), .int 0), false), ((0, .op2 .iand (.arg 3168) (.int 16), .int 0), false)] ++ f_mv, i_mv)
theorem k_mvE10L : cbody kR [(zVD, c_brake0)] (cpl1 zWD c_motion0 [q_mz1, q_ms1]) (cpl2 zWD c_motion0 [q_mz1, q_ms1]) (cleaf kR zWD c_motion0 [q_mz1, q_ms1]) 3000 true true q_mvE10L.2.2.1 q_mvE10L.2.2.2 (cst zWD c_motion0.2.2.1.1 q_mvE10L.1) (cst zWD c_motion0.2.2.1.2 q_mvE10L.2.1) = true := by decide +kernel
theorem t_mvE10L {X : pX} {ρ0 : sR} (hv : vok X ρ0) : CUTOK X kR zWD c_motion0 12 ρ0 q_mvE10L := CUT_run kR_x kR_0 (Cs := [(zVD, c_brake0)]) (fun C hC => by
    simp only [List.mem_cons, List.not_mem_nil, or_false] at hC
    rw [hC]; exact s_brake0) c_motion0_f (Q := [q_mz1, q_ms1]) hv (fun q hq => by
    simp only [List.mem_cons, List.not_mem_nil, or_false] at hq
    rcases hq with hq | hq
    · rw [hq]; exact t_mz1 hv
    · rw [hq]; exact t_ms1 hv) 3000 (b1 := true) (b2 := true) k_mvE10L
noncomputable def q_mvE10N0 : sCut := ((fr 0 32 2 [(0, tr 56)] [], [fBot], 12), (fr 0 351 45 [(0, tr 219), (1, .arg 1308), (2, .int 1), (3, .int 0), (6, .op1 .l2i (.arg 7073))] [], [fr 0 349 43 [(0, tr 219), (1, .arg 1308), (2, .int 1)] [], fBot], 11), [((6, .arg 7073, .long (-1)), true), ((6, .op2 .land (.elem (.arg 1761) (.int 115)) (.long 256), .long 0), true), ((2, .int 0, .arg 1340), false), ((0, .arg 2816, .int 4), true), ((0, .arg 2050, .int 0), true), ((0, .arg 5570, .int 0), true), ((6, .arg 5313, .arg 1633), true), ((0, .op2 .iand (.op1 .l2i (.elem (.arg 1761) (.int 115))) (.int 16), .int 0), false), ((0, .op2 .iand (.arg 3168) (.int 16), .int 0), false)] ++ f_mv, i_mv)
theorem k_mvE10N0 : cbody kR [(zWD, c_progw10)] (cpl1 zWD c_motion0 [q_mz1, q_ms1]) (cpl2 zWD c_motion0 [q_mz1, q_ms1]) (cleaf kR zWD c_motion0 [q_mz1, q_ms1]) 3000 true true q_mvE10N0.2.2.1 q_mvE10N0.2.2.2 (cst zWD c_motion0.2.2.1.1 q_mvE10N0.1) (cst zWD c_motion0.2.2.1.2 q_mvE10N0.2.1) = true := by decide +kernel
theorem t_mvE10N0 {X : pX} {ρ0 : sR} (hv : vok X ρ0) : CUTOK X kR zWD c_motion0 12 ρ0 q_mvE10N0 := CUT_run kR_x kR_0 (Cs := [(zWD, c_progw10)]) (fun C hC => by
    simp only [List.mem_cons, List.not_mem_nil, or_false] at hC
    rw [hC]; exact s_progw10) c_motion0_f (Q := [q_mz1, q_ms1]) hv (fun q hq => by
    simp only [List.mem_cons, List.not_mem_nil, or_false] at hq
    rcases hq with hq | hq
    · rw [hq]; exact t_mz1 hv
    · rw [hq]; exact t_ms1 hv) 3000 (b1 := true) (b2 := true) k_mvE10N0
noncomputable def q_mvE10N1 : sCut := ((fr 0 32 2 [(0, tr 56)] [], [fBot], 12), (fr 0 351 45 [(0, tr 219), (1, .arg 1308), (2, .int 1), (3, .int 0), (6, .op1 .l2i (.arg 7073))] [], [fr 0 349 43 [(0, tr 219), (1, .arg 1308), (2, .int 1)] [], fBot], 11), [((6, .arg 7073, .long 0), true), ((6, .arg 7073, .long (-1)), false), ((6, .op2 .land (.elem (.arg 1761) (.int 115)) (.long 256), .long 0), true), ((2, .int 0, .arg 1340), false), ((0, .arg 2816, .int 4), true), ((0, .arg 2050, .int 0), true), ((0, .arg 5570, .int 0), true), ((6, .arg 5313, .arg 1633), true), ((0, .op2 .iand (.op1 .l2i (.elem (.arg 1761) (.int 115))) (.int 16), .int 0), false), ((0, .op2 .iand (.arg 3168) (.int 16), .int 0), false)] ++ f_mv, i_mv)
theorem k_mvE10N1 : cbody kR [(zVD, c_brake0)] (cpl1 zWD c_motion0 [q_mz1, q_ms1]) (cpl2 zWD c_motion0 [q_mz1, q_ms1]) (cleaf kR zWD c_motion0 [q_mz1, q_ms1]) 3000 true true q_mvE10N1.2.2.1 q_mvE10N1.2.2.2 (cst zWD c_motion0.2.2.1.1 q_mvE10N1.1) (cst zWD c_motion0.2.2.1.2 q_mvE10N1.2.1) = true := by decide +kernel
theorem t_mvE10N1 {X : pX} {ρ0 : sR} (hv : vok X ρ0) : CUTOK X kR zWD c_motion0 12 ρ0 q_mvE10N1 := CUT_run kR_x kR_0 (Cs := [(zVD, c_brake0)]) (fun C hC => by
    simp only [List.mem_cons, List.not_mem_nil, or_false] at hC
    rw [hC]; exact s_brake0) c_motion0_f (Q := [q_mz1, q_ms1]) hv (fun q hq => by
    simp only [List.mem_cons, List.not_mem_nil, or_false] at hq
    rcases hq with hq | hq
    · rw [hq]; exact t_mz1 hv
    · rw [hq]; exact t_ms1 hv) 3000 (b1 := true) (b2 := true) k_mvE10N1
noncomputable def q_mvE10N2 : sCut := ((fr 0 32 2 [(0, tr 56)] [], [fBot], 12), (fr 0 351 45 [(0, tr 219), (1, .arg 1308), (2, .int 1), (3, .int 0), (6, .op1 .l2i (.arg 7073))] [], [fr 0 349 43 [(0, tr 219), (1, .arg 1308), (2, .int 1)] [], fBot], 11), [((6, .arg 7073, .long 1), true), ((6, .arg 7073, .long 0), false), ((6, .arg 7073, .long (-1)), false), ((6, .op2 .land (.elem (.arg 1761) (.int 115)) (.long 256), .long 0), true), ((2, .int 0, .arg 1340), false), ((0, .arg 2816, .int 4), true), ((0, .arg 2050, .int 0), true), ((0, .arg 5570, .int 0), true), ((6, .arg 5313, .arg 1633), true), ((0, .op2 .iand (.op1 .l2i (.elem (.arg 1761) (.int 115))) (.int 16), .int 0), false), ((0, .op2 .iand (.arg 3168) (.int 16), .int 0), false)] ++ f_mv, i_mv)
theorem k_mvE10N2 : cbody kR [(zWD, c_placw10)] (cpl1 zWD c_motion0 [q_mz1, q_ms1]) (cpl2 zWD c_motion0 [q_mz1, q_ms1]) (cleaf kR zWD c_motion0 [q_mz1, q_ms1]) 3000 true true q_mvE10N2.2.2.1 q_mvE10N2.2.2.2 (cst zWD c_motion0.2.2.1.1 q_mvE10N2.1) (cst zWD c_motion0.2.2.1.2 q_mvE10N2.2.1) = true := by decide +kernel
theorem t_mvE10N2 {X : pX} {ρ0 : sR} (hv : vok X ρ0) : CUTOK X kR zWD c_motion0 12 ρ0 q_mvE10N2 := CUT_run kR_x kR_0 (Cs := [(zWD, c_placw10)]) (fun C hC => by
    simp only [List.mem_cons, List.not_mem_nil, or_false] at hC
    rw [hC]; exact s_placw10) c_motion0_f (Q := [q_mz1, q_ms1]) hv (fun q hq => by
    simp only [List.mem_cons, List.not_mem_nil, or_false] at hq
    rcases hq with hq | hq
    · rw [hq]; exact t_mz1 hv
    · rw [hq]; exact t_ms1 hv) 3000 (b1 := true) (b2 := true) k_mvE10N2
noncomputable def q_mvE10N3 : sCut := ((fr 0 32 2 [(0, tr 56)] [], [fBot], 12), (fr 0 351 45 [(0, tr 219), (1, .arg 1308), (2, .int 1), (3, .int 0), (6, .op1 .l2i (.arg 7073))] [], [fr 0 349 43 [(0, tr 219), (1, .arg 1308), (2, .int 1)] [], fBot], 11), [((6, .arg 7073, .long 3), true), ((6, .arg 7073, .long 1), false), ((6, .arg 7073, .long 0), false), ((6, .arg 7073, .long (-1)), false), ((6, .op2 .land (.elem (.arg 1761) (.int 115)) (.long 256), .long 0), true), ((2, .int 0, .arg 1340), false), ((0, .arg 2816, .int 4), true), ((0, .arg 2050, .int 0), true), ((0, .arg 5570, .int 0), true), ((6, .arg 5313, .arg 1633), true), ((0, .op2 .iand (.op1 .l2i (.elem (.arg 1761) (.int 115))) (.int 16), .int 0), false), ((0, .op2 .iand (.arg 3168) (.int 16), .int 0), false)] ++ f_mv, i_mv)
theorem k_mvE10N3 : cbody kR [(zVD, c_spd0)] (cpl1 zWD c_motion0 [q_mz1, q_ms1]) (cpl2 zWD c_motion0 [q_mz1, q_ms1]) (cleaf kR zWD c_motion0 [q_mz1, q_ms1]) 3000 true true q_mvE10N3.2.2.1 q_mvE10N3.2.2.2 (cst zWD c_motion0.2.2.1.1 q_mvE10N3.1) (cst zWD c_motion0.2.2.1.2 q_mvE10N3.2.1) = true := by decide +kernel
theorem t_mvE10N3 {X : pX} {ρ0 : sR} (hv : vok X ρ0) : CUTOK X kR zWD c_motion0 12 ρ0 q_mvE10N3 := CUT_run kR_x kR_0 (Cs := [(zVD, c_spd0)]) (fun C hC => by
    simp only [List.mem_cons, List.not_mem_nil, or_false] at hC
    rw [hC]; exact s_spd0) c_motion0_f (Q := [q_mz1, q_ms1]) hv (fun q hq => by
    simp only [List.mem_cons, List.not_mem_nil, or_false] at hq
    rcases hq with hq | hq
    · rw [hq]; exact t_mz1 hv
    · rw [hq]; exact t_ms1 hv) 3000 (b1 := true) (b2 := true) k_mvE10N3
noncomputable def q_mvE10N4 : sCut := ((fr 0 32 2 [(0, tr 56)] [], [fBot], 12), (fr 0 351 45 [(0, tr 219), (1, .arg 1308), (2, .int 1), (3, .int 0), (6, .op1 .l2i (.arg 7073))] [], [fr 0 349 43 [(0, tr 219), (1, .arg 1308), (2, .int 1)] [], fBot], 11), [((6, .arg 7073, .long 6), true), ((6, .arg 7073, .long 3), false), ((6, .arg 7073, .long 1), false), ((6, .arg 7073, .long 0), false), ((6, .arg 7073, .long (-1)), false), ((6, .op2 .land (.elem (.arg 1761) (.int 115)) (.long 256), .long 0), true), ((2, .int 0, .arg 1340), false), ((0, .arg 2816, .int 4), true), ((0, .arg 2050, .int 0), true), ((0, .arg 5570, .int 0), true), ((6, .arg 5313, .arg 1633), true), ((0, .op2 .iand (.op1 .l2i (.elem (.arg 1761) (.int 115))) (.int 16), .int 0), false), ((0, .op2 .iand (.arg 3168) (.int 16), .int 0), false)] ++ f_mv, i_mv)
theorem k_mvE10N4 : cbody kR [(zWD, c_homingw10)] (cpl1 zWD c_motion0 [q_mz1, q_ms1]) (cpl2 zWD c_motion0 [q_mz1, q_ms1]) (cleaf kR zWD c_motion0 [q_mz1, q_ms1]) 3000 true true q_mvE10N4.2.2.1 q_mvE10N4.2.2.2 (cst zWD c_motion0.2.2.1.1 q_mvE10N4.1) (cst zWD c_motion0.2.2.1.2 q_mvE10N4.2.1) = true := by decide +kernel
theorem t_mvE10N4 {X : pX} {ρ0 : sR} (hv : vok X ρ0) : CUTOK X kR zWD c_motion0 12 ρ0 q_mvE10N4 := CUT_run kR_x kR_0 (Cs := [(zWD, c_homingw10)]) (fun C hC => by
    simp only [List.mem_cons, List.not_mem_nil, or_false] at hC
    rw [hC]; exact s_homingw10) c_motion0_f (Q := [q_mz1, q_ms1]) hv (fun q hq => by
    simp only [List.mem_cons, List.not_mem_nil, or_false] at hq
    rcases hq with hq | hq
    · rw [hq]; exact t_mz1 hv
    · rw [hq]; exact t_ms1 hv) 3000 (b1 := true) (b2 := true) k_mvE10N4
noncomputable def q_mvE10N5 : sCut := ((fr 0 32 2 [(0, tr 56)] [], [fBot], 12), (fr 0 351 45 [(0, tr 219), (1, .arg 1308), (2, .int 1), (3, .int 0), (6, .op1 .l2i (.arg 7073))] [], [fr 0 349 43 [(0, tr 219), (1, .arg 1308), (2, .int 1)] [], fBot], 11), [((6, .arg 7073, .long 6), false), ((6, .arg 7073, .long 3), false), ((6, .arg 7073, .long 1), false), ((6, .arg 7073, .long 0), false), ((6, .arg 7073, .long (-1)), false), ((6, .op2 .land (.elem (.arg 1761) (.int 115)) (.long 256), .long 0), true), ((2, .int 0, .arg 1340), false), ((0, .arg 2816, .int 4), true), ((0, .arg 2050, .int 0), true), ((0, .arg 5570, .int 0), true), ((6, .arg 5313, .arg 1633), true), ((0, .op2 .iand (.op1 .l2i (.elem (.arg 1761) (.int 115))) (.int 16), .int 0), false), ((0, .op2 .iand (.arg 3168) (.int 16), .int 0), false)] ++ f_mv, i_mv)
theorem k_mvE10N5 : cbody kR [(zVP, c_cut0), (zVD, c_goto0)] (cpl1 zWD c_motion0 [q_mz1, q_ms1]) (cpl2 zWD c_motion0 [q_mz1, q_ms1]) (cleaf kR zWD c_motion0 [q_mz1, q_ms1]) 3000 true true q_mvE10N5.2.2.1 q_mvE10N5.2.2.2 (cst zWD c_motion0.2.2.1.1 q_mvE10N5.1) (cst zWD c_motion0.2.2.1.2 q_mvE10N5.2.1) = true := by decide +kernel
theorem t_mvE10N5 {X : pX} {ρ0 : sR} (hv : vok X ρ0) : CUTOK X kR zWD c_motion0 12 ρ0 q_mvE10N5 := CUT_run kR_x kR_0 (Cs := [(zVP, c_cut0), (zVD, c_goto0)]) (fun C hC => by
    simp only [List.mem_cons, List.not_mem_nil, or_false] at hC
    rcases hC with hC | hC
    · rw [hC]; exact s_cut0
    · rw [hC]; exact s_goto0) c_motion0_f (Q := [q_mz1, q_ms1]) hv (fun q hq => by
    simp only [List.mem_cons, List.not_mem_nil, or_false] at hq
    rcases hq with hq | hq
    · rw [hq]; exact t_mz1 hv
    · rw [hq]; exact t_ms1 hv) 3000 (b1 := true) (b2 := true) k_mvE10N5
noncomputable def q_mvE10H8 : sCut := ((fr 0 32 2 [(0, tr 56)] [], [fBot], 12), (fr 0 351 45 [(0, tr 219), (1, .arg 1308), (2, .int 1), (3, .int 0), (6, .op1 .l2i (.arg 7073))] [], [fr 0 349 43 [(0, tr 219), (1, .arg 1308), (2, .int 1)] [], fBot], 11), [((6, .arg 7073, .long 8), true), ((6, .op2 .land (.elem (.arg 1761) (.int 115)) (.long 256), .long 0), false), ((2, .int 0, .arg 1340), false), ((0, .arg 2816, .int 4), true), ((0, .arg 2050, .int 0), true), ((0, .arg 5570, .int 0), true), ((6, .arg 5313, .arg 1633), true), ((0, .op2 .iand (.op1 .l2i (.elem (.arg 1761) (.int 115))) (.int 16), .int 0), false), ((0, .op2 .iand (.arg 3168) (.int 16), .int 0), false)] ++ f_mv, i_mv)
theorem k_mvE10H8 : cbody kR [(zVP, c_cut0), (zVD, c_goto0)] (cpl1 zWD c_motion0 [q_mz1, q_ms1]) (cpl2 zWD c_motion0 [q_mz1, q_ms1]) (cleaf kR zWD c_motion0 [q_mz1, q_ms1]) 3000 true true q_mvE10H8.2.2.1 q_mvE10H8.2.2.2 (cst zWD c_motion0.2.2.1.1 q_mvE10H8.1) (cst zWD c_motion0.2.2.1.2 q_mvE10H8.2.1) = true := by decide +kernel
theorem t_mvE10H8 {X : pX} {ρ0 : sR} (hv : vok X ρ0) : CUTOK X kR zWD c_motion0 12 ρ0 q_mvE10H8 := CUT_run kR_x kR_0 (Cs := [(zVP, c_cut0), (zVD, c_goto0)]) (fun C hC => by
    simp only [List.mem_cons, List.not_mem_nil, or_false] at hC
    rcases hC with hC | hC
    · rw [hC]; exact s_cut0
    · rw [hC]; exact s_goto0) c_motion0_f (Q := [q_mz1, q_ms1]) hv (fun q hq => by
    simp only [List.mem_cons, List.not_mem_nil, or_false] at hq
    rcases hq with hq | hq
    · rw [hq]; exact t_mz1 hv
    · rw [hq]; exact t_ms1 hv) 3000 (b1 := true) (b2 := true) k_mvE10H8
noncomputable def q_mvE10Hx : sCut := ((fr 0 32 2 [(0, tr 56)] [], [fBot], 12), (fr 0 351 45 [(0, tr 219), (1, .arg 1308), (2, .int 1), (3, .int 0), (6, .op1 .l2i (.arg 7073))] [], [fr 0 349 43 [(0, tr 219), (1, .arg 1308), (2, .int 1)] [], fBot], 11), [((0, .op1 .l2i (.arg 7073), .int 8), false), ((6, .arg 7073, .long 8), false), ((6, .op2 .land (.elem (.arg 1761) (.int 115)) (.long 256), .long 0), false), ((2, .int 0, .arg 1340), false), ((0, .arg 2816, .int 4), true), ((0, .arg 2050, .int 0), true), ((0, .arg 5570, .int 0), true), ((6, .arg 5313, .arg 1633), true), ((0, .op2 .iand (.op1 .l2i (.elem (.arg 1761) (.int 115))) (.int 16), .int 0), false), ((0, .op2 .iand (.arg 3168) (.int 16), .int 0), false)] ++ f_mv, i_mv)
theorem k_mvE10Hx : cbody kR [(zVD, c_brake0)] (cpl1 zWD c_motion0 [q_mz1, q_ms1]) (cpl2 zWD c_motion0 [q_mz1, q_ms1]) (cleaf kR zWD c_motion0 [q_mz1, q_ms1]) 3000 true true q_mvE10Hx.2.2.1 q_mvE10Hx.2.2.2 (cst zWD c_motion0.2.2.1.1 q_mvE10Hx.1) (cst zWD c_motion0.2.2.1.2 q_mvE10Hx.2.1) = true := by decide +kernel
theorem t_mvE10Hx {X : pX} {ρ0 : sR} (hv : vok X ρ0) : CUTOK X kR zWD c_motion0 12 ρ0 q_mvE10Hx := CUT_run kR_x kR_0 (Cs := [(zVD, c_brake0)]) (fun C hC => by
    simp only [List.mem_cons, List.not_mem_nil, or_false] at hC
    rw [hC]; exact s_brake0) c_motion0_f (Q := [q_mz1, q_ms1]) hv (fun q hq => by
    simp only [List.mem_cons, List.not_mem_nil, or_false] at hq
    rcases hq with hq | hq
    · rw [hq]; exact t_mz1 hv
    · rw [hq]; exact t_ms1 hv) 3000 (b1 := true) (b2 := true) k_mvE10Hx
noncomputable def q_mvE10H : sCut := ((fr 0 32 2 [(0, tr 56)] [], [fBot], 12), (fr 0 351 45 [(0, tr 219), (1, .arg 1308), (2, .int 1), (3, .int 0), (6, .op1 .l2i (.arg 7073))] [], [fr 0 349 43 [(0, tr 219), (1, .arg 1308), (2, .int 1)] [], fBot], 11), [((6, .arg 7073, .long 8), false), ((6, .op2 .land (.elem (.arg 1761) (.int 115)) (.long 256), .long 0), false), ((2, .int 0, .arg 1340), false), ((0, .arg 2816, .int 4), true), ((0, .arg 2050, .int 0), true), ((0, .arg 5570, .int 0), true), ((6, .arg 5313, .arg 1633), true), ((0, .op2 .iand (.op1 .l2i (.elem (.arg 1761) (.int 115))) (.int 16), .int 0), false), ((0, .op2 .iand (.arg 3168) (.int 16), .int 0), false)] ++ f_mv, i_mv)
theorem t_mvE10H {X : pX} {ρ0 : sR} (hv : vok X ρ0) : CUTOK X kR zWD c_motion0 12 ρ0 q_mvE10H := CUT_mono (t_mvE10Hx hv) (fun ρ hF hI => ⟨fok_cons (mv_i8 (hF.2 _ (List.mem_of_getElem? (i := 0) rfl)) (hF.2 _ (List.mem_of_getElem? (i := 46) rfl)) (hF.2 _ (List.mem_of_getElem? (i := 45) rfl))) hF, hI⟩)
noncomputable def q_mvE10 : sCut := ((fr 0 32 2 [(0, tr 56)] [], [fBot], 12), (fr 0 351 45 [(0, tr 219), (1, .arg 1308), (2, .int 1), (3, .int 0), (6, .op1 .l2i (.arg 7073))] [], [fr 0 349 43 [(0, tr 219), (1, .arg 1308), (2, .int 1)] [], fBot], 11), [((0, .arg 2816, .int 4), true), ((0, .arg 2050, .int 0), true), ((0, .arg 5570, .int 0), true), ((6, .arg 5313, .arg 1633), true), ((0, .op2 .iand (.op1 .l2i (.elem (.arg 1761) (.int 115))) (.int 16), .int 0), false), ((0, .op2 .iand (.arg 3168) (.int 16), .int 0), false)] ++ f_mv, i_mv)
theorem t_mvE10 {X : pX} {ρ0 : sR} (hv : vok X ρ0) : CUTOK X kR zWD c_motion0 12 ρ0 q_mvE10 := CUT_split (2, .int 0, .arg 1340) (t_mvE10L hv) (CUT_split (6, .op2 .land (.elem (.arg 1761) (.int 115)) (.long 256), .long 0) (CUT_split (6, .arg 7073, .long (-1)) (t_mvE10N0 hv) (CUT_split (6, .arg 7073, .long 0) (t_mvE10N1 hv) (CUT_split (6, .arg 7073, .long 1) (t_mvE10N2 hv) (CUT_split (6, .arg 7073, .long 3) (t_mvE10N3 hv) (CUT_split (6, .arg 7073, .long 6) (t_mvE10N4 hv) (t_mvE10N5 hv)))))) (CUT_split (6, .arg 7073, .long 8) (t_mvE10H8 hv) (t_mvE10H hv)))
