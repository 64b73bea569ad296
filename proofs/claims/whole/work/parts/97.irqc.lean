/-! ===== a transfer is closed ===== -/
noncomputable def c_rqc : sC := ((158, 323, 14), ([tr 58, .arg 5121], [tr 219, .arg 1308]), ([2, 58], [219, 312, 324]), [((2, .op2 .iand (.op1 .l2i (.op2 .lushr (.arg 5121) (.int 0))) (.int 255), .int 128), false), ((2, .int 159, .op2 .iand (.op1 .l2i (.op2 .lushr (.arg 5121) (.int 0))) (.int 255)), false), ((0, .arg 3360, .int 2), false)], ([3360, 3456, 60004], []), (none, none), [((0, .arg 3360, .int 0), true)], ([], []))
theorem c_rqc_f : cfine zVP 65536 c_rqc = true := by decide +kernel
noncomputable def q_rqcr : sCut := ((fr 3 158 9 [(0, tr 58), (1, .arg 5121), (3, .arg 60004)] [], [fBot], 13), (fr 0 323 11 [(0, tr 219), (1, .arg 1308), (2, .arg 60004)] [], [fBot], 13), [((0, .op1 .l2i (.op2 .land (.op2 .lshr (.arg 5121) (.int 0)) (.long 255)), .arg 60004), true), ((2, .arg 60004, .int 128), false), ((2, .int 159, .arg 60004), false), ((0, .arg 3360, .int 2), false)], [])
noncomputable def q_rqcr_0 : sCut := ((fr 3 158 9 [(0, tr 58), (1, .arg 5121), (3, .arg 60004)] [], [fBot], 13), (fr 0 323 11 [(0, tr 219), (1, .arg 1308), (2, .arg 60004)] [], [fBot], 13), [((0, .op2 .iushr (.arg 60004) (.int 5), .int 4), true), ((0, .op1 .l2i (.op2 .land (.op2 .lshr (.arg 5121) (.int 0)) (.long 255)), .arg 60004), true), ((2, .arg 60004, .int 128), false), ((2, .int 159, .arg 60004), false), ((0, .arg 3360, .int 2), false)], [])
theorem k_rqcr_0 : cbody kR [] (cpl1 zVP c_rqc []) (cpl2 zVP c_rqc []) (cleaf kR zVP c_rqc []) 300 true true q_rqcr_0.2.2.1 q_rqcr_0.2.2.2 (cst zVP c_rqc.2.2.1.1 q_rqcr_0.1) (cst zVP c_rqc.2.2.1.2 q_rqcr_0.2.1) = true := by decide +kernel
theorem t_rqcr_0 {X : pX} {ρ0 : sR} (hv : vok X ρ0) : CUTOK X kR zVP c_rqc 13 ρ0 q_rqcr_0 := CUT_run kR_x kR_0 (Cs := []) (fun C hC => by cases hC) c_rqc_f (Q := []) hv (fun q hq => by cases hq) 300 (b1 := true) (b2 := true) k_rqcr_0
noncomputable def q_rqcr_1 : sCut := ((fr 3 158 9 [(0, tr 58), (1, .arg 5121), (3, .arg 60004)] [], [fBot], 13), (fr 0 323 11 [(0, tr 219), (1, .arg 1308), (2, .arg 60004)] [], [fBot], 13), [((2, .arg 60004, .int 128), true), ((0, .op1 .l2i (.op2 .land (.op2 .lshr (.arg 5121) (.int 0)) (.long 255)), .arg 60004), true), ((2, .arg 60004, .int 128), false), ((2, .int 159, .arg 60004), false), ((0, .arg 3360, .int 2), false)], [])
theorem t_rqcr_1 {X : pX} {ρ0 : sR} (hv : vok X ρ0) : CUTOK X kR zVP c_rqc 13 ρ0 q_rqcr_1 := fun ρ k1 hF hI k4 => by
  have h1 := hF.2 _ (List.mem_cons_self)
  have h2 := hF.2 _ (List.mem_cons_of_mem _ (List.mem_cons_of_mem _ (List.mem_cons_self)))
  dsimp only at h1 h2
  rw [h1] at h2
  cases h2
noncomputable def q_rqcr_2 : sCut := ((fr 3 158 9 [(0, tr 58), (1, .arg 5121), (3, .arg 60004)] [], [fBot], 13), (fr 0 323 11 [(0, tr 219), (1, .arg 1308), (2, .arg 60004)] [], [fBot], 13), [((2, .int 159, .arg 60004), true), ((0, .op1 .l2i (.op2 .land (.op2 .lshr (.arg 5121) (.int 0)) (.long 255)), .arg 60004), true), ((2, .arg 60004, .int 128), false), ((2, .int 159, .arg 60004), false), ((0, .arg 3360, .int 2), false)], [])
theorem t_rqcr_2 {X : pX} {ρ0 : sR} (hv : vok X ρ0) : CUTOK X kR zVP c_rqc 13 ρ0 q_rqcr_2 := fun ρ k1 hF hI k4 => by
  have h1 := hF.2 _ (List.mem_cons_self)
  have h2 := hF.2 _ (List.mem_cons_of_mem _ (List.mem_cons_of_mem _ (List.mem_cons_of_mem _ (List.mem_cons_self))))
  dsimp only at h1 h2
  rw [h1] at h2
  cases h2
theorem al_rqcr : alchk 60004 255 [[((0, .op2 .iushr (.arg 60004) (.int 5), .int 4), true)], [((2, .arg 60004, .int 128), true)], [((2, .int 159, .arg 60004), true)]] = true := by decide +kernel
theorem t_rqcr {X : pX} {ρ0 : sR} (hv : vok X ρ0) : CUTOK X kR zVP c_rqc 13 ρ0 q_rqcr := CUT_alts 60004 255 [[((0, .op2 .iushr (.arg 60004) (.int 5), .int 4), true)], [((2, .arg 60004, .int 128), true)], [((2, .int 159, .arg 60004), true)]] al_rqcr rfl (fun F hF => by
    simp only [List.mem_cons, List.not_mem_nil, or_false] at hF
    rcases hF with hF | hF | hF
    · rw [hF]; exact t_rqcr_0 hv
    · rw [hF]; exact t_rqcr_1 hv
    · rw [hF]; exact t_rqcr_2 hv)
theorem e_rqc : frun kR [] (cpl1 zVP c_rqc [q_rqcr]) (cpl2 zVP c_rqc [q_rqcr]) (cleaf kR zVP c_rqc [q_rqcr]) 260 65536 (isatP (c_rqc.2.2.2.1) c_rqc.2.2.2.2.2.2.2.1) c_rqc.2.2.2.2.2.2.2.1 (sin0 mt_all c_rqc.1.1 13 c_rqc.2.1.1 (foot zVP c_rqc.2.2.1.1)) (sin0 mt_all c_rqc.1.2.1 13 c_rqc.2.1.2 (foot zVP c_rqc.2.2.1.2)) = true := by decide +kernel
theorem s_rqc {X : pX} : SREL X pF pdfl mt_all kR zVP c_rqc := SREL_QC kR_x kR_0 (Cs := []) (fun C hC => by cases hC) (d := 13) rfl c_rqc_f (Q := [q_rqcr]) (fun ρ0 hv => fun q hq => by
    simp only [List.mem_cons, List.not_mem_nil, or_false] at hq
    rw [hq]; exact t_rqcr hv) (QC_run 260 e_rqc)
