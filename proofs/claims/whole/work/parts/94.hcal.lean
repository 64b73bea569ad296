/-! ===== a call: log0 ===== -/
noncomputable def c_log0 : sC := ((198, 422, 5), ([tr 0, .arg 60032, .int 0], [tr 219, .arg 60032, .int 0]), ([0, 2, 35, 36, 37, 38], [219, 252, 253, 254, 255, 256, 257]), [((2, .arg 60032, .int 0), false), ((2, .arg 60032, .arg 1376), true), ((2, .arg 60032, .sub (.arg 1376) (.int 256)), false), ((2, .arg 1376, .int 0), false)], ([19232, 60129], []), (some (.arg 60129), some (.arg 60129)), [((0, .arg 19232, .int 0), true)], ([], []))
theorem c_log0_f : cfine zH 65536 c_log0 = true := by decide +kernel
theorem e_log0 : frun kR [] (cpl1 zH c_log0 []) (cpl2 zH c_log0 []) (cleaf kR zH c_log0 []) 160 65536 (isatP (c_log0.2.2.2.1) c_log0.2.2.2.2.2.2.2.1) c_log0.2.2.2.2.2.2.2.1 (sin0 mt_all c_log0.1.1 4 c_log0.2.1.1 (foot zH c_log0.2.2.1.1)) (sin0 mt_all c_log0.1.2.1 4 c_log0.2.1.2 (foot zH c_log0.2.2.1.2)) = true := by decide +kernel
theorem s_log0 {X : pX} : SREL X pF pdfl mt_all kR zH c_log0 := SREL_QC kR_x kR_0 (Cs := []) (fun C hC => by cases hC) (d := 4) rfl c_log0_f (Q := []) (fun ρ0 hv q hq => by cases hq) (fun ρ hF hI => by
  exact QC_run 160 e_log0 ρ ⟨hF.1, hF.2⟩ hI)
/-! ===== a call: log1 ===== -/
noncomputable def c_log1 : sC := ((198, 422, 5), ([tr 0, .arg 60032, .int 1], [tr 219, .arg 60032, .int 1]), ([0, 2, 35, 36, 37, 38], [219, 252, 253, 254, 255, 256, 257]), [((2, .arg 60032, .int 0), false), ((2, .arg 60032, .arg 1376), true), ((2, .arg 60032, .sub (.arg 1376) (.int 256)), false), ((2, .arg 1376, .int 0), false)], ([19232, 60129], []), (some (.arg 60129), some (.arg 60129)), [((0, .arg 19232, .int 0), true)], ([], []))
theorem c_log1_f : cfine zH 65536 c_log1 = true := by decide +kernel
theorem e_log1 : frun kR [] (cpl1 zH c_log1 []) (cpl2 zH c_log1 []) (cleaf kR zH c_log1 []) 160 65536 (isatP (c_log1.2.2.2.1) c_log1.2.2.2.2.2.2.2.1) c_log1.2.2.2.2.2.2.2.1 (sin0 mt_all c_log1.1.1 4 c_log1.2.1.1 (foot zH c_log1.2.2.1.1)) (sin0 mt_all c_log1.1.2.1 4 c_log1.2.1.2 (foot zH c_log1.2.2.1.2)) = true := by decide +kernel
theorem s_log1 {X : pX} : SREL X pF pdfl mt_all kR zH c_log1 := SREL_QC kR_x kR_0 (Cs := []) (fun C hC => by cases hC) (d := 4) rfl c_log1_f (Q := []) (fun ρ0 hv q hq => by cases hq) (fun ρ hF hI => by
  exact QC_run 160 e_log1 ρ ⟨hF.1, hF.2⟩ hI)
/-! ===== a call: log2 ===== -/
noncomputable def c_log2 : sC := ((198, 422, 5), ([tr 0, .arg 60032, .int 2], [tr 219, .arg 60032, .int 2]), ([0, 2, 35, 36, 37, 38], [219, 252, 253, 254, 255, 256, 257]), [((2, .arg 60032, .int 0), false), ((2, .arg 60032, .arg 1376), true), ((2, .arg 60032, .sub (.arg 1376) (.int 256)), false), ((2, .arg 1376, .int 0), false)], ([19232, 60129], []), (some (.arg 60129), some (.arg 60129)), [((0, .arg 19232, .int 0), true)], ([], []))
theorem c_log2_f : cfine zH 65536 c_log2 = true := by decide +kernel
theorem e_log2 : frun kR [] (cpl1 zH c_log2 []) (cpl2 zH c_log2 []) (cleaf kR zH c_log2 []) 160 65536 (isatP (c_log2.2.2.2.1) c_log2.2.2.2.2.2.2.2.1) c_log2.2.2.2.2.2.2.2.1 (sin0 mt_all c_log2.1.1 4 c_log2.2.1.1 (foot zH c_log2.2.2.1.1)) (sin0 mt_all c_log2.1.2.1 4 c_log2.2.1.2 (foot zH c_log2.2.2.1.2)) = true := by decide +kernel
theorem s_log2 {X : pX} : SREL X pF pdfl mt_all kR zH c_log2 := SREL_QC kR_x kR_0 (Cs := []) (fun C hC => by cases hC) (d := 4) rfl c_log2_f (Q := []) (fun ρ0 hv q hq => by cases hq) (fun ρ hF hI => by
  exact QC_run 160 e_log2 ρ ⟨hF.1, hF.2⟩ hI)
/-! ===== a call: log3 ===== -/
noncomputable def c_log3 : sC := ((198, 422, 5), ([tr 0, .arg 60032, .int 3], [tr 219, .arg 60032, .int 3]), ([0, 2, 35, 36, 37, 38], [219, 252, 253, 254, 255, 256, 257]), [((2, .arg 60032, .int 0), false), ((2, .arg 60032, .arg 1376), true), ((2, .arg 60032, .sub (.arg 1376) (.int 256)), false), ((2, .arg 1376, .int 0), false)], ([19232, 60129], []), (some (.arg 60129), some (.arg 60129)), [((0, .arg 19232, .int 0), true)], ([], []))
theorem c_log3_f : cfine zH 65536 c_log3 = true := by decide +kernel
theorem e_log3 : frun kR [] (cpl1 zH c_log3 []) (cpl2 zH c_log3 []) (cleaf kR zH c_log3 []) 160 65536 (isatP (c_log3.2.2.2.1) c_log3.2.2.2.2.2.2.2.1) c_log3.2.2.2.2.2.2.2.1 (sin0 mt_all c_log3.1.1 4 c_log3.2.1.1 (foot zH c_log3.2.2.1.1)) (sin0 mt_all c_log3.1.2.1 4 c_log3.2.1.2 (foot zH c_log3.2.2.1.2)) = true := by decide +kernel
theorem s_log3 {X : pX} : SREL X pF pdfl mt_all kR zH c_log3 := SREL_QC kR_x kR_0 (Cs := []) (fun C hC => by cases hC) (d := 4) rfl c_log3_f (Q := []) (fun ρ0 hv q hq => by cases hq) (fun ρ hF hI => by
  exact QC_run 160 e_log3 ρ ⟨hF.1, hF.2⟩ hI)
/-! ===== a call: log4 ===== -/
noncomputable def c_log4 : sC := ((198, 422, 5), ([tr 0, .arg 60032, .int 4], [tr 219, .arg 60032, .int 4]), ([0, 2, 35, 36, 37, 38], [219, 252, 253, 254, 255, 256, 257]), [((2, .arg 60032, .int 0), false), ((2, .arg 60032, .arg 1376), true), ((2, .arg 60032, .sub (.arg 1376) (.int 256)), false), ((2, .arg 1376, .int 0), false)], ([19232, 60129], []), (some (.arg 60129), some (.arg 60129)), [((0, .arg 19232, .int 0), true)], ([], []))
theorem c_log4_f : cfine zH 65536 c_log4 = true := by decide +kernel
theorem e_log4 : frun kR [] (cpl1 zH c_log4 []) (cpl2 zH c_log4 []) (cleaf kR zH c_log4 []) 160 65536 (isatP (c_log4.2.2.2.1) c_log4.2.2.2.2.2.2.2.1) c_log4.2.2.2.2.2.2.2.1 (sin0 mt_all c_log4.1.1 4 c_log4.2.1.1 (foot zH c_log4.2.2.1.1)) (sin0 mt_all c_log4.1.2.1 4 c_log4.2.1.2 (foot zH c_log4.2.2.1.2)) = true := by decide +kernel
theorem s_log4 {X : pX} : SREL X pF pdfl mt_all kR zH c_log4 := SREL_QC kR_x kR_0 (Cs := []) (fun C hC => by cases hC) (d := 4) rfl c_log4_f (Q := []) (fun ρ0 hv q hq => by cases hq) (fun ρ hF hI => by
  exact QC_run 160 e_log4 ρ ⟨hF.1, hF.2⟩ hI)
/-! ===== a call: log5 ===== -/
noncomputable def c_log5 : sC := ((198, 422, 5), ([tr 0, .arg 60032, .int 5], [tr 219, .arg 60032, .int 5]), ([0, 2, 35, 36, 37, 38], [219, 252, 253, 254, 255, 256, 257]), [((2, .arg 60032, .int 0), false), ((2, .arg 60032, .arg 1376), true), ((2, .arg 60032, .sub (.arg 1376) (.int 256)), false), ((2, .arg 1376, .int 0), false)], ([19232, 60129], []), (some (.arg 60129), some (.arg 60129)), [((0, .arg 19232, .int 0), true)], ([], []))
theorem c_log5_f : cfine zH 65536 c_log5 = true := by decide +kernel
theorem e_log5 : frun kR [] (cpl1 zH c_log5 []) (cpl2 zH c_log5 []) (cleaf kR zH c_log5 []) 160 65536 (isatP (c_log5.2.2.2.1) c_log5.2.2.2.2.2.2.2.1) c_log5.2.2.2.2.2.2.2.1 (sin0 mt_all c_log5.1.1 4 c_log5.2.1.1 (foot zH c_log5.2.2.1.1)) (sin0 mt_all c_log5.1.2.1 4 c_log5.2.1.2 (foot zH c_log5.2.2.1.2)) = true := by decide +kernel
theorem s_log5 {X : pX} : SREL X pF pdfl mt_all kR zH c_log5 := SREL_QC kR_x kR_0 (Cs := []) (fun C hC => by cases hC) (d := 4) rfl c_log5_f (Q := []) (fun ρ0 hv q hq => by cases hq) (fun ρ hF hI => by
  exact QC_run 160 e_log5 ρ ⟨hF.1, hF.2⟩ hI)
