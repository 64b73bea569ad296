/-! ===== is the stage on: Data.isStageOn and hasStage ===== -/
noncomputable def c_stage0 : sC := ((57, 348, 3), ([tr 42], [tr 219, .arg 1308]), ([42], [219, 260]), [], ([60002], []), (some (.arg 60002), some (.arg 60002)), [], ([], []))
theorem c_stage0_f : cfine zVP 65536 c_stage0 = true := by decide +kernel
theorem e_stage0 : frun kR [] (cpl1 zVP c_stage0 []) (cpl2 zVP c_stage0 []) (cleaf kR zVP c_stage0 []) 3000 65536 (isatP (c_stage0.2.2.2.1) c_stage0.2.2.2.2.2.2.2.1) c_stage0.2.2.2.2.2.2.2.1 (sin0 mt_all c_stage0.1.1 2 c_stage0.2.1.1 (foot zVP c_stage0.2.2.1.1)) (sin0 mt_all c_stage0.1.2.1 2 c_stage0.2.1.2 (foot zVP c_stage0.2.2.1.2)) = true := by decide +kernel
theorem s_stage0 {X : pX} : SREL X pF pdfl mt_all kR zVP c_stage0 := SREL_QC kR_x kR_0 (Cs := []) (fun C hC => by cases hC) (d := 2) rfl c_stage0_f (Q := []) (fun ρ0 hv q hq => by cases hq) (QC_run 3000 e_stage0)
