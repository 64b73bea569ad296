/-! ===== the demand in increments: Modes.demandIncrements and demanded ===== -/
noncomputable def c_whole0 : sC := ((112, 352, 4), ([tr 52], [tr 219, .arg 1308]), ([52, 42], [219, 265]), [], ([60033], []), (some (.arg 60033), some (.arg 60033)), [], ([], []))
theorem c_whole0_f : cfine zVP 65536 c_whole0 = true := by decide +kernel
theorem e_whole0 : frun kR [] (cpl1 zVP c_whole0 []) (cpl2 zVP c_whole0 []) (cleaf kR zVP c_whole0 []) 3000 65536 (isatP (c_whole0.2.2.2.1) c_whole0.2.2.2.2.2.2.2.1) c_whole0.2.2.2.2.2.2.2.1 (sin0 mt_all c_whole0.1.1 3 c_whole0.2.1.1 (foot zVP c_whole0.2.2.1.1)) (sin0 mt_all c_whole0.1.2.1 3 c_whole0.2.1.2 (foot zVP c_whole0.2.2.1.2)) = true := by decide +kernel
theorem s_whole0 {X : pX} : SREL X pF pdfl mt_all kR zVP c_whole0 := SREL_QC kR_x kR_0 (Cs := []) (fun C hC => by cases hC) (d := 3) rfl c_whole0_f (Q := []) (fun ρ0 hv q hq => by cases hq) (QC_run 3000 e_whole0)
