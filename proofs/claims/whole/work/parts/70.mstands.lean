/-! ===== it stands at a place: Modes.standsAt and stands ===== -/
noncomputable def c_stands0 : sC := ((111, 258, 4), ([tr 52, .arg 60001], [tr 219, .arg 1308, .arg 60001]), ([52, 42], [219, 265, 266]), [], ([60002], []), (some (.arg 60002), some (.arg 60002)), [], ([], []))
theorem c_stands0_f : cfine zVP 65536 c_stands0 = true := by decide +kernel
theorem e_stands0 : frun kR [] (cpl1 zVP c_stands0 []) (cpl2 zVP c_stands0 []) (cleaf kR zVP c_stands0 []) 3000 65536 (isatP (c_stands0.2.2.2.1) c_stands0.2.2.2.2.2.2.2.1) c_stands0.2.2.2.2.2.2.2.1 (sin0 mt_all c_stands0.1.1 3 c_stands0.2.1.1 (foot zVP c_stands0.2.2.1.1)) (sin0 mt_all c_stands0.1.2.1 3 c_stands0.2.1.2 (foot zVP c_stands0.2.2.1.2)) = true := by decide +kernel
theorem s_stands0 {X : pX} : SREL X pF pdfl mt_all kR zVP c_stands0 := SREL_QC kR_x kR_0 (Cs := []) (fun C hC => by cases hC) (d := 3) rfl c_stands0_f (Q := []) (fun ρ0 hv q hq => by cases hq) (QC_run 3000 e_stands0)
