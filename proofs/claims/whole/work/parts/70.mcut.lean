/-! ===== places within the bounds: Modes.cut and cut ===== -/
noncomputable def c_cut0 : sC := ((109, 257, 6), ([tr 52, .arg 60001], [tr 219, .arg 1308, .arg 60001]), ([52, 42, 43], [219, 228, 229, 220, 221]), [], ([60033], []), (some (.arg 60033), some (.arg 60033)), [], ([], []))
theorem c_cut0_f : cfine zVP 65536 c_cut0 = true := by decide +kernel
theorem e_cut0 : frun kR [] (cpl1 zVP c_cut0 []) (cpl2 zVP c_cut0 []) (cleaf kR zVP c_cut0 []) 3000 65536 (isatP (c_cut0.2.2.2.1) c_cut0.2.2.2.2.2.2.2.1) c_cut0.2.2.2.2.2.2.2.1 (sin0 mt_all c_cut0.1.1 5 c_cut0.2.1.1 (foot zVP c_cut0.2.2.1.1)) (sin0 mt_all c_cut0.1.2.1 5 c_cut0.2.1.2 (foot zVP c_cut0.2.2.1.2)) = true := by decide +kernel
theorem s_cut0 {X : pX} : SREL X pF pdfl mt_all kR zVP c_cut0 := SREL_QC kR_x kR_0 (Cs := []) (fun C hC => by cases hC) (d := 5) rfl c_cut0_f (Q := []) (fun ρ0 hv q hq => by cases hq) (QC_run 3000 e_cut0)
