/-! ===== ... where the model has its own demand ===== -/
noncomputable def c_wholD0 : sC := ((112, 352, 4), ([tr 52], [tr 219, .arg 1308]), ([52, 42], [219, 265]), [((6, .arg 5313, .arg 1633), true)], ([60033], []), (some (.arg 60033), some (.arg 60033)), [], ([], []))
theorem c_wholD0_f : cfine zVD 65536 c_wholD0 = true := by decide +kernel
theorem e_wholD0 : frun kR [] (cpl1 zVD c_wholD0 []) (cpl2 zVD c_wholD0 []) (cleaf kR zVD c_wholD0 []) 3000 65536 (isatP (c_wholD0.2.2.2.1) c_wholD0.2.2.2.2.2.2.2.1) c_wholD0.2.2.2.2.2.2.2.1 (sin0 mt_all c_wholD0.1.1 3 c_wholD0.2.1.1 (foot zVD c_wholD0.2.2.1.1)) (sin0 mt_all c_wholD0.1.2.1 3 c_wholD0.2.1.2 (foot zVD c_wholD0.2.2.1.2)) = true := by decide +kernel
theorem s_wholD0 {X : pX} : SREL X pF pdfl mt_all kR zVD c_wholD0 := SREL_QC kR_x kR_0 (Cs := []) (fun C hC => by cases hC) (d := 3) rfl c_wholD0_f (Q := []) (fun ρ0 hv q hq => by cases hq) (QC_run 3000 e_wholD0)
