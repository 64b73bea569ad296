/-! ===== it is home: Modes.arrive and isHome ===== -/
noncomputable def c_home0 : sC := ((121, 359, 5), ([tr 52], [tr 219, .arg 1308]), ([52, 42, 43], [219, 228, 229, 220, 221, 265, 267, 279, 282]), [], ([1633, 1697, 1954, 2018, 20704], []), (none, none), [((0, .arg 2018, .int 0), true), ((0, .arg 20704, .int 0), true)], ([], []))
theorem c_home0_f : cfine zVP 65536 c_home0 = true := by decide +kernel
theorem e_home0 : frun kR [] (cpl1 zVP c_home0 []) (cpl2 zVP c_home0 []) (cleaf kR zVP c_home0 []) 3000 65536 (isatP (c_home0.2.2.2.1) c_home0.2.2.2.2.2.2.2.1) c_home0.2.2.2.2.2.2.2.1 (sin0 mt_all c_home0.1.1 4 c_home0.2.1.1 (foot zVP c_home0.2.2.1.1)) (sin0 mt_all c_home0.1.2.1 4 c_home0.2.1.2 (foot zVP c_home0.2.2.1.2)) = true := by decide +kernel
theorem s_home0 {X : pX} : SREL X pF pdfl mt_all kR zVP c_home0 := SREL_QC kR_x kR_0 (Cs := []) (fun C hC => by cases hC) (d := 4) rfl c_home0_f (Q := []) (fun ρ0 hv q hq => by cases hq) (QC_run 3000 e_home0)
