/-! ===== the probe: Axis.probe and probe ===== -/
noncomputable def c_probe0 : sC := ((38, 365, 6), ([tr 56], [tr 219, .arg 1308]), ([56, 42, 43], [219, 228, 229, 220, 221, 271, 267, 287]), [], ([6338, 7105, 7137, 7169], []), (none, none), [], ([], []))
theorem c_probe0_f : cfine zWP 65536 c_probe0 = true := by decide +kernel
theorem e_probe0 : frun kR [] (cpl1 zWP c_probe0 []) (cpl2 zWP c_probe0 []) (cleaf kR zWP c_probe0 []) 3000 65536 (isatP (c_probe0.2.2.2.1) c_probe0.2.2.2.2.2.2.2.1) c_probe0.2.2.2.2.2.2.2.1 (sin0 mt_all c_probe0.1.1 5 c_probe0.2.1.1 (foot zWP c_probe0.2.2.1.1)) (sin0 mt_all c_probe0.1.2.1 5 c_probe0.2.1.2 (foot zWP c_probe0.2.2.1.2)) = true := by decide +kernel
theorem s_probe0 {X : pX} : SREL X pF pdfl mt_all kR zWP c_probe0 := SREL_QC kR_x kR_0 (Cs := []) (fun C hC => by cases hC) (d := 5) rfl c_probe0_f (Q := []) (fun ρ0 hv => fun q hq => by cases hq) (QC_run 3000 e_probe0)
