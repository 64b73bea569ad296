/-! ===== a speed within the greatest: Modes.fast and fast ===== -/
def c_fast0 : sC := ((110, 255, 5), ([tr 52, .arg 60001], [tr 219, .arg 1308, .arg 60001]), ([52, 42, 43], [219, 228, 229, 220, 221]), [], ([60033], []), (some (.op2 .lmul (.arg 60033) (.long 1000)), some (.arg 60033)), [], ([], []))
theorem c_fast0_f : cfine zVP 65536 c_fast0 = true := by decide +kernel
theorem e_fast0 : frun kR [] (cpl1 zVP c_fast0 []) (cpl2 zVP c_fast0 []) (cleaf kR zVP c_fast0 []) 3000 65536 (isatP (c_fast0.2.2.2.1) c_fast0.2.2.2.2.2.2.2.1) c_fast0.2.2.2.2.2.2.2.1 (sin0 mt_all c_fast0.1.1 4 c_fast0.2.1.1 (foot zVP c_fast0.2.2.1.1)) (sin0 mt_all c_fast0.1.2.1 4 c_fast0.2.1.2 (foot zVP c_fast0.2.2.1.2)) = true := by decide +kernel
theorem s_fast0 {X : pX} : SREL X pF pdfl mt_all kR zVP c_fast0 := SREL_QC kR_x kR_0 (Cs := []) (fun C hC => by cases hC) (d := 4) rfl c_fast0_f (Q := []) (fun ρ0 hv q hq => by cases hq) (QC_run 3000 e_fast0)
