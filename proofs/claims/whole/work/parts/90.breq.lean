/-! ===== a request ===== -/
noncomputable def c_reqj : sC := ((73, 368, 5), ([tr 203, .arg 60001], [tr 219, .arg 60001]), ([2, 3, 8, 9, 14, 15, 203], [219, 237, 238, 239, 240, 241]), [], ([1418, 1312, 17792, 18048], [1536, 1409]), (none, none), [], ([], []))
theorem c_reqj_f : cfine zJR 65536 c_reqj = true := by decide +kernel
theorem e_reqj : frun kR [(zH, c_send4)] (cpl1 zJR c_reqj []) (cpl2 zJR c_reqj []) (cleaf kR zJR c_reqj []) 3000 65536 (isatP (c_reqj.2.2.2.1) c_reqj.2.2.2.2.2.2.2.1) c_reqj.2.2.2.2.2.2.2.1 (sin0 mt_all c_reqj.1.1 4 c_reqj.2.1.1 (foot zJR c_reqj.2.2.1.1)) (sin0 mt_all c_reqj.1.2.1 4 c_reqj.2.1.2 (foot zJR c_reqj.2.2.1.2)) = true := by decide +kernel
theorem s_reqj {X : pX} : SREL X pF pdfl mt_all kR zJR c_reqj := SREL_QC kR_x kR_0 (Cs := [(zH, c_send4)]) (fun C hC => by rw [List.mem_singleton.mp hC]; exact s_send4) (d := 4) rfl c_reqj_f (Q := []) (fun ρ0 hv q hq => by cases hq) (QC_run 3000 e_reqj)
