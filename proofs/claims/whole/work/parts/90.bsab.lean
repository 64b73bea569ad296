/-! ===== a broken-off job ===== -/
noncomputable def c_jab : sC := ((74, 370, 9), ([tr 203, .arg 60000], [tr 219, .arg 60000]), ([2, 3, 8, 9, 14, 15, 203], [219, 237, 238, 239, 240, 241]), [], ([1418, 1312, 17792, 18048, 17728, 17760], [1536, 1409]), (none, none), [((0, .arg 17728, .int 3), true)], ([], []))
theorem c_jab_f : cfine zJ 65536 c_jab = true := by decide +kernel
theorem e_jab : frun kR [(zJR, c_reqj)] (cpl1 zJ c_jab []) (cpl2 zJ c_jab []) (cleaf kR zJ c_jab []) 300 65536 (isatP (c_jab.2.2.2.1) c_jab.2.2.2.2.2.2.2.1) c_jab.2.2.2.2.2.2.2.1 (sin0 mt_all c_jab.1.1 8 c_jab.2.1.1 (foot zJ c_jab.2.2.1.1)) (sin0 mt_all c_jab.1.2.1 8 c_jab.2.1.2 (foot zJ c_jab.2.2.1.2)) = true := by decide +kernel
theorem s_jab {X : pX} : SREL X pF pdfl mt_all kR zJ c_jab := SREL_QC kR_x kR_0 (Cs := [(zJR, c_reqj)]) (fun C hC => by
    simp only [List.mem_cons, List.not_mem_nil, or_false] at hC
    rw [hC]; exact s_reqj) (d := 8) rfl c_jab_f (Q := []) (fun ρ0 hv q hq => by cases hq) (QC_run 300 e_jab)
