/-! ===== a call: frame ===== -/
noncomputable def c_frm0_0 : sC := ((178, 403, 6), ([tr 0, .arg 60064, .int 0, .int 0, .arg 60065], [tr 219, .arg 60064, .int 0, .int 0, .arg 60065]), ([0, 2, 3, 8, 9, 14, 15], [219, 237, 238, 239, 240, 241]), [((2, .arg 60064, .int 0), false), ((2, .int 2047, .arg 60064), false)], ([19232, 60128, 1418, 1312], [1536, 1409]), (some (.arg 60128), some (.arg 60128)), [((0, .arg 19232, .int 0), true)], ([], []))
theorem c_frm0_0_f : cfine zH 65536 c_frm0_0 = true := by decide +kernel
theorem e_frm0_0 : frun kR [(zH, c_sendg)] (cpl1 zH c_frm0_0 []) (cpl2 zH c_frm0_0 []) (cleaf kR zH c_frm0_0 []) 160 65536 (isatP (((6, .long 0, .op2 .land (.arg 60065) (.op2 .lsub (.op2 .lshl (.long 1) (.mul (.int 0) (.int 8))) (.long 1))), true) :: c_frm0_0.2.2.2.1) c_frm0_0.2.2.2.2.2.2.2.1) c_frm0_0.2.2.2.2.2.2.2.1 (sin0 mt_all c_frm0_0.1.1 5 c_frm0_0.2.1.1 (foot zH c_frm0_0.2.2.1.1)) (sin0 mt_all c_frm0_0.1.2.1 5 c_frm0_0.2.1.2 (foot zH c_frm0_0.2.2.1.2)) = true := by decide +kernel
theorem s_frm0_0 {X : pX} : SREL X pF pdfl mt_all kR zH c_frm0_0 := SREL_QC kR_x kR_0 (Cs := [(zH, c_sendg)]) (fun C hC => by
    simp only [List.mem_cons, List.not_mem_nil, or_false] at hC
    rw [hC]; exact s_sendg) (d := 5) rfl c_frm0_0_f (Q := []) (fun ρ0 hv q hq => by cases hq) (fun ρ hF hI => QC_run 160 e_frm0_0 ρ ⟨hF.1, fcn (decide_eq_true (show (0 : Int64) = ρ.2.1 60065 &&& (sd X ρ (.op2 .lsub (.op2 .lshl (.long 1) (.mul (.int 0) (.int 8))) (.long 1))).2 by rw [show (sd X ρ (.op2 .lsub (.op2 .lshl (.long 1) (.mul (.int 0) (.int 8))) (.long 1))).2 = 0 from (by first | decide +kernel | (simp only [sd, s2]; decide) | (simp [sd, s2])), Int64.and_zero])) hF.2⟩ hI)
noncomputable def c_frm0_1 : sC := ((178, 403, 6), ([tr 0, .arg 60064, .int 0, .int 1, .arg 60065], [tr 219, .arg 60064, .int 0, .int 1, .arg 60065]), ([0, 2, 3, 8, 9, 14, 15], [219, 237, 238, 239, 240, 241]), [((2, .arg 60064, .int 0), false), ((2, .int 2047, .arg 60064), false)], ([19232, 60128, 1418, 1312], [1536, 1409]), (some (.arg 60128), some (.arg 60128)), [((0, .arg 19232, .int 0), true)], ([], []))
theorem c_frm0_1_f : cfine zH 65536 c_frm0_1 = true := by decide +kernel
theorem e_frm0_1 : frun kR [(zH, c_sendg)] (cpl1 zH c_frm0_1 []) (cpl2 zH c_frm0_1 []) (cleaf kR zH c_frm0_1 []) 160 65536 (isatP (c_frm0_1.2.2.2.1) c_frm0_1.2.2.2.2.2.2.2.1) c_frm0_1.2.2.2.2.2.2.2.1 (sin0 mt_all c_frm0_1.1.1 5 c_frm0_1.2.1.1 (foot zH c_frm0_1.2.2.1.1)) (sin0 mt_all c_frm0_1.1.2.1 5 c_frm0_1.2.1.2 (foot zH c_frm0_1.2.2.1.2)) = true := by decide +kernel
theorem s_frm0_1 {X : pX} : SREL X pF pdfl mt_all kR zH c_frm0_1 := SREL_QC kR_x kR_0 (Cs := [(zH, c_sendg)]) (fun C hC => by
    simp only [List.mem_cons, List.not_mem_nil, or_false] at hC
    rw [hC]; exact s_sendg) (d := 5) rfl c_frm0_1_f (Q := []) (fun ρ0 hv q hq => by cases hq) (QC_run 160 e_frm0_1)
noncomputable def c_frm0_2 : sC := ((178, 403, 6), ([tr 0, .arg 60064, .int 0, .int 2, .arg 60065], [tr 219, .arg 60064, .int 0, .int 2, .arg 60065]), ([0, 2, 3, 8, 9, 14, 15], [219, 237, 238, 239, 240, 241]), [((2, .arg 60064, .int 0), false), ((2, .int 2047, .arg 60064), false)], ([19232, 60128, 1418, 1312], [1536, 1409]), (some (.arg 60128), some (.arg 60128)), [((0, .arg 19232, .int 0), true)], ([], []))
theorem c_frm0_2_f : cfine zH 65536 c_frm0_2 = true := by decide +kernel
theorem e_frm0_2 : frun kR [(zH, c_sendg)] (cpl1 zH c_frm0_2 []) (cpl2 zH c_frm0_2 []) (cleaf kR zH c_frm0_2 []) 160 65536 (isatP (c_frm0_2.2.2.2.1) c_frm0_2.2.2.2.2.2.2.2.1) c_frm0_2.2.2.2.2.2.2.2.1 (sin0 mt_all c_frm0_2.1.1 5 c_frm0_2.2.1.1 (foot zH c_frm0_2.2.2.1.1)) (sin0 mt_all c_frm0_2.1.2.1 5 c_frm0_2.2.1.2 (foot zH c_frm0_2.2.2.1.2)) = true := by decide +kernel
theorem s_frm0_2 {X : pX} : SREL X pF pdfl mt_all kR zH c_frm0_2 := SREL_QC kR_x kR_0 (Cs := [(zH, c_sendg)]) (fun C hC => by
    simp only [List.mem_cons, List.not_mem_nil, or_false] at hC
    rw [hC]; exact s_sendg) (d := 5) rfl c_frm0_2_f (Q := []) (fun ρ0 hv q hq => by cases hq) (QC_run 160 e_frm0_2)
noncomputable def c_frm0_3 : sC := ((178, 403, 6), ([tr 0, .arg 60064, .int 0, .int 3, .arg 60065], [tr 219, .arg 60064, .int 0, .int 3, .arg 60065]), ([0, 2, 3, 8, 9, 14, 15], [219, 237, 238, 239, 240, 241]), [((2, .arg 60064, .int 0), false), ((2, .int 2047, .arg 60064), false)], ([19232, 60128, 1418, 1312], [1536, 1409]), (some (.arg 60128), some (.arg 60128)), [((0, .arg 19232, .int 0), true)], ([], []))
theorem c_frm0_3_f : cfine zH 65536 c_frm0_3 = true := by decide +kernel
theorem e_frm0_3 : frun kR [(zH, c_sendg)] (cpl1 zH c_frm0_3 []) (cpl2 zH c_frm0_3 []) (cleaf kR zH c_frm0_3 []) 160 65536 (isatP (c_frm0_3.2.2.2.1) c_frm0_3.2.2.2.2.2.2.2.1) c_frm0_3.2.2.2.2.2.2.2.1 (sin0 mt_all c_frm0_3.1.1 5 c_frm0_3.2.1.1 (foot zH c_frm0_3.2.2.1.1)) (sin0 mt_all c_frm0_3.1.2.1 5 c_frm0_3.2.1.2 (foot zH c_frm0_3.2.2.1.2)) = true := by decide +kernel
theorem s_frm0_3 {X : pX} : SREL X pF pdfl mt_all kR zH c_frm0_3 := SREL_QC kR_x kR_0 (Cs := [(zH, c_sendg)]) (fun C hC => by
    simp only [List.mem_cons, List.not_mem_nil, or_false] at hC
    rw [hC]; exact s_sendg) (d := 5) rfl c_frm0_3_f (Q := []) (fun ρ0 hv q hq => by cases hq) (QC_run 160 e_frm0_3)
noncomputable def c_frm0_4 : sC := ((178, 403, 6), ([tr 0, .arg 60064, .int 0, .int 4, .arg 60065], [tr 219, .arg 60064, .int 0, .int 4, .arg 60065]), ([0, 2, 3, 8, 9, 14, 15], [219, 237, 238, 239, 240, 241]), [((2, .arg 60064, .int 0), false), ((2, .int 2047, .arg 60064), false)], ([19232, 60128, 1418, 1312], [1536, 1409]), (some (.arg 60128), some (.arg 60128)), [((0, .arg 19232, .int 0), true)], ([], []))
theorem c_frm0_4_f : cfine zH 65536 c_frm0_4 = true := by decide +kernel
theorem e_frm0_4 : frun kR [(zH, c_sendg)] (cpl1 zH c_frm0_4 []) (cpl2 zH c_frm0_4 []) (cleaf kR zH c_frm0_4 []) 160 65536 (isatP (c_frm0_4.2.2.2.1) c_frm0_4.2.2.2.2.2.2.2.1) c_frm0_4.2.2.2.2.2.2.2.1 (sin0 mt_all c_frm0_4.1.1 5 c_frm0_4.2.1.1 (foot zH c_frm0_4.2.2.1.1)) (sin0 mt_all c_frm0_4.1.2.1 5 c_frm0_4.2.1.2 (foot zH c_frm0_4.2.2.1.2)) = true := by decide +kernel
theorem s_frm0_4 {X : pX} : SREL X pF pdfl mt_all kR zH c_frm0_4 := SREL_QC kR_x kR_0 (Cs := [(zH, c_sendg)]) (fun C hC => by
    simp only [List.mem_cons, List.not_mem_nil, or_false] at hC
    rw [hC]; exact s_sendg) (d := 5) rfl c_frm0_4_f (Q := []) (fun ρ0 hv q hq => by cases hq) (QC_run 160 e_frm0_4)
noncomputable def c_frm0_5 : sC := ((178, 403, 6), ([tr 0, .arg 60064, .int 0, .int 5, .arg 60065], [tr 219, .arg 60064, .int 0, .int 5, .arg 60065]), ([0, 2, 3, 8, 9, 14, 15], [219, 237, 238, 239, 240, 241]), [((2, .arg 60064, .int 0), false), ((2, .int 2047, .arg 60064), false)], ([19232, 60128, 1418, 1312], [1536, 1409]), (some (.arg 60128), some (.arg 60128)), [((0, .arg 19232, .int 0), true)], ([], []))
theorem c_frm0_5_f : cfine zH 65536 c_frm0_5 = true := by decide +kernel
theorem e_frm0_5 : frun kR [(zH, c_sendg)] (cpl1 zH c_frm0_5 []) (cpl2 zH c_frm0_5 []) (cleaf kR zH c_frm0_5 []) 160 65536 (isatP (c_frm0_5.2.2.2.1) c_frm0_5.2.2.2.2.2.2.2.1) c_frm0_5.2.2.2.2.2.2.2.1 (sin0 mt_all c_frm0_5.1.1 5 c_frm0_5.2.1.1 (foot zH c_frm0_5.2.2.1.1)) (sin0 mt_all c_frm0_5.1.2.1 5 c_frm0_5.2.1.2 (foot zH c_frm0_5.2.2.1.2)) = true := by decide +kernel
theorem s_frm0_5 {X : pX} : SREL X pF pdfl mt_all kR zH c_frm0_5 := SREL_QC kR_x kR_0 (Cs := [(zH, c_sendg)]) (fun C hC => by
    simp only [List.mem_cons, List.not_mem_nil, or_false] at hC
    rw [hC]; exact s_sendg) (d := 5) rfl c_frm0_5_f (Q := []) (fun ρ0 hv q hq => by cases hq) (QC_run 160 e_frm0_5)
noncomputable def c_frm0_6 : sC := ((178, 403, 6), ([tr 0, .arg 60064, .int 0, .int 6, .arg 60065], [tr 219, .arg 60064, .int 0, .int 6, .arg 60065]), ([0, 2, 3, 8, 9, 14, 15], [219, 237, 238, 239, 240, 241]), [((2, .arg 60064, .int 0), false), ((2, .int 2047, .arg 60064), false)], ([19232, 60128, 1418, 1312], [1536, 1409]), (some (.arg 60128), some (.arg 60128)), [((0, .arg 19232, .int 0), true)], ([], []))
theorem c_frm0_6_f : cfine zH 65536 c_frm0_6 = true := by decide +kernel
theorem e_frm0_6 : frun kR [(zH, c_sendg)] (cpl1 zH c_frm0_6 []) (cpl2 zH c_frm0_6 []) (cleaf kR zH c_frm0_6 []) 160 65536 (isatP (c_frm0_6.2.2.2.1) c_frm0_6.2.2.2.2.2.2.2.1) c_frm0_6.2.2.2.2.2.2.2.1 (sin0 mt_all c_frm0_6.1.1 5 c_frm0_6.2.1.1 (foot zH c_frm0_6.2.2.1.1)) (sin0 mt_all c_frm0_6.1.2.1 5 c_frm0_6.2.1.2 (foot zH c_frm0_6.2.2.1.2)) = true := by decide +kernel
theorem s_frm0_6 {X : pX} : SREL X pF pdfl mt_all kR zH c_frm0_6 := SREL_QC kR_x kR_0 (Cs := [(zH, c_sendg)]) (fun C hC => by
    simp only [List.mem_cons, List.not_mem_nil, or_false] at hC
    rw [hC]; exact s_sendg) (d := 5) rfl c_frm0_6_f (Q := []) (fun ρ0 hv q hq => by cases hq) (QC_run 160 e_frm0_6)
noncomputable def c_frm0_7 : sC := ((178, 403, 6), ([tr 0, .arg 60064, .int 0, .int 7, .arg 60065], [tr 219, .arg 60064, .int 0, .int 7, .arg 60065]), ([0, 2, 3, 8, 9, 14, 15], [219, 237, 238, 239, 240, 241]), [((2, .arg 60064, .int 0), false), ((2, .int 2047, .arg 60064), false)], ([19232, 60128, 1418, 1312], [1536, 1409]), (some (.arg 60128), some (.arg 60128)), [((0, .arg 19232, .int 0), true)], ([], []))
theorem c_frm0_7_f : cfine zH 65536 c_frm0_7 = true := by decide +kernel
theorem e_frm0_7 : frun kR [(zH, c_sendg)] (cpl1 zH c_frm0_7 []) (cpl2 zH c_frm0_7 []) (cleaf kR zH c_frm0_7 []) 160 65536 (isatP (c_frm0_7.2.2.2.1) c_frm0_7.2.2.2.2.2.2.2.1) c_frm0_7.2.2.2.2.2.2.2.1 (sin0 mt_all c_frm0_7.1.1 5 c_frm0_7.2.1.1 (foot zH c_frm0_7.2.2.1.1)) (sin0 mt_all c_frm0_7.1.2.1 5 c_frm0_7.2.1.2 (foot zH c_frm0_7.2.2.1.2)) = true := by decide +kernel
theorem s_frm0_7 {X : pX} : SREL X pF pdfl mt_all kR zH c_frm0_7 := SREL_QC kR_x kR_0 (Cs := [(zH, c_sendg)]) (fun C hC => by
    simp only [List.mem_cons, List.not_mem_nil, or_false] at hC
    rw [hC]; exact s_sendg) (d := 5) rfl c_frm0_7_f (Q := []) (fun ρ0 hv q hq => by cases hq) (QC_run 160 e_frm0_7)
noncomputable def c_frm0_8 : sC := ((178, 403, 6), ([tr 0, .arg 60064, .int 0, .int 8, .arg 60065], [tr 219, .arg 60064, .int 0, .int 8, .arg 60065]), ([0, 2, 3, 8, 9, 14, 15], [219, 237, 238, 239, 240, 241]), [((2, .arg 60064, .int 0), false), ((2, .int 2047, .arg 60064), false)], ([19232, 60128, 1418, 1312], [1536, 1409]), (some (.arg 60128), some (.arg 60128)), [((0, .arg 19232, .int 0), true)], ([], []))
theorem c_frm0_8_f : cfine zH 65536 c_frm0_8 = true := by decide +kernel
theorem e_frm0_8 : frun kR [(zH, c_sendg)] (cpl1 zH c_frm0_8 []) (cpl2 zH c_frm0_8 []) (cleaf kR zH c_frm0_8 []) 160 65536 (isatP (c_frm0_8.2.2.2.1) c_frm0_8.2.2.2.2.2.2.2.1) c_frm0_8.2.2.2.2.2.2.2.1 (sin0 mt_all c_frm0_8.1.1 5 c_frm0_8.2.1.1 (foot zH c_frm0_8.2.2.1.1)) (sin0 mt_all c_frm0_8.1.2.1 5 c_frm0_8.2.1.2 (foot zH c_frm0_8.2.2.1.2)) = true := by decide +kernel
theorem s_frm0_8 {X : pX} : SREL X pF pdfl mt_all kR zH c_frm0_8 := SREL_QC kR_x kR_0 (Cs := [(zH, c_sendg)]) (fun C hC => by
    simp only [List.mem_cons, List.not_mem_nil, or_false] at hC
    rw [hC]; exact s_sendg) (d := 5) rfl c_frm0_8_f (Q := []) (fun ρ0 hv q hq => by cases hq) (QC_run 160 e_frm0_8)
noncomputable def c_frm1_0 : sC := ((178, 403, 6), ([tr 0, .arg 60064, .int 1, .int 0, .arg 60065], [tr 219, .arg 60064, .int 1, .int 0, .arg 60065]), ([0, 2, 3, 8, 9, 14, 15], [219, 237, 238, 239, 240, 241]), [((2, .arg 60064, .int 0), false), ((2, .int 2047, .arg 60064), false)], ([19232, 60128, 1418, 1312], [1536, 1409]), (some (.arg 60128), some (.arg 60128)), [((0, .arg 19232, .int 0), true)], ([], []))
theorem c_frm1_0_f : cfine zH 65536 c_frm1_0 = true := by decide +kernel
theorem e_frm1_0 : frun kR [(zH, c_sendg)] (cpl1 zH c_frm1_0 []) (cpl2 zH c_frm1_0 []) (cleaf kR zH c_frm1_0 []) 160 65536 (isatP (c_frm1_0.2.2.2.1) c_frm1_0.2.2.2.2.2.2.2.1) c_frm1_0.2.2.2.2.2.2.2.1 (sin0 mt_all c_frm1_0.1.1 5 c_frm1_0.2.1.1 (foot zH c_frm1_0.2.2.1.1)) (sin0 mt_all c_frm1_0.1.2.1 5 c_frm1_0.2.1.2 (foot zH c_frm1_0.2.2.1.2)) = true := by decide +kernel
theorem s_frm1_0 {X : pX} : SREL X pF pdfl mt_all kR zH c_frm1_0 := SREL_QC kR_x kR_0 (Cs := [(zH, c_sendg)]) (fun C hC => by
    simp only [List.mem_cons, List.not_mem_nil, or_false] at hC
    rw [hC]; exact s_sendg) (d := 5) rfl c_frm1_0_f (Q := []) (fun ρ0 hv q hq => by cases hq) (QC_run 160 e_frm1_0)
noncomputable def c_frm1_1 : sC := ((178, 403, 6), ([tr 0, .arg 60064, .int 1, .int 1, .arg 60065], [tr 219, .arg 60064, .int 1, .int 1, .arg 60065]), ([0, 2, 3, 8, 9, 14, 15], [219, 237, 238, 239, 240, 241]), [((2, .arg 60064, .int 0), false), ((2, .int 2047, .arg 60064), false)], ([19232, 60128, 1418, 1312], [1536, 1409]), (some (.arg 60128), some (.arg 60128)), [((0, .arg 19232, .int 0), true)], ([], []))
theorem c_frm1_1_f : cfine zH 65536 c_frm1_1 = true := by decide +kernel
theorem e_frm1_1 : frun kR [(zH, c_sendg)] (cpl1 zH c_frm1_1 []) (cpl2 zH c_frm1_1 []) (cleaf kR zH c_frm1_1 []) 160 65536 (isatP (c_frm1_1.2.2.2.1) c_frm1_1.2.2.2.2.2.2.2.1) c_frm1_1.2.2.2.2.2.2.2.1 (sin0 mt_all c_frm1_1.1.1 5 c_frm1_1.2.1.1 (foot zH c_frm1_1.2.2.1.1)) (sin0 mt_all c_frm1_1.1.2.1 5 c_frm1_1.2.1.2 (foot zH c_frm1_1.2.2.1.2)) = true := by decide +kernel
theorem s_frm1_1 {X : pX} : SREL X pF pdfl mt_all kR zH c_frm1_1 := SREL_QC kR_x kR_0 (Cs := [(zH, c_sendg)]) (fun C hC => by
    simp only [List.mem_cons, List.not_mem_nil, or_false] at hC
    rw [hC]; exact s_sendg) (d := 5) rfl c_frm1_1_f (Q := []) (fun ρ0 hv q hq => by cases hq) (QC_run 160 e_frm1_1)
noncomputable def c_frm1_2 : sC := ((178, 403, 6), ([tr 0, .arg 60064, .int 1, .int 2, .arg 60065], [tr 219, .arg 60064, .int 1, .int 2, .arg 60065]), ([0, 2, 3, 8, 9, 14, 15], [219, 237, 238, 239, 240, 241]), [((2, .arg 60064, .int 0), false), ((2, .int 2047, .arg 60064), false)], ([19232, 60128, 1418, 1312], [1536, 1409]), (some (.arg 60128), some (.arg 60128)), [((0, .arg 19232, .int 0), true)], ([], []))
theorem c_frm1_2_f : cfine zH 65536 c_frm1_2 = true := by decide +kernel
theorem e_frm1_2 : frun kR [(zH, c_sendg)] (cpl1 zH c_frm1_2 []) (cpl2 zH c_frm1_2 []) (cleaf kR zH c_frm1_2 []) 160 65536 (isatP (c_frm1_2.2.2.2.1) c_frm1_2.2.2.2.2.2.2.2.1) c_frm1_2.2.2.2.2.2.2.2.1 (sin0 mt_all c_frm1_2.1.1 5 c_frm1_2.2.1.1 (foot zH c_frm1_2.2.2.1.1)) (sin0 mt_all c_frm1_2.1.2.1 5 c_frm1_2.2.1.2 (foot zH c_frm1_2.2.2.1.2)) = true := by decide +kernel
theorem s_frm1_2 {X : pX} : SREL X pF pdfl mt_all kR zH c_frm1_2 := SREL_QC kR_x kR_0 (Cs := [(zH, c_sendg)]) (fun C hC => by
    simp only [List.mem_cons, List.not_mem_nil, or_false] at hC
    rw [hC]; exact s_sendg) (d := 5) rfl c_frm1_2_f (Q := []) (fun ρ0 hv q hq => by cases hq) (QC_run 160 e_frm1_2)
noncomputable def c_frm1_3 : sC := ((178, 403, 6), ([tr 0, .arg 60064, .int 1, .int 3, .arg 60065], [tr 219, .arg 60064, .int 1, .int 3, .arg 60065]), ([0, 2, 3, 8, 9, 14, 15], [219, 237, 238, 239, 240, 241]), [((2, .arg 60064, .int 0), false), ((2, .int 2047, .arg 60064), false)], ([19232, 60128, 1418, 1312], [1536, 1409]), (some (.arg 60128), some (.arg 60128)), [((0, .arg 19232, .int 0), true)], ([], []))
theorem c_frm1_3_f : cfine zH 65536 c_frm1_3 = true := by decide +kernel
theorem e_frm1_3 : frun kR [(zH, c_sendg)] (cpl1 zH c_frm1_3 []) (cpl2 zH c_frm1_3 []) (cleaf kR zH c_frm1_3 []) 160 65536 (isatP (c_frm1_3.2.2.2.1) c_frm1_3.2.2.2.2.2.2.2.1) c_frm1_3.2.2.2.2.2.2.2.1 (sin0 mt_all c_frm1_3.1.1 5 c_frm1_3.2.1.1 (foot zH c_frm1_3.2.2.1.1)) (sin0 mt_all c_frm1_3.1.2.1 5 c_frm1_3.2.1.2 (foot zH c_frm1_3.2.2.1.2)) = true := by decide +kernel
theorem s_frm1_3 {X : pX} : SREL X pF pdfl mt_all kR zH c_frm1_3 := SREL_QC kR_x kR_0 (Cs := [(zH, c_sendg)]) (fun C hC => by
    simp only [List.mem_cons, List.not_mem_nil, or_false] at hC
    rw [hC]; exact s_sendg) (d := 5) rfl c_frm1_3_f (Q := []) (fun ρ0 hv q hq => by cases hq) (QC_run 160 e_frm1_3)
noncomputable def c_frm1_4 : sC := ((178, 403, 6), ([tr 0, .arg 60064, .int 1, .int 4, .arg 60065], [tr 219, .arg 60064, .int 1, .int 4, .arg 60065]), ([0, 2, 3, 8, 9, 14, 15], [219, 237, 238, 239, 240, 241]), [((2, .arg 60064, .int 0), false), ((2, .int 2047, .arg 60064), false)], ([19232, 60128, 1418, 1312], [1536, 1409]), (some (.arg 60128), some (.arg 60128)), [((0, .arg 19232, .int 0), true)], ([], []))
theorem c_frm1_4_f : cfine zH 65536 c_frm1_4 = true := by decide +kernel
theorem e_frm1_4 : frun kR [(zH, c_sendg)] (cpl1 zH c_frm1_4 []) (cpl2 zH c_frm1_4 []) (cleaf kR zH c_frm1_4 []) 160 65536 (isatP (c_frm1_4.2.2.2.1) c_frm1_4.2.2.2.2.2.2.2.1) c_frm1_4.2.2.2.2.2.2.2.1 (sin0 mt_all c_frm1_4.1.1 5 c_frm1_4.2.1.1 (foot zH c_frm1_4.2.2.1.1)) (sin0 mt_all c_frm1_4.1.2.1 5 c_frm1_4.2.1.2 (foot zH c_frm1_4.2.2.1.2)) = true := by decide +kernel
theorem s_frm1_4 {X : pX} : SREL X pF pdfl mt_all kR zH c_frm1_4 := SREL_QC kR_x kR_0 (Cs := [(zH, c_sendg)]) (fun C hC => by
    simp only [List.mem_cons, List.not_mem_nil, or_false] at hC
    rw [hC]; exact s_sendg) (d := 5) rfl c_frm1_4_f (Q := []) (fun ρ0 hv q hq => by cases hq) (QC_run 160 e_frm1_4)
noncomputable def c_frm1_5 : sC := ((178, 403, 6), ([tr 0, .arg 60064, .int 1, .int 5, .arg 60065], [tr 219, .arg 60064, .int 1, .int 5, .arg 60065]), ([0, 2, 3, 8, 9, 14, 15], [219, 237, 238, 239, 240, 241]), [((2, .arg 60064, .int 0), false), ((2, .int 2047, .arg 60064), false)], ([19232, 60128, 1418, 1312], [1536, 1409]), (some (.arg 60128), some (.arg 60128)), [((0, .arg 19232, .int 0), true)], ([], []))
theorem c_frm1_5_f : cfine zH 65536 c_frm1_5 = true := by decide +kernel
theorem e_frm1_5 : frun kR [(zH, c_sendg)] (cpl1 zH c_frm1_5 []) (cpl2 zH c_frm1_5 []) (cleaf kR zH c_frm1_5 []) 160 65536 (isatP (c_frm1_5.2.2.2.1) c_frm1_5.2.2.2.2.2.2.2.1) c_frm1_5.2.2.2.2.2.2.2.1 (sin0 mt_all c_frm1_5.1.1 5 c_frm1_5.2.1.1 (foot zH c_frm1_5.2.2.1.1)) (sin0 mt_all c_frm1_5.1.2.1 5 c_frm1_5.2.1.2 (foot zH c_frm1_5.2.2.1.2)) = true := by decide +kernel
theorem s_frm1_5 {X : pX} : SREL X pF pdfl mt_all kR zH c_frm1_5 := SREL_QC kR_x kR_0 (Cs := [(zH, c_sendg)]) (fun C hC => by
    simp only [List.mem_cons, List.not_mem_nil, or_false] at hC
    rw [hC]; exact s_sendg) (d := 5) rfl c_frm1_5_f (Q := []) (fun ρ0 hv q hq => by cases hq) (QC_run 160 e_frm1_5)
noncomputable def c_frm1_6 : sC := ((178, 403, 6), ([tr 0, .arg 60064, .int 1, .int 6, .arg 60065], [tr 219, .arg 60064, .int 1, .int 6, .arg 60065]), ([0, 2, 3, 8, 9, 14, 15], [219, 237, 238, 239, 240, 241]), [((2, .arg 60064, .int 0), false), ((2, .int 2047, .arg 60064), false)], ([19232, 60128, 1418, 1312], [1536, 1409]), (some (.arg 60128), some (.arg 60128)), [((0, .arg 19232, .int 0), true)], ([], []))
theorem c_frm1_6_f : cfine zH 65536 c_frm1_6 = true := by decide +kernel
theorem e_frm1_6 : frun kR [(zH, c_sendg)] (cpl1 zH c_frm1_6 []) (cpl2 zH c_frm1_6 []) (cleaf kR zH c_frm1_6 []) 160 65536 (isatP (c_frm1_6.2.2.2.1) c_frm1_6.2.2.2.2.2.2.2.1) c_frm1_6.2.2.2.2.2.2.2.1 (sin0 mt_all c_frm1_6.1.1 5 c_frm1_6.2.1.1 (foot zH c_frm1_6.2.2.1.1)) (sin0 mt_all c_frm1_6.1.2.1 5 c_frm1_6.2.1.2 (foot zH c_frm1_6.2.2.1.2)) = true := by decide +kernel
theorem s_frm1_6 {X : pX} : SREL X pF pdfl mt_all kR zH c_frm1_6 := SREL_QC kR_x kR_0 (Cs := [(zH, c_sendg)]) (fun C hC => by
    simp only [List.mem_cons, List.not_mem_nil, or_false] at hC
    rw [hC]; exact s_sendg) (d := 5) rfl c_frm1_6_f (Q := []) (fun ρ0 hv q hq => by cases hq) (QC_run 160 e_frm1_6)
noncomputable def c_frm1_7 : sC := ((178, 403, 6), ([tr 0, .arg 60064, .int 1, .int 7, .arg 60065], [tr 219, .arg 60064, .int 1, .int 7, .arg 60065]), ([0, 2, 3, 8, 9, 14, 15], [219, 237, 238, 239, 240, 241]), [((2, .arg 60064, .int 0), false), ((2, .int 2047, .arg 60064), false)], ([19232, 60128, 1418, 1312], [1536, 1409]), (some (.arg 60128), some (.arg 60128)), [((0, .arg 19232, .int 0), true)], ([], []))
theorem c_frm1_7_f : cfine zH 65536 c_frm1_7 = true := by decide +kernel
theorem e_frm1_7 : frun kR [(zH, c_sendg)] (cpl1 zH c_frm1_7 []) (cpl2 zH c_frm1_7 []) (cleaf kR zH c_frm1_7 []) 160 65536 (isatP (c_frm1_7.2.2.2.1) c_frm1_7.2.2.2.2.2.2.2.1) c_frm1_7.2.2.2.2.2.2.2.1 (sin0 mt_all c_frm1_7.1.1 5 c_frm1_7.2.1.1 (foot zH c_frm1_7.2.2.1.1)) (sin0 mt_all c_frm1_7.1.2.1 5 c_frm1_7.2.1.2 (foot zH c_frm1_7.2.2.1.2)) = true := by decide +kernel
theorem s_frm1_7 {X : pX} : SREL X pF pdfl mt_all kR zH c_frm1_7 := SREL_QC kR_x kR_0 (Cs := [(zH, c_sendg)]) (fun C hC => by
    simp only [List.mem_cons, List.not_mem_nil, or_false] at hC
    rw [hC]; exact s_sendg) (d := 5) rfl c_frm1_7_f (Q := []) (fun ρ0 hv q hq => by cases hq) (QC_run 160 e_frm1_7)
noncomputable def c_frm1_8 : sC := ((178, 403, 6), ([tr 0, .arg 60064, .int 1, .int 8, .arg 60065], [tr 219, .arg 60064, .int 1, .int 8, .arg 60065]), ([0, 2, 3, 8, 9, 14, 15], [219, 237, 238, 239, 240, 241]), [((2, .arg 60064, .int 0), false), ((2, .int 2047, .arg 60064), false)], ([19232, 60128, 1418, 1312], [1536, 1409]), (some (.arg 60128), some (.arg 60128)), [((0, .arg 19232, .int 0), true)], ([], []))
theorem c_frm1_8_f : cfine zH 65536 c_frm1_8 = true := by decide +kernel
theorem e_frm1_8 : frun kR [(zH, c_sendg)] (cpl1 zH c_frm1_8 []) (cpl2 zH c_frm1_8 []) (cleaf kR zH c_frm1_8 []) 160 65536 (isatP (c_frm1_8.2.2.2.1) c_frm1_8.2.2.2.2.2.2.2.1) c_frm1_8.2.2.2.2.2.2.2.1 (sin0 mt_all c_frm1_8.1.1 5 c_frm1_8.2.1.1 (foot zH c_frm1_8.2.2.1.1)) (sin0 mt_all c_frm1_8.1.2.1 5 c_frm1_8.2.1.2 (foot zH c_frm1_8.2.2.1.2)) = true := by decide +kernel
theorem s_frm1_8 {X : pX} : SREL X pF pdfl mt_all kR zH c_frm1_8 := SREL_QC kR_x kR_0 (Cs := [(zH, c_sendg)]) (fun C hC => by
    simp only [List.mem_cons, List.not_mem_nil, or_false] at hC
    rw [hC]; exact s_sendg) (d := 5) rfl c_frm1_8_f (Q := []) (fun ρ0 hv q hq => by cases hq) (QC_run 160 e_frm1_8)
