set_option maxRecDepth 20000
/-! ===== entries and octets, over all drives ===== -/
noncomputable def cD_or0_13_0 : sC := ((183, 409, 20), ([tr 0, .int 0, .arg 60320, .arg 60352, .arg 60384], [tr 219, .int 0, .arg 60320, .arg 60352, .arg 60384]), (fT1, fT2), [], ([19232, 60000, 60064, 60065, 60096, 60128, 60160], []), (none, none), [], ([], []))
theorem cD_or0_13_0_f : cfine zT 65536 cD_or0_13_0 = true := by decide +kernel
noncomputable def f_or0_13_0 : sFs := [((0, .arg 1282, .int 0), false), ((2, .arg 60320, .int 0), false), ((2, .int 65535, .arg 60320), false), ((2, .arg 60352, .int 0), false), ((109, .add (.arg 60320) (.arg 60352), .int 13), true), ((0, .arg 60384, .int 0), true), ((2, .arg 60384, .int 0), false), ((2, .int 0, .arg 60384), false)]
noncomputable def i_or0_13_0 : sI := []
noncomputable def p_or0_13_0 : sCut := (tEr.1, tEr.2, [((0, .arg 19232, .int 0), true)], [])
theorem e_or0_13_0 : frun kR [(zWP, c_slo13), (zWP, c_fnd13)] (cpl1 zT cD_or0_13_0 [p_or0_13_0]) (cpl2 zT cD_or0_13_0 [p_or0_13_0]) (cleafN kR zT cD_or0_13_0 [p_or0_13_0]) 400 65536 (isatP f_or0_13_0 i_or0_13_0) i_or0_13_0 (sin0 mt_all cD_or0_13_0.1.1 18 cD_or0_13_0.2.1.1 (foot zT cD_or0_13_0.2.2.1.1)) (sin0 mt_all cD_or0_13_0.1.2.1 19 cD_or0_13_0.2.1.2 (foot zT cD_or0_13_0.2.2.1.2)) = true := by decide +kernel
theorem r_or0_13_0 {X : pX} {J : sR → List Value → List Value → Prop} {ρ : sR} (k1 : kok X ρ kR) (k2 : fok X ρ f_or0_13_0) (ki : iok X ρ i_or0_13_0) (hQ : ∀ ρ3 : sR, kok X ρ3 kR → fok X ρ3 p_or0_13_0.2.2.1 → agrM 65536 cD_or0_13_0.2.2.2.2.1.1 cD_or0_13_0.2.2.2.2.1.2 ρ3 ρ → RPt X J ρ3 tEr) : RelP X pF pdfl mt_all 19 20 (foot zT fT1) (foot zT fT2) J ρ (sin0 mt_all 183 18 cD_or0_13_0.2.1.1 (foot zT fT1)) (sin0 mt_all 409 19 cD_or0_13_0.2.1.2 (foot zT fT2)) := START_P kR_x kR_0 (Cs := [(zWP, c_slo13), (zWP, c_fnd13)]) (fun C hC => by
  simp only [List.mem_cons, List.not_mem_nil, or_false] at hC
  rcases hC with rfl | rfl
  · exact s_slo13
  · exact s_fnd13) cD_or0_13_0_f (Q := [p_or0_13_0]) 400 e_or0_13_0 k1 k2 ki (fun p hp => by
  rw [List.mem_singleton.mp hp]
  exact fun ρ3 k3 f3 _ am => hQ ρ3 k3 f3 am)
noncomputable def cD_or0_13_1 : sC := ((183, 409, 20), ([tr 0, .int 0, .arg 60320, .arg 60352, .arg 60384], [tr 219, .int 0, .arg 60320, .arg 60352, .arg 60384]), (fT1, fT2), [], ([19232, 60000, 60064, 60065, 60096, 60128, 60160], []), (none, none), [], ([], []))
theorem cD_or0_13_1_f : cfine zT 65536 cD_or0_13_1 = true := by decide +kernel
noncomputable def f_or0_13_1 : sFs := [((0, .arg 1282, .int 0), false), ((2, .arg 60320, .int 0), false), ((2, .int 65535, .arg 60320), false), ((2, .arg 60352, .int 0), false), ((109, .add (.arg 60320) (.arg 60352), .int 13), true), ((0, .arg 60384, .int 1), true), ((2, .arg 60384, .int 1), false), ((2, .int 1, .arg 60384), false)]
noncomputable def i_or0_13_1 : sI := []
noncomputable def p_or0_13_1 : sCut := (tEr.1, tEr.2, [((0, .arg 19232, .int 0), true)], [])
theorem e_or0_13_1 : frun kR [(zWP, c_slo13), (zWP, c_fnd13)] (cpl1 zT cD_or0_13_1 [p_or0_13_1]) (cpl2 zT cD_or0_13_1 [p_or0_13_1]) (cleafN kR zT cD_or0_13_1 [p_or0_13_1]) 400 65536 (isatP f_or0_13_1 i_or0_13_1) i_or0_13_1 (sin0 mt_all cD_or0_13_1.1.1 18 cD_or0_13_1.2.1.1 (foot zT cD_or0_13_1.2.2.1.1)) (sin0 mt_all cD_or0_13_1.1.2.1 19 cD_or0_13_1.2.1.2 (foot zT cD_or0_13_1.2.2.1.2)) = true := by decide +kernel
theorem r_or0_13_1 {X : pX} {J : sR → List Value → List Value → Prop} {ρ : sR} (k1 : kok X ρ kR) (k2 : fok X ρ f_or0_13_1) (ki : iok X ρ i_or0_13_1) (hQ : ∀ ρ3 : sR, kok X ρ3 kR → fok X ρ3 p_or0_13_1.2.2.1 → agrM 65536 cD_or0_13_1.2.2.2.2.1.1 cD_or0_13_1.2.2.2.2.1.2 ρ3 ρ → RPt X J ρ3 tEr) : RelP X pF pdfl mt_all 19 20 (foot zT fT1) (foot zT fT2) J ρ (sin0 mt_all 183 18 cD_or0_13_1.2.1.1 (foot zT fT1)) (sin0 mt_all 409 19 cD_or0_13_1.2.1.2 (foot zT fT2)) := START_P kR_x kR_0 (Cs := [(zWP, c_slo13), (zWP, c_fnd13)]) (fun C hC => by
  simp only [List.mem_cons, List.not_mem_nil, or_false] at hC
  rcases hC with rfl | rfl
  · exact s_slo13
  · exact s_fnd13) cD_or0_13_1_f (Q := [p_or0_13_1]) 400 e_or0_13_1 k1 k2 ki (fun p hp => by
  rw [List.mem_singleton.mp hp]
  exact fun ρ3 k3 f3 _ am => hQ ρ3 k3 f3 am)
noncomputable def cD_or0_13_2 : sC := ((183, 409, 20), ([tr 0, .int 0, .arg 60320, .arg 60352, .arg 60384], [tr 219, .int 0, .arg 60320, .arg 60352, .arg 60384]), (fT1, fT2), [], ([19232, 60000, 60064, 60065, 60096, 60128, 60160], []), (none, none), [], ([], []))
theorem cD_or0_13_2_f : cfine zT 65536 cD_or0_13_2 = true := by decide +kernel
noncomputable def f_or0_13_2 : sFs := [((0, .arg 1282, .int 0), false), ((2, .arg 60320, .int 0), false), ((2, .int 65535, .arg 60320), false), ((2, .arg 60352, .int 0), false), ((109, .add (.arg 60320) (.arg 60352), .int 13), true), ((0, .arg 60384, .int 2), true), ((2, .arg 60384, .int 2), false), ((2, .int 2, .arg 60384), false)]
noncomputable def i_or0_13_2 : sI := []
noncomputable def p_or0_13_2 : sCut := (tEr.1, tEr.2, [((0, .arg 19232, .int 0), true)], [])
theorem e_or0_13_2 : frun kR [(zWP, c_slo13), (zWP, c_fnd13)] (cpl1 zT cD_or0_13_2 [p_or0_13_2]) (cpl2 zT cD_or0_13_2 [p_or0_13_2]) (cleafN kR zT cD_or0_13_2 [p_or0_13_2]) 400 65536 (isatP f_or0_13_2 i_or0_13_2) i_or0_13_2 (sin0 mt_all cD_or0_13_2.1.1 18 cD_or0_13_2.2.1.1 (foot zT cD_or0_13_2.2.2.1.1)) (sin0 mt_all cD_or0_13_2.1.2.1 19 cD_or0_13_2.2.1.2 (foot zT cD_or0_13_2.2.2.1.2)) = true := by decide +kernel
theorem r_or0_13_2 {X : pX} {J : sR → List Value → List Value → Prop} {ρ : sR} (k1 : kok X ρ kR) (k2 : fok X ρ f_or0_13_2) (ki : iok X ρ i_or0_13_2) (hQ : ∀ ρ3 : sR, kok X ρ3 kR → fok X ρ3 p_or0_13_2.2.2.1 → agrM 65536 cD_or0_13_2.2.2.2.2.1.1 cD_or0_13_2.2.2.2.2.1.2 ρ3 ρ → RPt X J ρ3 tEr) : RelP X pF pdfl mt_all 19 20 (foot zT fT1) (foot zT fT2) J ρ (sin0 mt_all 183 18 cD_or0_13_2.2.1.1 (foot zT fT1)) (sin0 mt_all 409 19 cD_or0_13_2.2.1.2 (foot zT fT2)) := START_P kR_x kR_0 (Cs := [(zWP, c_slo13), (zWP, c_fnd13)]) (fun C hC => by
  simp only [List.mem_cons, List.not_mem_nil, or_false] at hC
  rcases hC with rfl | rfl
  · exact s_slo13
  · exact s_fnd13) cD_or0_13_2_f (Q := [p_or0_13_2]) 400 e_or0_13_2 k1 k2 ki (fun p hp => by
  rw [List.mem_singleton.mp hp]
  exact fun ρ3 k3 f3 _ am => hQ ρ3 k3 f3 am)
noncomputable def cD_or0_13_3 : sC := ((183, 409, 20), ([tr 0, .int 0, .arg 60320, .arg 60352, .arg 60384], [tr 219, .int 0, .arg 60320, .arg 60352, .arg 60384]), (fT1, fT2), [], ([19232, 60000, 60064, 60065, 60096, 60128, 60160], []), (none, none), [], ([], []))
theorem cD_or0_13_3_f : cfine zT 65536 cD_or0_13_3 = true := by decide +kernel
noncomputable def f_or0_13_3 : sFs := [((0, .arg 1282, .int 0), false), ((2, .arg 60320, .int 0), false), ((2, .int 65535, .arg 60320), false), ((2, .arg 60352, .int 0), false), ((109, .add (.arg 60320) (.arg 60352), .int 13), true), ((0, .arg 60384, .int 3), true), ((2, .arg 60384, .int 3), false), ((2, .int 3, .arg 60384), false)]
noncomputable def i_or0_13_3 : sI := []
noncomputable def p_or0_13_3 : sCut := (tEr.1, tEr.2, [((0, .arg 19232, .int 0), true)], [])
theorem e_or0_13_3 : frun kR [(zWP, c_slo13), (zWP, c_fnd13)] (cpl1 zT cD_or0_13_3 [p_or0_13_3]) (cpl2 zT cD_or0_13_3 [p_or0_13_3]) (cleafN kR zT cD_or0_13_3 [p_or0_13_3]) 400 65536 (isatP f_or0_13_3 i_or0_13_3) i_or0_13_3 (sin0 mt_all cD_or0_13_3.1.1 18 cD_or0_13_3.2.1.1 (foot zT cD_or0_13_3.2.2.1.1)) (sin0 mt_all cD_or0_13_3.1.2.1 19 cD_or0_13_3.2.1.2 (foot zT cD_or0_13_3.2.2.1.2)) = true := by decide +kernel
theorem r_or0_13_3 {X : pX} {J : sR → List Value → List Value → Prop} {ρ : sR} (k1 : kok X ρ kR) (k2 : fok X ρ f_or0_13_3) (ki : iok X ρ i_or0_13_3) (hQ : ∀ ρ3 : sR, kok X ρ3 kR → fok X ρ3 p_or0_13_3.2.2.1 → agrM 65536 cD_or0_13_3.2.2.2.2.1.1 cD_or0_13_3.2.2.2.2.1.2 ρ3 ρ → RPt X J ρ3 tEr) : RelP X pF pdfl mt_all 19 20 (foot zT fT1) (foot zT fT2) J ρ (sin0 mt_all 183 18 cD_or0_13_3.2.1.1 (foot zT fT1)) (sin0 mt_all 409 19 cD_or0_13_3.2.1.2 (foot zT fT2)) := START_P kR_x kR_0 (Cs := [(zWP, c_slo13), (zWP, c_fnd13)]) (fun C hC => by
  simp only [List.mem_cons, List.not_mem_nil, or_false] at hC
  rcases hC with rfl | rfl
  · exact s_slo13
  · exact s_fnd13) cD_or0_13_3_f (Q := [p_or0_13_3]) 400 e_or0_13_3 k1 k2 ki (fun p hp => by
  rw [List.mem_singleton.mp hp]
  exact fun ρ3 k3 f3 _ am => hQ ρ3 k3 f3 am)
noncomputable def cD_or0_13_4 : sC := ((183, 409, 20), ([tr 0, .int 0, .arg 60320, .arg 60352, .arg 60384], [tr 219, .int 0, .arg 60320, .arg 60352, .arg 60384]), (fT1, fT2), [], ([19232, 60000, 60064, 60065, 60096, 60128, 60160], []), (none, none), [], ([], []))
theorem cD_or0_13_4_f : cfine zT 65536 cD_or0_13_4 = true := by decide +kernel
noncomputable def f_or0_13_4 : sFs := [((0, .arg 1282, .int 0), false), ((2, .arg 60320, .int 0), false), ((2, .int 65535, .arg 60320), false), ((2, .arg 60352, .int 0), false), ((109, .add (.arg 60320) (.arg 60352), .int 13), true), ((0, .arg 60384, .int 4), true), ((2, .arg 60384, .int 4), false), ((2, .int 4, .arg 60384), false)]
noncomputable def i_or0_13_4 : sI := []
noncomputable def p_or0_13_4 : sCut := (tEr.1, tEr.2, [((0, .arg 19232, .int 0), true)], [])
theorem e_or0_13_4 : frun kR [(zWP, c_slo13), (zWP, c_fnd13)] (cpl1 zT cD_or0_13_4 [p_or0_13_4]) (cpl2 zT cD_or0_13_4 [p_or0_13_4]) (cleafN kR zT cD_or0_13_4 [p_or0_13_4]) 400 65536 (isatP f_or0_13_4 i_or0_13_4) i_or0_13_4 (sin0 mt_all cD_or0_13_4.1.1 18 cD_or0_13_4.2.1.1 (foot zT cD_or0_13_4.2.2.1.1)) (sin0 mt_all cD_or0_13_4.1.2.1 19 cD_or0_13_4.2.1.2 (foot zT cD_or0_13_4.2.2.1.2)) = true := by decide +kernel
theorem r_or0_13_4 {X : pX} {J : sR → List Value → List Value → Prop} {ρ : sR} (k1 : kok X ρ kR) (k2 : fok X ρ f_or0_13_4) (ki : iok X ρ i_or0_13_4) (hQ : ∀ ρ3 : sR, kok X ρ3 kR → fok X ρ3 p_or0_13_4.2.2.1 → agrM 65536 cD_or0_13_4.2.2.2.2.1.1 cD_or0_13_4.2.2.2.2.1.2 ρ3 ρ → RPt X J ρ3 tEr) : RelP X pF pdfl mt_all 19 20 (foot zT fT1) (foot zT fT2) J ρ (sin0 mt_all 183 18 cD_or0_13_4.2.1.1 (foot zT fT1)) (sin0 mt_all 409 19 cD_or0_13_4.2.1.2 (foot zT fT2)) := START_P kR_x kR_0 (Cs := [(zWP, c_slo13), (zWP, c_fnd13)]) (fun C hC => by
  simp only [List.mem_cons, List.not_mem_nil, or_false] at hC
  rcases hC with rfl | rfl
  · exact s_slo13
  · exact s_fnd13) cD_or0_13_4_f (Q := [p_or0_13_4]) 400 e_or0_13_4 k1 k2 ki (fun p hp => by
  rw [List.mem_singleton.mp hp]
  exact fun ρ3 k3 f3 _ am => hQ ρ3 k3 f3 am)
noncomputable def cD_or0_13_5 : sC := ((183, 409, 20), ([tr 0, .int 0, .arg 60320, .arg 60352, .arg 60384], [tr 219, .int 0, .arg 60320, .arg 60352, .arg 60384]), (fT1, fT2), [], ([19232, 60000, 60064, 60065, 60096, 60128, 60160], []), (none, none), [], ([], []))
theorem cD_or0_13_5_f : cfine zT 65536 cD_or0_13_5 = true := by decide +kernel
noncomputable def f_or0_13_5 : sFs := [((0, .arg 1282, .int 0), false), ((2, .arg 60320, .int 0), false), ((2, .int 65535, .arg 60320), false), ((2, .arg 60352, .int 0), false), ((109, .add (.arg 60320) (.arg 60352), .int 13), true), ((0, .arg 60384, .int 5), true), ((2, .arg 60384, .int 5), false), ((2, .int 5, .arg 60384), false)]
noncomputable def i_or0_13_5 : sI := []
noncomputable def p_or0_13_5 : sCut := (tEr.1, tEr.2, [((0, .arg 19232, .int 0), true)], [])
theorem e_or0_13_5 : frun kR [(zWP, c_slo13), (zWP, c_fnd13)] (cpl1 zT cD_or0_13_5 [p_or0_13_5]) (cpl2 zT cD_or0_13_5 [p_or0_13_5]) (cleafN kR zT cD_or0_13_5 [p_or0_13_5]) 400 65536 (isatP f_or0_13_5 i_or0_13_5) i_or0_13_5 (sin0 mt_all cD_or0_13_5.1.1 18 cD_or0_13_5.2.1.1 (foot zT cD_or0_13_5.2.2.1.1)) (sin0 mt_all cD_or0_13_5.1.2.1 19 cD_or0_13_5.2.1.2 (foot zT cD_or0_13_5.2.2.1.2)) = true := by decide +kernel
theorem r_or0_13_5 {X : pX} {J : sR → List Value → List Value → Prop} {ρ : sR} (k1 : kok X ρ kR) (k2 : fok X ρ f_or0_13_5) (ki : iok X ρ i_or0_13_5) (hQ : ∀ ρ3 : sR, kok X ρ3 kR → fok X ρ3 p_or0_13_5.2.2.1 → agrM 65536 cD_or0_13_5.2.2.2.2.1.1 cD_or0_13_5.2.2.2.2.1.2 ρ3 ρ → RPt X J ρ3 tEr) : RelP X pF pdfl mt_all 19 20 (foot zT fT1) (foot zT fT2) J ρ (sin0 mt_all 183 18 cD_or0_13_5.2.1.1 (foot zT fT1)) (sin0 mt_all 409 19 cD_or0_13_5.2.1.2 (foot zT fT2)) := START_P kR_x kR_0 (Cs := [(zWP, c_slo13), (zWP, c_fnd13)]) (fun C hC => by
  simp only [List.mem_cons, List.not_mem_nil, or_false] at hC
  rcases hC with rfl | rfl
  · exact s_slo13
  · exact s_fnd13) cD_or0_13_5_f (Q := [p_or0_13_5]) 400 e_or0_13_5 k1 k2 ki (fun p hp => by
  rw [List.mem_singleton.mp hp]
  exact fun ρ3 k3 f3 _ am => hQ ρ3 k3 f3 am)
noncomputable def cD_or0_13_6 : sC := ((183, 409, 20), ([tr 0, .int 0, .arg 60320, .arg 60352, .arg 60384], [tr 219, .int 0, .arg 60320, .arg 60352, .arg 60384]), (fT1, fT2), [], ([19232, 60000, 60064, 60065, 60096, 60128, 60160], []), (none, none), [], ([], []))
theorem cD_or0_13_6_f : cfine zT 65536 cD_or0_13_6 = true := by decide +kernel
noncomputable def f_or0_13_6 : sFs := [((0, .arg 1282, .int 0), false), ((2, .arg 60320, .int 0), false), ((2, .int 65535, .arg 60320), false), ((2, .arg 60352, .int 0), false), ((109, .add (.arg 60320) (.arg 60352), .int 13), true), ((0, .arg 60384, .int 6), true), ((2, .arg 60384, .int 6), false), ((2, .int 6, .arg 60384), false)]
noncomputable def i_or0_13_6 : sI := []
noncomputable def p_or0_13_6 : sCut := (tEr.1, tEr.2, [((0, .arg 19232, .int 0), true)], [])
theorem e_or0_13_6 : frun kR [(zWP, c_slo13), (zWP, c_fnd13)] (cpl1 zT cD_or0_13_6 [p_or0_13_6]) (cpl2 zT cD_or0_13_6 [p_or0_13_6]) (cleafN kR zT cD_or0_13_6 [p_or0_13_6]) 400 65536 (isatP f_or0_13_6 i_or0_13_6) i_or0_13_6 (sin0 mt_all cD_or0_13_6.1.1 18 cD_or0_13_6.2.1.1 (foot zT cD_or0_13_6.2.2.1.1)) (sin0 mt_all cD_or0_13_6.1.2.1 19 cD_or0_13_6.2.1.2 (foot zT cD_or0_13_6.2.2.1.2)) = true := by decide +kernel
theorem r_or0_13_6 {X : pX} {J : sR → List Value → List Value → Prop} {ρ : sR} (k1 : kok X ρ kR) (k2 : fok X ρ f_or0_13_6) (ki : iok X ρ i_or0_13_6) (hQ : ∀ ρ3 : sR, kok X ρ3 kR → fok X ρ3 p_or0_13_6.2.2.1 → agrM 65536 cD_or0_13_6.2.2.2.2.1.1 cD_or0_13_6.2.2.2.2.1.2 ρ3 ρ → RPt X J ρ3 tEr) : RelP X pF pdfl mt_all 19 20 (foot zT fT1) (foot zT fT2) J ρ (sin0 mt_all 183 18 cD_or0_13_6.2.1.1 (foot zT fT1)) (sin0 mt_all 409 19 cD_or0_13_6.2.1.2 (foot zT fT2)) := START_P kR_x kR_0 (Cs := [(zWP, c_slo13), (zWP, c_fnd13)]) (fun C hC => by
  simp only [List.mem_cons, List.not_mem_nil, or_false] at hC
  rcases hC with rfl | rfl
  · exact s_slo13
  · exact s_fnd13) cD_or0_13_6_f (Q := [p_or0_13_6]) 400 e_or0_13_6 k1 k2 ki (fun p hp => by
  rw [List.mem_singleton.mp hp]
  exact fun ρ3 k3 f3 _ am => hQ ρ3 k3 f3 am)
noncomputable def cD_or0_13_7 : sC := ((183, 409, 20), ([tr 0, .int 0, .arg 60320, .arg 60352, .arg 60384], [tr 219, .int 0, .arg 60320, .arg 60352, .arg 60384]), (fT1, fT2), [], ([19232, 60000, 60064, 60065, 60096, 60128, 60160], []), (none, none), [], ([], []))
theorem cD_or0_13_7_f : cfine zT 65536 cD_or0_13_7 = true := by decide +kernel
noncomputable def f_or0_13_7 : sFs := [((0, .arg 1282, .int 0), false), ((2, .arg 60320, .int 0), false), ((2, .int 65535, .arg 60320), false), ((2, .arg 60352, .int 0), false), ((109, .add (.arg 60320) (.arg 60352), .int 13), true), ((0, .arg 60384, .int 7), true), ((2, .arg 60384, .int 7), false), ((2, .int 7, .arg 60384), false)]
noncomputable def i_or0_13_7 : sI := []
noncomputable def p_or0_13_7 : sCut := (tEr.1, tEr.2, [((0, .arg 19232, .int 0), true)], [])
theorem e_or0_13_7 : frun kR [(zWP, c_slo13), (zWP, c_fnd13)] (cpl1 zT cD_or0_13_7 [p_or0_13_7]) (cpl2 zT cD_or0_13_7 [p_or0_13_7]) (cleafN kR zT cD_or0_13_7 [p_or0_13_7]) 400 65536 (isatP f_or0_13_7 i_or0_13_7) i_or0_13_7 (sin0 mt_all cD_or0_13_7.1.1 18 cD_or0_13_7.2.1.1 (foot zT cD_or0_13_7.2.2.1.1)) (sin0 mt_all cD_or0_13_7.1.2.1 19 cD_or0_13_7.2.1.2 (foot zT cD_or0_13_7.2.2.1.2)) = true := by decide +kernel
theorem r_or0_13_7 {X : pX} {J : sR → List Value → List Value → Prop} {ρ : sR} (k1 : kok X ρ kR) (k2 : fok X ρ f_or0_13_7) (ki : iok X ρ i_or0_13_7) (hQ : ∀ ρ3 : sR, kok X ρ3 kR → fok X ρ3 p_or0_13_7.2.2.1 → agrM 65536 cD_or0_13_7.2.2.2.2.1.1 cD_or0_13_7.2.2.2.2.1.2 ρ3 ρ → RPt X J ρ3 tEr) : RelP X pF pdfl mt_all 19 20 (foot zT fT1) (foot zT fT2) J ρ (sin0 mt_all 183 18 cD_or0_13_7.2.1.1 (foot zT fT1)) (sin0 mt_all 409 19 cD_or0_13_7.2.1.2 (foot zT fT2)) := START_P kR_x kR_0 (Cs := [(zWP, c_slo13), (zWP, c_fnd13)]) (fun C hC => by
  simp only [List.mem_cons, List.not_mem_nil, or_false] at hC
  rcases hC with rfl | rfl
  · exact s_slo13
  · exact s_fnd13) cD_or0_13_7_f (Q := [p_or0_13_7]) 400 e_or0_13_7 k1 k2 ki (fun p hp => by
  rw [List.mem_singleton.mp hp]
  exact fun ρ3 k3 f3 _ am => hQ ρ3 k3 f3 am)
noncomputable def cD_or0_13_8 : sC := ((183, 409, 20), ([tr 0, .int 0, .arg 60320, .arg 60352, .arg 60384], [tr 219, .int 0, .arg 60320, .arg 60352, .arg 60384]), (fT1, fT2), [], ([19232, 60000, 60064, 60065, 60096, 60128, 60160], []), (none, none), [], ([], []))
theorem cD_or0_13_8_f : cfine zT 65536 cD_or0_13_8 = true := by decide +kernel
noncomputable def f_or0_13_8 : sFs := [((0, .arg 1282, .int 0), false), ((2, .arg 60320, .int 0), false), ((2, .int 65535, .arg 60320), false), ((2, .arg 60352, .int 0), false), ((109, .add (.arg 60320) (.arg 60352), .int 13), true), ((0, .arg 60384, .int 8), true), ((2, .arg 60384, .int 8), false), ((2, .int 8, .arg 60384), false)]
noncomputable def i_or0_13_8 : sI := []
noncomputable def p_or0_13_8 : sCut := (tEr.1, tEr.2, [((0, .arg 19232, .int 0), true)], [])
theorem e_or0_13_8 : frun kR [(zWP, c_slo13), (zWP, c_fnd13)] (cpl1 zT cD_or0_13_8 [p_or0_13_8]) (cpl2 zT cD_or0_13_8 [p_or0_13_8]) (cleafN kR zT cD_or0_13_8 [p_or0_13_8]) 400 65536 (isatP f_or0_13_8 i_or0_13_8) i_or0_13_8 (sin0 mt_all cD_or0_13_8.1.1 18 cD_or0_13_8.2.1.1 (foot zT cD_or0_13_8.2.2.1.1)) (sin0 mt_all cD_or0_13_8.1.2.1 19 cD_or0_13_8.2.1.2 (foot zT cD_or0_13_8.2.2.1.2)) = true := by decide +kernel
theorem r_or0_13_8 {X : pX} {J : sR → List Value → List Value → Prop} {ρ : sR} (k1 : kok X ρ kR) (k2 : fok X ρ f_or0_13_8) (ki : iok X ρ i_or0_13_8) (hQ : ∀ ρ3 : sR, kok X ρ3 kR → fok X ρ3 p_or0_13_8.2.2.1 → agrM 65536 cD_or0_13_8.2.2.2.2.1.1 cD_or0_13_8.2.2.2.2.1.2 ρ3 ρ → RPt X J ρ3 tEr) : RelP X pF pdfl mt_all 19 20 (foot zT fT1) (foot zT fT2) J ρ (sin0 mt_all 183 18 cD_or0_13_8.2.1.1 (foot zT fT1)) (sin0 mt_all 409 19 cD_or0_13_8.2.1.2 (foot zT fT2)) := START_P kR_x kR_0 (Cs := [(zWP, c_slo13), (zWP, c_fnd13)]) (fun C hC => by
  simp only [List.mem_cons, List.not_mem_nil, or_false] at hC
  rcases hC with rfl | rfl
  · exact s_slo13
  · exact s_fnd13) cD_or0_13_8_f (Q := [p_or0_13_8]) 400 e_or0_13_8 k1 k2 ki (fun p hp => by
  rw [List.mem_singleton.mp hp]
  exact fun ρ3 k3 f3 _ am => hQ ρ3 k3 f3 am)
noncomputable def cD_or0_13_9 : sC := ((183, 409, 20), ([tr 0, .int 0, .arg 60320, .arg 60352, .arg 60384], [tr 219, .int 0, .arg 60320, .arg 60352, .arg 60384]), (fT1, fT2), [], ([19232, 60000, 60064, 60065, 60096, 60128, 60160], []), (none, none), [], ([], []))
theorem cD_or0_13_9_f : cfine zT 65536 cD_or0_13_9 = true := by decide +kernel
noncomputable def f_or0_13_9 : sFs := [((0, .arg 1282, .int 0), false), ((2, .arg 60320, .int 0), false), ((2, .int 65535, .arg 60320), false), ((2, .arg 60352, .int 0), false), ((109, .add (.arg 60320) (.arg 60352), .int 13), true), ((0, .arg 60384, .int 9), true), ((2, .arg 60384, .int 9), false), ((2, .int 9, .arg 60384), false)]
noncomputable def i_or0_13_9 : sI := []
noncomputable def p_or0_13_9 : sCut := (tEr.1, tEr.2, [((0, .arg 19232, .int 0), true)], [])
theorem e_or0_13_9 : frun kR [(zWP, c_slo13), (zWP, c_fnd13)] (cpl1 zT cD_or0_13_9 [p_or0_13_9]) (cpl2 zT cD_or0_13_9 [p_or0_13_9]) (cleafN kR zT cD_or0_13_9 [p_or0_13_9]) 400 65536 (isatP f_or0_13_9 i_or0_13_9) i_or0_13_9 (sin0 mt_all cD_or0_13_9.1.1 18 cD_or0_13_9.2.1.1 (foot zT cD_or0_13_9.2.2.1.1)) (sin0 mt_all cD_or0_13_9.1.2.1 19 cD_or0_13_9.2.1.2 (foot zT cD_or0_13_9.2.2.1.2)) = true := by decide +kernel
theorem r_or0_13_9 {X : pX} {J : sR → List Value → List Value → Prop} {ρ : sR} (k1 : kok X ρ kR) (k2 : fok X ρ f_or0_13_9) (ki : iok X ρ i_or0_13_9) (hQ : ∀ ρ3 : sR, kok X ρ3 kR → fok X ρ3 p_or0_13_9.2.2.1 → agrM 65536 cD_or0_13_9.2.2.2.2.1.1 cD_or0_13_9.2.2.2.2.1.2 ρ3 ρ → RPt X J ρ3 tEr) : RelP X pF pdfl mt_all 19 20 (foot zT fT1) (foot zT fT2) J ρ (sin0 mt_all 183 18 cD_or0_13_9.2.1.1 (foot zT fT1)) (sin0 mt_all 409 19 cD_or0_13_9.2.1.2 (foot zT fT2)) := START_P kR_x kR_0 (Cs := [(zWP, c_slo13), (zWP, c_fnd13)]) (fun C hC => by
  simp only [List.mem_cons, List.not_mem_nil, or_false] at hC
  rcases hC with rfl | rfl
  · exact s_slo13
  · exact s_fnd13) cD_or0_13_9_f (Q := [p_or0_13_9]) 400 e_or0_13_9 k1 k2 ki (fun p hp => by
  rw [List.mem_singleton.mp hp]
  exact fun ρ3 k3 f3 _ am => hQ ρ3 k3 f3 am)
noncomputable def cD_oi0_13 : sC := ((183, 409, 20), ([tr 0, .int 0, .arg 60320, .arg 60352, .arg 60384], [tr 219, .int 0, .arg 60320, .arg 60352, .arg 60384]), (fT1, fT2), [], ([19232, 60000, 60064, 60065, 60096, 60128, 60160], []), (none, none), [], ([], []))
theorem cD_oi0_13_f : cfine zT 65536 cD_oi0_13 = true := by decide +kernel
noncomputable def f_oi0_13 : sFs := [((0, .arg 1282, .int 0), false), ((2, .arg 60320, .int 0), false), ((2, .int 65535, .arg 60320), false), ((2, .arg 60352, .int 0), false), ((109, .add (.arg 60320) (.arg 60352), .int 13), true), ((2, .arg 60384, .int 10), false)]
noncomputable def i_oi0_13 : sI := []
noncomputable def p_oi0_13 : sCut := (tEr.1, tEr.2, [((0, .arg 19232, .int 0), true)], [])
theorem e_oi0_13 : frun kR [(zWP, c_slo13), (zWP, c_fnd13)] (cpl1 zT cD_oi0_13 [p_oi0_13]) (cpl2 zT cD_oi0_13 [p_oi0_13]) (cleafN kR zT cD_oi0_13 [p_oi0_13]) 400 65536 (isatP f_oi0_13 i_oi0_13) i_oi0_13 (sin0 mt_all cD_oi0_13.1.1 18 cD_oi0_13.2.1.1 (foot zT cD_oi0_13.2.2.1.1)) (sin0 mt_all cD_oi0_13.1.2.1 19 cD_oi0_13.2.1.2 (foot zT cD_oi0_13.2.2.1.2)) = true := by decide +kernel
theorem r_oi0_13 {X : pX} {J : sR → List Value → List Value → Prop} {ρ : sR} (k1 : kok X ρ kR) (k2 : fok X ρ f_oi0_13) (ki : iok X ρ i_oi0_13) (hQ : ∀ ρ3 : sR, kok X ρ3 kR → fok X ρ3 p_oi0_13.2.2.1 → agrM 65536 cD_oi0_13.2.2.2.2.1.1 cD_oi0_13.2.2.2.2.1.2 ρ3 ρ → RPt X J ρ3 tEr) : RelP X pF pdfl mt_all 19 20 (foot zT fT1) (foot zT fT2) J ρ (sin0 mt_all 183 18 cD_oi0_13.2.1.1 (foot zT fT1)) (sin0 mt_all 409 19 cD_oi0_13.2.1.2 (foot zT fT2)) := START_P kR_x kR_0 (Cs := [(zWP, c_slo13), (zWP, c_fnd13)]) (fun C hC => by
  simp only [List.mem_cons, List.not_mem_nil, or_false] at hC
  rcases hC with rfl | rfl
  · exact s_slo13
  · exact s_fnd13) cD_oi0_13_f (Q := [p_oi0_13]) 400 e_oi0_13 k1 k2 ki (fun p hp => by
  rw [List.mem_singleton.mp hp]
  exact fun ρ3 k3 f3 _ am => hQ ρ3 k3 f3 am)
noncomputable def cD_oj0_13 : sC := ((183, 409, 20), ([tr 0, .int 0, .arg 60320, .arg 60352, .arg 60384], [tr 219, .int 0, .arg 60320, .arg 60352, .arg 60384]), (fT1, fT2), [], ([19232, 60000, 60064, 60065, 60096, 60128, 60160], []), (none, none), [], ([], []))
theorem cD_oj0_13_f : cfine zT 65536 cD_oj0_13 = true := by decide +kernel
noncomputable def f_oj0_13 : sFs := [((0, .arg 1282, .int 0), false), ((2, .arg 60320, .int 0), false), ((2, .int 65535, .arg 60320), false), ((2, .arg 60352, .int 0), false), ((109, .add (.arg 60320) (.arg 60352), .int 13), true), ((2, .arg 60384, .int 0), true)]
noncomputable def i_oj0_13 : sI := []
noncomputable def p_oj0_13 : sCut := (tEr.1, tEr.2, [((0, .arg 19232, .int 0), true)], [])
theorem e_oj0_13 : frun kR [(zWP, c_slo13), (zWP, c_fnd13)] (cpl1 zT cD_oj0_13 [p_oj0_13]) (cpl2 zT cD_oj0_13 [p_oj0_13]) (cleafN kR zT cD_oj0_13 [p_oj0_13]) 400 65536 (isatP f_oj0_13 i_oj0_13) i_oj0_13 (sin0 mt_all cD_oj0_13.1.1 18 cD_oj0_13.2.1.1 (foot zT cD_oj0_13.2.2.1.1)) (sin0 mt_all cD_oj0_13.1.2.1 19 cD_oj0_13.2.1.2 (foot zT cD_oj0_13.2.2.1.2)) = true := by decide +kernel
theorem r_oj0_13 {X : pX} {J : sR → List Value → List Value → Prop} {ρ : sR} (k1 : kok X ρ kR) (k2 : fok X ρ f_oj0_13) (ki : iok X ρ i_oj0_13) (hQ : ∀ ρ3 : sR, kok X ρ3 kR → fok X ρ3 p_oj0_13.2.2.1 → agrM 65536 cD_oj0_13.2.2.2.2.1.1 cD_oj0_13.2.2.2.2.1.2 ρ3 ρ → RPt X J ρ3 tEr) : RelP X pF pdfl mt_all 19 20 (foot zT fT1) (foot zT fT2) J ρ (sin0 mt_all 183 18 cD_oj0_13.2.1.1 (foot zT fT1)) (sin0 mt_all 409 19 cD_oj0_13.2.1.2 (foot zT fT2)) := START_P kR_x kR_0 (Cs := [(zWP, c_slo13), (zWP, c_fnd13)]) (fun C hC => by
  simp only [List.mem_cons, List.not_mem_nil, or_false] at hC
  rcases hC with rfl | rfl
  · exact s_slo13
  · exact s_fnd13) cD_oj0_13_f (Q := [p_oj0_13]) 400 e_oj0_13 k1 k2 ki (fun p hp => by
  rw [List.mem_singleton.mp hp]
  exact fun ρ3 k3 f3 _ am => hQ ρ3 k3 f3 am)
noncomputable def cD_or0_110 : sC := ((183, 409, 20), ([tr 0, .int 0, .arg 60320, .arg 60352, .arg 60384], [tr 219, .int 0, .arg 60320, .arg 60352, .arg 60384]), (fT1, fT2), [], ([19232, 60000, 60064, 60065, 60096, 60128, 60160], []), (none, none), [], ([], []))
theorem cD_or0_110_f : cfine zT 65536 cD_or0_110 = true := by decide +kernel
noncomputable def f_or0_110 : sFs := [((0, .arg 1282, .int 0), false), ((2, .arg 60320, .int 0), false), ((2, .int 65535, .arg 60320), false), ((2, .arg 60352, .int 0), false), ((109, .add (.arg 60320) (.arg 60352), .int 110), true), ((2, .arg 60384, .int 0), false), ((2, .arg 60384, .arg 1298), true), ((2, .arg 60384, .int 24), true)]
noncomputable def i_or0_110 : sI := []
noncomputable def p_or0_110 : sCut := (tEr.1, tEr.2, [((0, .arg 19232, .int 0), true)], [])
theorem e_or0_110 : frun kR [(zWP, c_slo110), (zWP, c_fnd110)] (cpl1 zT cD_or0_110 [p_or0_110]) (cpl2 zT cD_or0_110 [p_or0_110]) (cleafN kR zT cD_or0_110 [p_or0_110]) 400 65536 (isatP f_or0_110 i_or0_110) i_or0_110 (sin0 mt_all cD_or0_110.1.1 18 cD_or0_110.2.1.1 (foot zT cD_or0_110.2.2.1.1)) (sin0 mt_all cD_or0_110.1.2.1 19 cD_or0_110.2.1.2 (foot zT cD_or0_110.2.2.1.2)) = true := by decide +kernel
theorem r_or0_110 {X : pX} {J : sR → List Value → List Value → Prop} {ρ : sR} (k1 : kok X ρ kR) (k2 : fok X ρ f_or0_110) (ki : iok X ρ i_or0_110) (hQ : ∀ ρ3 : sR, kok X ρ3 kR → fok X ρ3 p_or0_110.2.2.1 → agrM 65536 cD_or0_110.2.2.2.2.1.1 cD_or0_110.2.2.2.2.1.2 ρ3 ρ → RPt X J ρ3 tEr) : RelP X pF pdfl mt_all 19 20 (foot zT fT1) (foot zT fT2) J ρ (sin0 mt_all 183 18 cD_or0_110.2.1.1 (foot zT fT1)) (sin0 mt_all 409 19 cD_or0_110.2.1.2 (foot zT fT2)) := START_P kR_x kR_0 (Cs := [(zWP, c_slo110), (zWP, c_fnd110)]) (fun C hC => by
  simp only [List.mem_cons, List.not_mem_nil, or_false] at hC
  rcases hC with rfl | rfl
  · exact s_slo110
  · exact s_fnd110) cD_or0_110_f (Q := [p_or0_110]) 400 e_or0_110 k1 k2 ki (fun p hp => by
  rw [List.mem_singleton.mp hp]
  exact fun ρ3 k3 f3 _ am => hQ ρ3 k3 f3 am)
noncomputable def cD_oi0_110 : sC := ((183, 409, 20), ([tr 0, .int 0, .arg 60320, .arg 60352, .arg 60384], [tr 219, .int 0, .arg 60320, .arg 60352, .arg 60384]), (fT1, fT2), [], ([19232, 60000, 60064, 60065, 60096, 60128, 60160], []), (none, none), [], ([], []))
theorem cD_oi0_110_f : cfine zT 65536 cD_oi0_110 = true := by decide +kernel
noncomputable def f_oi0_110 : sFs := [((0, .arg 1282, .int 0), false), ((2, .arg 60320, .int 0), false), ((2, .int 65535, .arg 60320), false), ((2, .arg 60352, .int 0), false), ((109, .add (.arg 60320) (.arg 60352), .int 110), true), ((2, .arg 60384, .arg 1298), false)]
noncomputable def i_oi0_110 : sI := []
noncomputable def p_oi0_110 : sCut := (tEr.1, tEr.2, [((0, .arg 19232, .int 0), true)], [])
theorem e_oi0_110 : frun kR [(zWP, c_slo110), (zWP, c_fnd110)] (cpl1 zT cD_oi0_110 [p_oi0_110]) (cpl2 zT cD_oi0_110 [p_oi0_110]) (cleafN kR zT cD_oi0_110 [p_oi0_110]) 400 65536 (isatP f_oi0_110 i_oi0_110) i_oi0_110 (sin0 mt_all cD_oi0_110.1.1 18 cD_oi0_110.2.1.1 (foot zT cD_oi0_110.2.2.1.1)) (sin0 mt_all cD_oi0_110.1.2.1 19 cD_oi0_110.2.1.2 (foot zT cD_oi0_110.2.2.1.2)) = true := by decide +kernel
theorem r_oi0_110 {X : pX} {J : sR → List Value → List Value → Prop} {ρ : sR} (k1 : kok X ρ kR) (k2 : fok X ρ f_oi0_110) (ki : iok X ρ i_oi0_110) (hQ : ∀ ρ3 : sR, kok X ρ3 kR → fok X ρ3 p_oi0_110.2.2.1 → agrM 65536 cD_oi0_110.2.2.2.2.1.1 cD_oi0_110.2.2.2.2.1.2 ρ3 ρ → RPt X J ρ3 tEr) : RelP X pF pdfl mt_all 19 20 (foot zT fT1) (foot zT fT2) J ρ (sin0 mt_all 183 18 cD_oi0_110.2.1.1 (foot zT fT1)) (sin0 mt_all 409 19 cD_oi0_110.2.1.2 (foot zT fT2)) := START_P kR_x kR_0 (Cs := [(zWP, c_slo110), (zWP, c_fnd110)]) (fun C hC => by
  simp only [List.mem_cons, List.not_mem_nil, or_false] at hC
  rcases hC with rfl | rfl
  · exact s_slo110
  · exact s_fnd110) cD_oi0_110_f (Q := [p_oi0_110]) 400 e_oi0_110 k1 k2 ki (fun p hp => by
  rw [List.mem_singleton.mp hp]
  exact fun ρ3 k3 f3 _ am => hQ ρ3 k3 f3 am)
noncomputable def cD_oj0_110 : sC := ((183, 409, 20), ([tr 0, .int 0, .arg 60320, .arg 60352, .arg 60384], [tr 219, .int 0, .arg 60320, .arg 60352, .arg 60384]), (fT1, fT2), [], ([19232, 60000, 60064, 60065, 60096, 60128, 60160], []), (none, none), [], ([], []))
theorem cD_oj0_110_f : cfine zT 65536 cD_oj0_110 = true := by decide +kernel
noncomputable def f_oj0_110 : sFs := [((0, .arg 1282, .int 0), false), ((2, .arg 60320, .int 0), false), ((2, .int 65535, .arg 60320), false), ((2, .arg 60352, .int 0), false), ((109, .add (.arg 60320) (.arg 60352), .int 110), true), ((2, .arg 60384, .int 0), true)]
noncomputable def i_oj0_110 : sI := []
noncomputable def p_oj0_110 : sCut := (tEr.1, tEr.2, [((0, .arg 19232, .int 0), true)], [])
theorem e_oj0_110 : frun kR [(zWP, c_slo110), (zWP, c_fnd110)] (cpl1 zT cD_oj0_110 [p_oj0_110]) (cpl2 zT cD_oj0_110 [p_oj0_110]) (cleafN kR zT cD_oj0_110 [p_oj0_110]) 400 65536 (isatP f_oj0_110 i_oj0_110) i_oj0_110 (sin0 mt_all cD_oj0_110.1.1 18 cD_oj0_110.2.1.1 (foot zT cD_oj0_110.2.2.1.1)) (sin0 mt_all cD_oj0_110.1.2.1 19 cD_oj0_110.2.1.2 (foot zT cD_oj0_110.2.2.1.2)) = true := by decide +kernel
theorem r_oj0_110 {X : pX} {J : sR → List Value → List Value → Prop} {ρ : sR} (k1 : kok X ρ kR) (k2 : fok X ρ f_oj0_110) (ki : iok X ρ i_oj0_110) (hQ : ∀ ρ3 : sR, kok X ρ3 kR → fok X ρ3 p_oj0_110.2.2.1 → agrM 65536 cD_oj0_110.2.2.2.2.1.1 cD_oj0_110.2.2.2.2.1.2 ρ3 ρ → RPt X J ρ3 tEr) : RelP X pF pdfl mt_all 19 20 (foot zT fT1) (foot zT fT2) J ρ (sin0 mt_all 183 18 cD_oj0_110.2.1.1 (foot zT fT1)) (sin0 mt_all 409 19 cD_oj0_110.2.1.2 (foot zT fT2)) := START_P kR_x kR_0 (Cs := [(zWP, c_slo110), (zWP, c_fnd110)]) (fun C hC => by
  simp only [List.mem_cons, List.not_mem_nil, or_false] at hC
  rcases hC with rfl | rfl
  · exact s_slo110
  · exact s_fnd110) cD_oj0_110_f (Q := [p_oj0_110]) 400 e_oj0_110 k1 k2 ki (fun p hp => by
  rw [List.mem_singleton.mp hp]
  exact fun ρ3 k3 f3 _ am => hQ ρ3 k3 f3 am)
noncomputable def tEt0 : (sF × List sF × Nat) × (sF × List sF × Nat) := ((fr 0 183 6 [(0, tr 0), (1, .int 0), (4, .arg 60384), (5, .int 111)] [], [fBot], 18), (fr 0 409 6 [(0, tr 219), (1, .int 0), (4, .arg 60384), (5, .int 111)] [], [fBot], 19))
noncomputable def q_teEt0 : sCut := (tEt0.1, tEt0.2, [((0, .arg 19232, .int 0), true), ((2, .arg 60384, .int 0), false), ((2, .arg 60384, .mul (.arg 1302) (.int 4)), true), ((2, .arg 60384, .int 128), true)], [])
theorem k_teEt0 : cbody kR [] [] [] (lendP kR zT cD_en.2.2.1.1 cD_en.2.2.1.2 [.op2 .iand (.op1 .l2i (.op2 .lushr (.op1 .i2l (.elem (.arg 2880) (.rem (.add (.arg 1300) (.div (.arg 60384) (.int 4))) (.int 32)))) (.mul (.rem (.arg 60384) (.int 4)) (.int 8)))) (.int 255)] [.op2 .iand (.op2 .ishr (.elem (.arg 19616) (.div (.arg 60384) (.int 4))) (.mul (.rem (.arg 60384) (.int 4)) (.int 8))) (.int 255)]) 300 true true q_teEt0.2.2.1 q_teEt0.2.2.2 (cst zT cD_en.2.2.1.1 q_teEt0.1) (cst zT cD_en.2.2.1.2 q_teEt0.2.1) = true := by decide +kernel
theorem c_Et0 {X : pX} {J : sR → List Value → List Value → Prop} {ρ : sR} (hk : kok X ρ kR) (hf : fok X ρ [((0, .arg 19232, .int 0), true), ((2, .arg 60384, .int 0), false), ((2, .arg 60384, .mul (.arg 1302) (.int 4)), true), ((2, .arg 60384, .int 128), true)]) (hJ : J ρ (dS X ρ [.op2 .iand (.op1 .l2i (.op2 .lushr (.op1 .i2l (.elem (.arg 2880) (.rem (.add (.arg 1300) (.div (.arg 60384) (.int 4))) (.int 32)))) (.mul (.rem (.arg 60384) (.int 4)) (.int 8)))) (.int 255)]) (dS X ρ [.op2 .iand (.op2 .ishr (.elem (.arg 19616) (.div (.arg 60384) (.int 4))) (.mul (.rem (.arg 60384) (.int 4)) (.int 8))) (.int 255)])) : RPt X J ρ tEt0 := END_P kR_x kR_0 (Cs := []) (fun C hC => by cases hC) cD_en_f 300 (q := q_teEt0) k_teEt0 hk hf (fun c hc => by cases hc) hJ
noncomputable def cD_or0_111 : sC := ((183, 409, 20), ([tr 0, .int 0, .arg 60320, .arg 60352, .arg 60384], [tr 219, .int 0, .arg 60320, .arg 60352, .arg 60384]), (fT1, fT2), [], ([19232, 60000, 60064, 60065, 60096, 60128, 60160], []), (none, none), [], ([], []))
theorem cD_or0_111_f : cfine zT 65536 cD_or0_111 = true := by decide +kernel
noncomputable def f_or0_111 : sFs := [((0, .arg 1282, .int 0), false), ((2, .arg 60320, .int 0), false), ((2, .int 65535, .arg 60320), false), ((2, .arg 60352, .int 0), false), ((109, .add (.arg 60320) (.arg 60352), .int 111), true), ((2, .arg 60384, .int 0), false), ((2, .arg 60384, .mul (.arg 1302) (.int 4)), true), ((2, .arg 60384, .int 128), true)]
noncomputable def i_or0_111 : sI := []
noncomputable def p_or0_111 : sCut := (tEt0.1, tEt0.2, [((0, .arg 19232, .int 0), true), ((2, .arg 60384, .int 0), false), ((2, .arg 60384, .mul (.arg 1302) (.int 4)), true), ((2, .arg 60384, .int 128), true)], [])
theorem e_or0_111 : frun kR [(zWP, c_slo111), (zWP, c_fnd111)] (cpl1 zT cD_or0_111 [p_or0_111]) (cpl2 zT cD_or0_111 [p_or0_111]) (cleafN kR zT cD_or0_111 [p_or0_111]) 400 65536 (isatP f_or0_111 i_or0_111) i_or0_111 (sin0 mt_all cD_or0_111.1.1 18 cD_or0_111.2.1.1 (foot zT cD_or0_111.2.2.1.1)) (sin0 mt_all cD_or0_111.1.2.1 19 cD_or0_111.2.1.2 (foot zT cD_or0_111.2.2.1.2)) = true := by decide +kernel
theorem r_or0_111 {X : pX} {J : sR → List Value → List Value → Prop} {ρ : sR} (k1 : kok X ρ kR) (k2 : fok X ρ f_or0_111) (ki : iok X ρ i_or0_111) (hQ : ∀ ρ3 : sR, kok X ρ3 kR → fok X ρ3 p_or0_111.2.2.1 → agrM 65536 cD_or0_111.2.2.2.2.1.1 cD_or0_111.2.2.2.2.1.2 ρ3 ρ → RPt X J ρ3 tEt0) : RelP X pF pdfl mt_all 19 20 (foot zT fT1) (foot zT fT2) J ρ (sin0 mt_all 183 18 cD_or0_111.2.1.1 (foot zT fT1)) (sin0 mt_all 409 19 cD_or0_111.2.1.2 (foot zT fT2)) := START_P kR_x kR_0 (Cs := [(zWP, c_slo111), (zWP, c_fnd111)]) (fun C hC => by
  simp only [List.mem_cons, List.not_mem_nil, or_false] at hC
  rcases hC with rfl | rfl
  · exact s_slo111
  · exact s_fnd111) cD_or0_111_f (Q := [p_or0_111]) 400 e_or0_111 k1 k2 ki (fun p hp => by
  rw [List.mem_singleton.mp hp]
  exact fun ρ3 k3 f3 _ am => hQ ρ3 k3 f3 am)
noncomputable def cD_oi0_111 : sC := ((183, 409, 20), ([tr 0, .int 0, .arg 60320, .arg 60352, .arg 60384], [tr 219, .int 0, .arg 60320, .arg 60352, .arg 60384]), (fT1, fT2), [], ([19232, 60000, 60064, 60065, 60096, 60128, 60160], []), (none, none), [], ([], []))
theorem cD_oi0_111_f : cfine zT 65536 cD_oi0_111 = true := by decide +kernel
noncomputable def f_oi0_111 : sFs := [((0, .arg 1282, .int 0), false), ((2, .arg 60320, .int 0), false), ((2, .int 65535, .arg 60320), false), ((2, .arg 60352, .int 0), false), ((109, .add (.arg 60320) (.arg 60352), .int 111), true), ((2, .arg 60384, .mul (.arg 1302) (.int 4)), false)]
noncomputable def i_oi0_111 : sI := []
noncomputable def p_oi0_111 : sCut := (tEr.1, tEr.2, [((0, .arg 19232, .int 0), true)], [])
theorem e_oi0_111 : frun kR [(zWP, c_slo111), (zWP, c_fnd111)] (cpl1 zT cD_oi0_111 [p_oi0_111]) (cpl2 zT cD_oi0_111 [p_oi0_111]) (cleafN kR zT cD_oi0_111 [p_oi0_111]) 400 65536 (isatP f_oi0_111 i_oi0_111) i_oi0_111 (sin0 mt_all cD_oi0_111.1.1 18 cD_oi0_111.2.1.1 (foot zT cD_oi0_111.2.2.1.1)) (sin0 mt_all cD_oi0_111.1.2.1 19 cD_oi0_111.2.1.2 (foot zT cD_oi0_111.2.2.1.2)) = true := by decide +kernel
theorem r_oi0_111 {X : pX} {J : sR → List Value → List Value → Prop} {ρ : sR} (k1 : kok X ρ kR) (k2 : fok X ρ f_oi0_111) (ki : iok X ρ i_oi0_111) (hQ : ∀ ρ3 : sR, kok X ρ3 kR → fok X ρ3 p_oi0_111.2.2.1 → agrM 65536 cD_oi0_111.2.2.2.2.1.1 cD_oi0_111.2.2.2.2.1.2 ρ3 ρ → RPt X J ρ3 tEr) : RelP X pF pdfl mt_all 19 20 (foot zT fT1) (foot zT fT2) J ρ (sin0 mt_all 183 18 cD_oi0_111.2.1.1 (foot zT fT1)) (sin0 mt_all 409 19 cD_oi0_111.2.1.2 (foot zT fT2)) := START_P kR_x kR_0 (Cs := [(zWP, c_slo111), (zWP, c_fnd111)]) (fun C hC => by
  simp only [List.mem_cons, List.not_mem_nil, or_false] at hC
  rcases hC with rfl | rfl
  · exact s_slo111
  · exact s_fnd111) cD_oi0_111_f (Q := [p_oi0_111]) 400 e_oi0_111 k1 k2 ki (fun p hp => by
  rw [List.mem_singleton.mp hp]
  exact fun ρ3 k3 f3 _ am => hQ ρ3 k3 f3 am)
noncomputable def cD_oj0_111 : sC := ((183, 409, 20), ([tr 0, .int 0, .arg 60320, .arg 60352, .arg 60384], [tr 219, .int 0, .arg 60320, .arg 60352, .arg 60384]), (fT1, fT2), [], ([19232, 60000, 60064, 60065, 60096, 60128, 60160], []), (none, none), [], ([], []))
theorem cD_oj0_111_f : cfine zT 65536 cD_oj0_111 = true := by decide +kernel
noncomputable def f_oj0_111 : sFs := [((0, .arg 1282, .int 0), false), ((2, .arg 60320, .int 0), false), ((2, .int 65535, .arg 60320), false), ((2, .arg 60352, .int 0), false), ((109, .add (.arg 60320) (.arg 60352), .int 111), true), ((2, .arg 60384, .int 0), true)]
noncomputable def i_oj0_111 : sI := []
noncomputable def p_oj0_111 : sCut := (tEr.1, tEr.2, [((0, .arg 19232, .int 0), true)], [])
theorem e_oj0_111 : frun kR [(zWP, c_slo111), (zWP, c_fnd111)] (cpl1 zT cD_oj0_111 [p_oj0_111]) (cpl2 zT cD_oj0_111 [p_oj0_111]) (cleafN kR zT cD_oj0_111 [p_oj0_111]) 400 65536 (isatP f_oj0_111 i_oj0_111) i_oj0_111 (sin0 mt_all cD_oj0_111.1.1 18 cD_oj0_111.2.1.1 (foot zT cD_oj0_111.2.2.1.1)) (sin0 mt_all cD_oj0_111.1.2.1 19 cD_oj0_111.2.1.2 (foot zT cD_oj0_111.2.2.1.2)) = true := by decide +kernel
theorem r_oj0_111 {X : pX} {J : sR → List Value → List Value → Prop} {ρ : sR} (k1 : kok X ρ kR) (k2 : fok X ρ f_oj0_111) (ki : iok X ρ i_oj0_111) (hQ : ∀ ρ3 : sR, kok X ρ3 kR → fok X ρ3 p_oj0_111.2.2.1 → agrM 65536 cD_oj0_111.2.2.2.2.1.1 cD_oj0_111.2.2.2.2.1.2 ρ3 ρ → RPt X J ρ3 tEr) : RelP X pF pdfl mt_all 19 20 (foot zT fT1) (foot zT fT2) J ρ (sin0 mt_all 183 18 cD_oj0_111.2.1.1 (foot zT fT1)) (sin0 mt_all 409 19 cD_oj0_111.2.1.2 (foot zT fT2)) := START_P kR_x kR_0 (Cs := [(zWP, c_slo111), (zWP, c_fnd111)]) (fun C hC => by
  simp only [List.mem_cons, List.not_mem_nil, or_false] at hC
  rcases hC with rfl | rfl
  · exact s_slo111
  · exact s_fnd111) cD_oj0_111_f (Q := [p_oj0_111]) 400 e_oj0_111 k1 k2 ki (fun p hp => by
  rw [List.mem_singleton.mp hp]
  exact fun ρ3 k3 f3 _ am => hQ ρ3 k3 f3 am)
noncomputable def cD_or0_112 : sC := ((183, 409, 20), ([tr 0, .int 0, .arg 60320, .arg 60352, .arg 60384], [tr 219, .int 0, .arg 60320, .arg 60352, .arg 60384]), (fT1, fT2), [], ([19232, 60000, 60064, 60065, 60096, 60128, 60160], []), (none, none), [], ([], []))
theorem cD_or0_112_f : cfine zT 65536 cD_or0_112 = true := by decide +kernel
noncomputable def f_or0_112 : sFs := [((0, .arg 1282, .int 0), false), ((2, .arg 60320, .int 0), false), ((2, .int 65535, .arg 60320), false), ((2, .arg 60352, .int 0), false), ((109, .add (.arg 60320) (.arg 60352), .int 112), true), ((2, .arg 60384, .int 0), false), ((2, .arg 60384, .arg 1330), true), ((2, .arg 60384, .int 144), true)]
noncomputable def i_or0_112 : sI := []
noncomputable def p_or0_112 : sCut := (tEr.1, tEr.2, [((0, .arg 19232, .int 0), true)], [])
theorem e_or0_112 : frun kR [(zWP, c_slo112), (zWP, c_fnd112)] (cpl1 zT cD_or0_112 [p_or0_112]) (cpl2 zT cD_or0_112 [p_or0_112]) (cleafN kR zT cD_or0_112 [p_or0_112]) 400 65536 (isatP f_or0_112 i_or0_112) i_or0_112 (sin0 mt_all cD_or0_112.1.1 18 cD_or0_112.2.1.1 (foot zT cD_or0_112.2.2.1.1)) (sin0 mt_all cD_or0_112.1.2.1 19 cD_or0_112.2.1.2 (foot zT cD_or0_112.2.2.1.2)) = true := by decide +kernel
theorem r_or0_112 {X : pX} {J : sR → List Value → List Value → Prop} {ρ : sR} (k1 : kok X ρ kR) (k2 : fok X ρ f_or0_112) (ki : iok X ρ i_or0_112) (hQ : ∀ ρ3 : sR, kok X ρ3 kR → fok X ρ3 p_or0_112.2.2.1 → agrM 65536 cD_or0_112.2.2.2.2.1.1 cD_or0_112.2.2.2.2.1.2 ρ3 ρ → RPt X J ρ3 tEr) : RelP X pF pdfl mt_all 19 20 (foot zT fT1) (foot zT fT2) J ρ (sin0 mt_all 183 18 cD_or0_112.2.1.1 (foot zT fT1)) (sin0 mt_all 409 19 cD_or0_112.2.1.2 (foot zT fT2)) := START_P kR_x kR_0 (Cs := [(zWP, c_slo112), (zWP, c_fnd112)]) (fun C hC => by
  simp only [List.mem_cons, List.not_mem_nil, or_false] at hC
  rcases hC with rfl | rfl
  · exact s_slo112
  · exact s_fnd112) cD_or0_112_f (Q := [p_or0_112]) 400 e_or0_112 k1 k2 ki (fun p hp => by
  rw [List.mem_singleton.mp hp]
  exact fun ρ3 k3 f3 _ am => hQ ρ3 k3 f3 am)
noncomputable def cD_oi0_112 : sC := ((183, 409, 20), ([tr 0, .int 0, .arg 60320, .arg 60352, .arg 60384], [tr 219, .int 0, .arg 60320, .arg 60352, .arg 60384]), (fT1, fT2), [], ([19232, 60000, 60064, 60065, 60096, 60128, 60160], []), (none, none), [], ([], []))
theorem cD_oi0_112_f : cfine zT 65536 cD_oi0_112 = true := by decide +kernel
noncomputable def f_oi0_112 : sFs := [((0, .arg 1282, .int 0), false), ((2, .arg 60320, .int 0), false), ((2, .int 65535, .arg 60320), false), ((2, .arg 60352, .int 0), false), ((109, .add (.arg 60320) (.arg 60352), .int 112), true), ((2, .arg 60384, .arg 1330), false)]
noncomputable def i_oi0_112 : sI := []
noncomputable def p_oi0_112 : sCut := (tEr.1, tEr.2, [((0, .arg 19232, .int 0), true)], [])
theorem e_oi0_112 : frun kR [(zWP, c_slo112), (zWP, c_fnd112)] (cpl1 zT cD_oi0_112 [p_oi0_112]) (cpl2 zT cD_oi0_112 [p_oi0_112]) (cleafN kR zT cD_oi0_112 [p_oi0_112]) 400 65536 (isatP f_oi0_112 i_oi0_112) i_oi0_112 (sin0 mt_all cD_oi0_112.1.1 18 cD_oi0_112.2.1.1 (foot zT cD_oi0_112.2.2.1.1)) (sin0 mt_all cD_oi0_112.1.2.1 19 cD_oi0_112.2.1.2 (foot zT cD_oi0_112.2.2.1.2)) = true := by decide +kernel
theorem r_oi0_112 {X : pX} {J : sR → List Value → List Value → Prop} {ρ : sR} (k1 : kok X ρ kR) (k2 : fok X ρ f_oi0_112) (ki : iok X ρ i_oi0_112) (hQ : ∀ ρ3 : sR, kok X ρ3 kR → fok X ρ3 p_oi0_112.2.2.1 → agrM 65536 cD_oi0_112.2.2.2.2.1.1 cD_oi0_112.2.2.2.2.1.2 ρ3 ρ → RPt X J ρ3 tEr) : RelP X pF pdfl mt_all 19 20 (foot zT fT1) (foot zT fT2) J ρ (sin0 mt_all 183 18 cD_oi0_112.2.1.1 (foot zT fT1)) (sin0 mt_all 409 19 cD_oi0_112.2.1.2 (foot zT fT2)) := START_P kR_x kR_0 (Cs := [(zWP, c_slo112), (zWP, c_fnd112)]) (fun C hC => by
  simp only [List.mem_cons, List.not_mem_nil, or_false] at hC
  rcases hC with rfl | rfl
  · exact s_slo112
  · exact s_fnd112) cD_oi0_112_f (Q := [p_oi0_112]) 400 e_oi0_112 k1 k2 ki (fun p hp => by
  rw [List.mem_singleton.mp hp]
  exact fun ρ3 k3 f3 _ am => hQ ρ3 k3 f3 am)
noncomputable def cD_oj0_112 : sC := ((183, 409, 20), ([tr 0, .int 0, .arg 60320, .arg 60352, .arg 60384], [tr 219, .int 0, .arg 60320, .arg 60352, .arg 60384]), (fT1, fT2), [], ([19232, 60000, 60064, 60065, 60096, 60128, 60160], []), (none, none), [], ([], []))
theorem cD_oj0_112_f : cfine zT 65536 cD_oj0_112 = true := by decide +kernel
noncomputable def f_oj0_112 : sFs := [((0, .arg 1282, .int 0), false), ((2, .arg 60320, .int 0), false), ((2, .int 65535, .arg 60320), false), ((2, .arg 60352, .int 0), false), ((109, .add (.arg 60320) (.arg 60352), .int 112), true), ((2, .arg 60384, .int 0), true)]
noncomputable def i_oj0_112 : sI := []
noncomputable def p_oj0_112 : sCut := (tEr.1, tEr.2, [((0, .arg 19232, .int 0), true)], [])
theorem e_oj0_112 : frun kR [(zWP, c_slo112), (zWP, c_fnd112)] (cpl1 zT cD_oj0_112 [p_oj0_112]) (cpl2 zT cD_oj0_112 [p_oj0_112]) (cleafN kR zT cD_oj0_112 [p_oj0_112]) 400 65536 (isatP f_oj0_112 i_oj0_112) i_oj0_112 (sin0 mt_all cD_oj0_112.1.1 18 cD_oj0_112.2.1.1 (foot zT cD_oj0_112.2.2.1.1)) (sin0 mt_all cD_oj0_112.1.2.1 19 cD_oj0_112.2.1.2 (foot zT cD_oj0_112.2.2.1.2)) = true := by decide +kernel
theorem r_oj0_112 {X : pX} {J : sR → List Value → List Value → Prop} {ρ : sR} (k1 : kok X ρ kR) (k2 : fok X ρ f_oj0_112) (ki : iok X ρ i_oj0_112) (hQ : ∀ ρ3 : sR, kok X ρ3 kR → fok X ρ3 p_oj0_112.2.2.1 → agrM 65536 cD_oj0_112.2.2.2.2.1.1 cD_oj0_112.2.2.2.2.1.2 ρ3 ρ → RPt X J ρ3 tEr) : RelP X pF pdfl mt_all 19 20 (foot zT fT1) (foot zT fT2) J ρ (sin0 mt_all 183 18 cD_oj0_112.2.1.1 (foot zT fT1)) (sin0 mt_all 409 19 cD_oj0_112.2.1.2 (foot zT fT2)) := START_P kR_x kR_0 (Cs := [(zWP, c_slo112), (zWP, c_fnd112)]) (fun C hC => by
  simp only [List.mem_cons, List.not_mem_nil, or_false] at hC
  rcases hC with rfl | rfl
  · exact s_slo112
  · exact s_fnd112) cD_oj0_112_f (Q := [p_oj0_112]) 400 e_oj0_112 k1 k2 ki (fun p hp => by
  rw [List.mem_singleton.mp hp]
  exact fun ρ3 k3 f3 _ am => hQ ρ3 k3 f3 am)
noncomputable def cD_or1_13_0 : sC := ((183, 409, 20), ([tr 0, .int 1, .arg 60320, .arg 60352, .arg 60384], [tr 219, .int 1, .arg 60320, .arg 60352, .arg 60384]), (fT1, fT2), [], ([19232, 60000, 60064, 60065, 60096, 60128, 60160], []), (none, none), [], ([], []))
theorem cD_or1_13_0_f : cfine zT 65536 cD_or1_13_0 = true := by decide +kernel
noncomputable def f_or1_13_0 : sFs := [((0, .arg 1314, .int 0), false), ((2, .arg 60320, .int 0), false), ((2, .int 65535, .arg 60320), false), ((2, .arg 60352, .int 0), false), ((109, .add (.arg 60320) (.arg 60352), .int 13), true), ((0, .arg 60384, .int 0), true), ((2, .arg 60384, .int 0), false), ((2, .int 0, .arg 60384), false)]
noncomputable def i_or1_13_0 : sI := []
noncomputable def p_or1_13_0 : sCut := (tEr.1, tEr.2, [((0, .arg 19232, .int 0), true)], [])
theorem e_or1_13_0 : frun kR [(zWP, c_slo13), (zWP, c_fnd13)] (cpl1 zT cD_or1_13_0 [p_or1_13_0]) (cpl2 zT cD_or1_13_0 [p_or1_13_0]) (cleafN kR zT cD_or1_13_0 [p_or1_13_0]) 400 65536 (isatP f_or1_13_0 i_or1_13_0) i_or1_13_0 (sin0 mt_all cD_or1_13_0.1.1 18 cD_or1_13_0.2.1.1 (foot zT cD_or1_13_0.2.2.1.1)) (sin0 mt_all cD_or1_13_0.1.2.1 19 cD_or1_13_0.2.1.2 (foot zT cD_or1_13_0.2.2.1.2)) = true := by decide +kernel
theorem r_or1_13_0 {X : pX} {J : sR → List Value → List Value → Prop} {ρ : sR} (k1 : kok X ρ kR) (k2 : fok X ρ f_or1_13_0) (ki : iok X ρ i_or1_13_0) (hQ : ∀ ρ3 : sR, kok X ρ3 kR → fok X ρ3 p_or1_13_0.2.2.1 → agrM 65536 cD_or1_13_0.2.2.2.2.1.1 cD_or1_13_0.2.2.2.2.1.2 ρ3 ρ → RPt X J ρ3 tEr) : RelP X pF pdfl mt_all 19 20 (foot zT fT1) (foot zT fT2) J ρ (sin0 mt_all 183 18 cD_or1_13_0.2.1.1 (foot zT fT1)) (sin0 mt_all 409 19 cD_or1_13_0.2.1.2 (foot zT fT2)) := START_P kR_x kR_0 (Cs := [(zWP, c_slo13), (zWP, c_fnd13)]) (fun C hC => by
  simp only [List.mem_cons, List.not_mem_nil, or_false] at hC
  rcases hC with rfl | rfl
  · exact s_slo13
  · exact s_fnd13) cD_or1_13_0_f (Q := [p_or1_13_0]) 400 e_or1_13_0 k1 k2 ki (fun p hp => by
  rw [List.mem_singleton.mp hp]
  exact fun ρ3 k3 f3 _ am => hQ ρ3 k3 f3 am)
noncomputable def cD_or1_13_1 : sC := ((183, 409, 20), ([tr 0, .int 1, .arg 60320, .arg 60352, .arg 60384], [tr 219, .int 1, .arg 60320, .arg 60352, .arg 60384]), (fT1, fT2), [], ([19232, 60000, 60064, 60065, 60096, 60128, 60160], []), (none, none), [], ([], []))
theorem cD_or1_13_1_f : cfine zT 65536 cD_or1_13_1 = true := by decide +kernel
noncomputable def f_or1_13_1 : sFs := [((0, .arg 1314, .int 0), false), ((2, .arg 60320, .int 0), false), ((2, .int 65535, .arg 60320), false), ((2, .arg 60352, .int 0), false), ((109, .add (.arg 60320) (.arg 60352), .int 13), true), ((0, .arg 60384, .int 1), true), ((2, .arg 60384, .int 1), false), ((2, .int 1, .arg 60384), false)]
noncomputable def i_or1_13_1 : sI := []
noncomputable def p_or1_13_1 : sCut := (tEr.1, tEr.2, [((0, .arg 19232, .int 0), true)], [])
theorem e_or1_13_1 : frun kR [(zWP, c_slo13), (zWP, c_fnd13)] (cpl1 zT cD_or1_13_1 [p_or1_13_1]) (cpl2 zT cD_or1_13_1 [p_or1_13_1]) (cleafN kR zT cD_or1_13_1 [p_or1_13_1]) 400 65536 (isatP f_or1_13_1 i_or1_13_1) i_or1_13_1 (sin0 mt_all cD_or1_13_1.1.1 18 cD_or1_13_1.2.1.1 (foot zT cD_or1_13_1.2.2.1.1)) (sin0 mt_all cD_or1_13_1.1.2.1 19 cD_or1_13_1.2.1.2 (foot zT cD_or1_13_1.2.2.1.2)) = true := by decide +kernel
theorem r_or1_13_1 {X : pX} {J : sR → List Value → List Value → Prop} {ρ : sR} (k1 : kok X ρ kR) (k2 : fok X ρ f_or1_13_1) (ki : iok X ρ i_or1_13_1) (hQ : ∀ ρ3 : sR, kok X ρ3 kR → fok X ρ3 p_or1_13_1.2.2.1 → agrM 65536 cD_or1_13_1.2.2.2.2.1.1 cD_or1_13_1.2.2.2.2.1.2 ρ3 ρ → RPt X J ρ3 tEr) : RelP X pF pdfl mt_all 19 20 (foot zT fT1) (foot zT fT2) J ρ (sin0 mt_all 183 18 cD_or1_13_1.2.1.1 (foot zT fT1)) (sin0 mt_all 409 19 cD_or1_13_1.2.1.2 (foot zT fT2)) := START_P kR_x kR_0 (Cs := [(zWP, c_slo13), (zWP, c_fnd13)]) (fun C hC => by
  simp only [List.mem_cons, List.not_mem_nil, or_false] at hC
  rcases hC with rfl | rfl
  · exact s_slo13
  · exact s_fnd13) cD_or1_13_1_f (Q := [p_or1_13_1]) 400 e_or1_13_1 k1 k2 ki (fun p hp => by
  rw [List.mem_singleton.mp hp]
  exact fun ρ3 k3 f3 _ am => hQ ρ3 k3 f3 am)
noncomputable def cD_or1_13_2 : sC := ((183, 409, 20), ([tr 0, .int 1, .arg 60320, .arg 60352, .arg 60384], [tr 219, .int 1, .arg 60320, .arg 60352, .arg 60384]), (fT1, fT2), [], ([19232, 60000, 60064, 60065, 60096, 60128, 60160], []), (none, none), [], ([], []))
theorem cD_or1_13_2_f : cfine zT 65536 cD_or1_13_2 = true := by decide +kernel
noncomputable def f_or1_13_2 : sFs := [((0, .arg 1314, .int 0), false), ((2, .arg 60320, .int 0), false), ((2, .int 65535, .arg 60320), false), ((2, .arg 60352, .int 0), false), ((109, .add (.arg 60320) (.arg 60352), .int 13), true), ((0, .arg 60384, .int 2), true), ((2, .arg 60384, .int 2), false), ((2, .int 2, .arg 60384), false)]
noncomputable def i_or1_13_2 : sI := []
noncomputable def p_or1_13_2 : sCut := (tEr.1, tEr.2, [((0, .arg 19232, .int 0), true)], [])
theorem e_or1_13_2 : frun kR [(zWP, c_slo13), (zWP, c_fnd13)] (cpl1 zT cD_or1_13_2 [p_or1_13_2]) (cpl2 zT cD_or1_13_2 [p_or1_13_2]) (cleafN kR zT cD_or1_13_2 [p_or1_13_2]) 400 65536 (isatP f_or1_13_2 i_or1_13_2) i_or1_13_2 (sin0 mt_all cD_or1_13_2.1.1 18 cD_or1_13_2.2.1.1 (foot zT cD_or1_13_2.2.2.1.1)) (sin0 mt_all cD_or1_13_2.1.2.1 19 cD_or1_13_2.2.1.2 (foot zT cD_or1_13_2.2.2.1.2)) = true := by decide +kernel
theorem r_or1_13_2 {X : pX} {J : sR → List Value → List Value → Prop} {ρ : sR} (k1 : kok X ρ kR) (k2 : fok X ρ f_or1_13_2) (ki : iok X ρ i_or1_13_2) (hQ : ∀ ρ3 : sR, kok X ρ3 kR → fok X ρ3 p_or1_13_2.2.2.1 → agrM 65536 cD_or1_13_2.2.2.2.2.1.1 cD_or1_13_2.2.2.2.2.1.2 ρ3 ρ → RPt X J ρ3 tEr) : RelP X pF pdfl mt_all 19 20 (foot zT fT1) (foot zT fT2) J ρ (sin0 mt_all 183 18 cD_or1_13_2.2.1.1 (foot zT fT1)) (sin0 mt_all 409 19 cD_or1_13_2.2.1.2 (foot zT fT2)) := START_P kR_x kR_0 (Cs := [(zWP, c_slo13), (zWP, c_fnd13)]) (fun C hC => by
  simp only [List.mem_cons, List.not_mem_nil, or_false] at hC
  rcases hC with rfl | rfl
  · exact s_slo13
  · exact s_fnd13) cD_or1_13_2_f (Q := [p_or1_13_2]) 400 e_or1_13_2 k1 k2 ki (fun p hp => by
  rw [List.mem_singleton.mp hp]
  exact fun ρ3 k3 f3 _ am => hQ ρ3 k3 f3 am)
noncomputable def cD_or1_13_3 : sC := ((183, 409, 20), ([tr 0, .int 1, .arg 60320, .arg 60352, .arg 60384], [tr 219, .int 1, .arg 60320, .arg 60352, .arg 60384]), (fT1, fT2), [], ([19232, 60000, 60064, 60065, 60096, 60128, 60160], []), (none, none), [], ([], []))
theorem cD_or1_13_3_f : cfine zT 65536 cD_or1_13_3 = true := by decide +kernel
noncomputable def f_or1_13_3 : sFs := [((0, .arg 1314, .int 0), false), ((2, .arg 60320, .int 0), false), ((2, .int 65535, .arg 60320), false), ((2, .arg 60352, .int 0), false), ((109, .add (.arg 60320) (.arg 60352), .int 13), true), ((0, .arg 60384, .int 3), true), ((2, .arg 60384, .int 3), false), ((2, .int 3, .arg 60384), false)]
noncomputable def i_or1_13_3 : sI := []
noncomputable def p_or1_13_3 : sCut := (tEr.1, tEr.2, [((0, .arg 19232, .int 0), true)], [])
theorem e_or1_13_3 : frun kR [(zWP, c_slo13), (zWP, c_fnd13)] (cpl1 zT cD_or1_13_3 [p_or1_13_3]) (cpl2 zT cD_or1_13_3 [p_or1_13_3]) (cleafN kR zT cD_or1_13_3 [p_or1_13_3]) 400 65536 (isatP f_or1_13_3 i_or1_13_3) i_or1_13_3 (sin0 mt_all cD_or1_13_3.1.1 18 cD_or1_13_3.2.1.1 (foot zT cD_or1_13_3.2.2.1.1)) (sin0 mt_all cD_or1_13_3.1.2.1 19 cD_or1_13_3.2.1.2 (foot zT cD_or1_13_3.2.2.1.2)) = true := by decide +kernel
theorem r_or1_13_3 {X : pX} {J : sR → List Value → List Value → Prop} {ρ : sR} (k1 : kok X ρ kR) (k2 : fok X ρ f_or1_13_3) (ki : iok X ρ i_or1_13_3) (hQ : ∀ ρ3 : sR, kok X ρ3 kR → fok X ρ3 p_or1_13_3.2.2.1 → agrM 65536 cD_or1_13_3.2.2.2.2.1.1 cD_or1_13_3.2.2.2.2.1.2 ρ3 ρ → RPt X J ρ3 tEr) : RelP X pF pdfl mt_all 19 20 (foot zT fT1) (foot zT fT2) J ρ (sin0 mt_all 183 18 cD_or1_13_3.2.1.1 (foot zT fT1)) (sin0 mt_all 409 19 cD_or1_13_3.2.1.2 (foot zT fT2)) := START_P kR_x kR_0 (Cs := [(zWP, c_slo13), (zWP, c_fnd13)]) (fun C hC => by
  simp only [List.mem_cons, List.not_mem_nil, or_false] at hC
  rcases hC with rfl | rfl
  · exact s_slo13
  · exact s_fnd13) cD_or1_13_3_f (Q := [p_or1_13_3]) 400 e_or1_13_3 k1 k2 ki (fun p hp => by
  rw [List.mem_singleton.mp hp]
  exact fun ρ3 k3 f3 _ am => hQ ρ3 k3 f3 am)
noncomputable def cD_or1_13_4 : sC := ((183, 409, 20), ([tr 0, .int 1, .arg 60320, .arg 60352, .arg 60384], [tr 219, .int 1, .arg 60320, .arg 60352, .arg 60384]), (fT1, fT2), [], ([19232, 60000, 60064, 60065, 60096, 60128, 60160], []), (none, none), [], ([], []))
theorem cD_or1_13_4_f : cfine zT 65536 cD_or1_13_4 = true := by decide +kernel
noncomputable def f_or1_13_4 : sFs := [((0, .arg 1314, .int 0), false), ((2, .arg 60320, .int 0), false), ((2, .int 65535, .arg 60320), false), ((2, .arg 60352, .int 0), false), ((109, .add (.arg 60320) (.arg 60352), .int 13), true), ((0, .arg 60384, .int 4), true), ((2, .arg 60384, .int 4), false), ((2, .int 4, .arg 60384), false)]
noncomputable def i_or1_13_4 : sI := []
noncomputable def p_or1_13_4 : sCut := (tEr.1, tEr.2, [((0, .arg 19232, .int 0), true)], [])
theorem e_or1_13_4 : frun kR [(zWP, c_slo13), (zWP, c_fnd13)] (cpl1 zT cD_or1_13_4 [p_or1_13_4]) (cpl2 zT cD_or1_13_4 [p_or1_13_4]) (cleafN kR zT cD_or1_13_4 [p_or1_13_4]) 400 65536 (isatP f_or1_13_4 i_or1_13_4) i_or1_13_4 (sin0 mt_all cD_or1_13_4.1.1 18 cD_or1_13_4.2.1.1 (foot zT cD_or1_13_4.2.2.1.1)) (sin0 mt_all cD_or1_13_4.1.2.1 19 cD_or1_13_4.2.1.2 (foot zT cD_or1_13_4.2.2.1.2)) = true := by decide +kernel
theorem r_or1_13_4 {X : pX} {J : sR → List Value → List Value → Prop} {ρ : sR} (k1 : kok X ρ kR) (k2 : fok X ρ f_or1_13_4) (ki : iok X ρ i_or1_13_4) (hQ : ∀ ρ3 : sR, kok X ρ3 kR → fok X ρ3 p_or1_13_4.2.2.1 → agrM 65536 cD_or1_13_4.2.2.2.2.1.1 cD_or1_13_4.2.2.2.2.1.2 ρ3 ρ → RPt X J ρ3 tEr) : RelP X pF pdfl mt_all 19 20 (foot zT fT1) (foot zT fT2) J ρ (sin0 mt_all 183 18 cD_or1_13_4.2.1.1 (foot zT fT1)) (sin0 mt_all 409 19 cD_or1_13_4.2.1.2 (foot zT fT2)) := START_P kR_x kR_0 (Cs := [(zWP, c_slo13), (zWP, c_fnd13)]) (fun C hC => by
  simp only [List.mem_cons, List.not_mem_nil, or_false] at hC
  rcases hC with rfl | rfl
  · exact s_slo13
  · exact s_fnd13) cD_or1_13_4_f (Q := [p_or1_13_4]) 400 e_or1_13_4 k1 k2 ki (fun p hp => by
  rw [List.mem_singleton.mp hp]
  exact fun ρ3 k3 f3 _ am => hQ ρ3 k3 f3 am)
noncomputable def cD_or1_13_5 : sC := ((183, 409, 20), ([tr 0, .int 1, .arg 60320, .arg 60352, .arg 60384], [tr 219, .int 1, .arg 60320, .arg 60352, .arg 60384]), (fT1, fT2), [], ([19232, 60000, 60064, 60065, 60096, 60128, 60160], []), (none, none), [], ([], []))
theorem cD_or1_13_5_f : cfine zT 65536 cD_or1_13_5 = true := by decide +kernel
noncomputable def f_or1_13_5 : sFs := [((0, .arg 1314, .int 0), false), ((2, .arg 60320, .int 0), false), ((2, .int 65535, .arg 60320), false), ((2, .arg 60352, .int 0), false), ((109, .add (.arg 60320) (.arg 60352), .int 13), true), ((0, .arg 60384, .int 5), true), ((2, .arg 60384, .int 5), false), ((2, .int 5, .arg 60384), false)]
noncomputable def i_or1_13_5 : sI := []
noncomputable def p_or1_13_5 : sCut := (tEr.1, tEr.2, [((0, .arg 19232, .int 0), true)], [])
theorem e_or1_13_5 : frun kR [(zWP, c_slo13), (zWP, c_fnd13)] (cpl1 zT cD_or1_13_5 [p_or1_13_5]) (cpl2 zT cD_or1_13_5 [p_or1_13_5]) (cleafN kR zT cD_or1_13_5 [p_or1_13_5]) 400 65536 (isatP f_or1_13_5 i_or1_13_5) i_or1_13_5 (sin0 mt_all cD_or1_13_5.1.1 18 cD_or1_13_5.2.1.1 (foot zT cD_or1_13_5.2.2.1.1)) (sin0 mt_all cD_or1_13_5.1.2.1 19 cD_or1_13_5.2.1.2 (foot zT cD_or1_13_5.2.2.1.2)) = true := by decide +kernel
theorem r_or1_13_5 {X : pX} {J : sR → List Value → List Value → Prop} {ρ : sR} (k1 : kok X ρ kR) (k2 : fok X ρ f_or1_13_5) (ki : iok X ρ i_or1_13_5) (hQ : ∀ ρ3 : sR, kok X ρ3 kR → fok X ρ3 p_or1_13_5.2.2.1 → agrM 65536 cD_or1_13_5.2.2.2.2.1.1 cD_or1_13_5.2.2.2.2.1.2 ρ3 ρ → RPt X J ρ3 tEr) : RelP X pF pdfl mt_all 19 20 (foot zT fT1) (foot zT fT2) J ρ (sin0 mt_all 183 18 cD_or1_13_5.2.1.1 (foot zT fT1)) (sin0 mt_all 409 19 cD_or1_13_5.2.1.2 (foot zT fT2)) := START_P kR_x kR_0 (Cs := [(zWP, c_slo13), (zWP, c_fnd13)]) (fun C hC => by
  simp only [List.mem_cons, List.not_mem_nil, or_false] at hC
  rcases hC with rfl | rfl
  · exact s_slo13
  · exact s_fnd13) cD_or1_13_5_f (Q := [p_or1_13_5]) 400 e_or1_13_5 k1 k2 ki (fun p hp => by
  rw [List.mem_singleton.mp hp]
  exact fun ρ3 k3 f3 _ am => hQ ρ3 k3 f3 am)
noncomputable def cD_or1_13_6 : sC := ((183, 409, 20), ([tr 0, .int 1, .arg 60320, .arg 60352, .arg 60384], [tr 219, .int 1, .arg 60320, .arg 60352, .arg 60384]), (fT1, fT2), [], ([19232, 60000, 60064, 60065, 60096, 60128, 60160], []), (none, none), [], ([], []))
theorem cD_or1_13_6_f : cfine zT 65536 cD_or1_13_6 = true := by decide +kernel
noncomputable def f_or1_13_6 : sFs := [((0, .arg 1314, .int 0), false), ((2, .arg 60320, .int 0), false), ((2, .int 65535, .arg 60320), false), ((2, .arg 60352, .int 0), false), ((109, .add (.arg 60320) (.arg 60352), .int 13), true), ((0, .arg 60384, .int 6), true), ((2, .arg 60384, .int 6), false), ((2, .int 6, .arg 60384), false)]
noncomputable def i_or1_13_6 : sI := []
noncomputable def p_or1_13_6 : sCut := (tEr.1, tEr.2, [((0, .arg 19232, .int 0), true)], [])
theorem e_or1_13_6 : frun kR [(zWP, c_slo13), (zWP, c_fnd13)] (cpl1 zT cD_or1_13_6 [p_or1_13_6]) (cpl2 zT cD_or1_13_6 [p_or1_13_6]) (cleafN kR zT cD_or1_13_6 [p_or1_13_6]) 400 65536 (isatP f_or1_13_6 i_or1_13_6) i_or1_13_6 (sin0 mt_all cD_or1_13_6.1.1 18 cD_or1_13_6.2.1.1 (foot zT cD_or1_13_6.2.2.1.1)) (sin0 mt_all cD_or1_13_6.1.2.1 19 cD_or1_13_6.2.1.2 (foot zT cD_or1_13_6.2.2.1.2)) = true := by decide +kernel
theorem r_or1_13_6 {X : pX} {J : sR → List Value → List Value → Prop} {ρ : sR} (k1 : kok X ρ kR) (k2 : fok X ρ f_or1_13_6) (ki : iok X ρ i_or1_13_6) (hQ : ∀ ρ3 : sR, kok X ρ3 kR → fok X ρ3 p_or1_13_6.2.2.1 → agrM 65536 cD_or1_13_6.2.2.2.2.1.1 cD_or1_13_6.2.2.2.2.1.2 ρ3 ρ → RPt X J ρ3 tEr) : RelP X pF pdfl mt_all 19 20 (foot zT fT1) (foot zT fT2) J ρ (sin0 mt_all 183 18 cD_or1_13_6.2.1.1 (foot zT fT1)) (sin0 mt_all 409 19 cD_or1_13_6.2.1.2 (foot zT fT2)) := START_P kR_x kR_0 (Cs := [(zWP, c_slo13), (zWP, c_fnd13)]) (fun C hC => by
  simp only [List.mem_cons, List.not_mem_nil, or_false] at hC
  rcases hC with rfl | rfl
  · exact s_slo13
  · exact s_fnd13) cD_or1_13_6_f (Q := [p_or1_13_6]) 400 e_or1_13_6 k1 k2 ki (fun p hp => by
  rw [List.mem_singleton.mp hp]
  exact fun ρ3 k3 f3 _ am => hQ ρ3 k3 f3 am)
noncomputable def cD_or1_13_7 : sC := ((183, 409, 20), ([tr 0, .int 1, .arg 60320, .arg 60352, .arg 60384], [tr 219, .int 1, .arg 60320, .arg 60352, .arg 60384]), (fT1, fT2), [], ([19232, 60000, 60064, 60065, 60096, 60128, 60160], []), (none, none), [], ([], []))
theorem cD_or1_13_7_f : cfine zT 65536 cD_or1_13_7 = true := by decide +kernel
noncomputable def f_or1_13_7 : sFs := [((0, .arg 1314, .int 0), false), ((2, .arg 60320, .int 0), false), ((2, .int 65535, .arg 60320), false), ((2, .arg 60352, .int 0), false), ((109, .add (.arg 60320) (.arg 60352), .int 13), true), ((0, .arg 60384, .int 7), true), ((2, .arg 60384, .int 7), false), ((2, .int 7, .arg 60384), false)]
noncomputable def i_or1_13_7 : sI := []
noncomputable def p_or1_13_7 : sCut := (tEr.1, tEr.2, [((0, .arg 19232, .int 0), true)], [])
theorem e_or1_13_7 : frun kR [(zWP, c_slo13), (zWP, c_fnd13)] (cpl1 zT cD_or1_13_7 [p_or1_13_7]) (cpl2 zT cD_or1_13_7 [p_or1_13_7]) (cleafN kR zT cD_or1_13_7 [p_or1_13_7]) 400 65536 (isatP f_or1_13_7 i_or1_13_7) i_or1_13_7 (sin0 mt_all cD_or1_13_7.1.1 18 cD_or1_13_7.2.1.1 (foot zT cD_or1_13_7.2.2.1.1)) (sin0 mt_all cD_or1_13_7.1.2.1 19 cD_or1_13_7.2.1.2 (foot zT cD_or1_13_7.2.2.1.2)) = true := by decide +kernel
theorem r_or1_13_7 {X : pX} {J : sR → List Value → List Value → Prop} {ρ : sR} (k1 : kok X ρ kR) (k2 : fok X ρ f_or1_13_7) (ki : iok X ρ i_or1_13_7) (hQ : ∀ ρ3 : sR, kok X ρ3 kR → fok X ρ3 p_or1_13_7.2.2.1 → agrM 65536 cD_or1_13_7.2.2.2.2.1.1 cD_or1_13_7.2.2.2.2.1.2 ρ3 ρ → RPt X J ρ3 tEr) : RelP X pF pdfl mt_all 19 20 (foot zT fT1) (foot zT fT2) J ρ (sin0 mt_all 183 18 cD_or1_13_7.2.1.1 (foot zT fT1)) (sin0 mt_all 409 19 cD_or1_13_7.2.1.2 (foot zT fT2)) := START_P kR_x kR_0 (Cs := [(zWP, c_slo13), (zWP, c_fnd13)]) (fun C hC => by
  simp only [List.mem_cons, List.not_mem_nil, or_false] at hC
  rcases hC with rfl | rfl
  · exact s_slo13
  · exact s_fnd13) cD_or1_13_7_f (Q := [p_or1_13_7]) 400 e_or1_13_7 k1 k2 ki (fun p hp => by
  rw [List.mem_singleton.mp hp]
  exact fun ρ3 k3 f3 _ am => hQ ρ3 k3 f3 am)
noncomputable def cD_or1_13_8 : sC := ((183, 409, 20), ([tr 0, .int 1, .arg 60320, .arg 60352, .arg 60384], [tr 219, .int 1, .arg 60320, .arg 60352, .arg 60384]), (fT1, fT2), [], ([19232, 60000, 60064, 60065, 60096, 60128, 60160], []), (none, none), [], ([], []))
theorem cD_or1_13_8_f : cfine zT 65536 cD_or1_13_8 = true := by decide +kernel
noncomputable def f_or1_13_8 : sFs := [((0, .arg 1314, .int 0), false), ((2, .arg 60320, .int 0), false), ((2, .int 65535, .arg 60320), false), ((2, .arg 60352, .int 0), false), ((109, .add (.arg 60320) (.arg 60352), .int 13), true), ((0, .arg 60384, .int 8), true), ((2, .arg 60384, .int 8), false), ((2, .int 8, .arg 60384), false)]
noncomputable def i_or1_13_8 : sI := []
noncomputable def p_or1_13_8 : sCut := (tEr.1, tEr.2, [((0, .arg 19232, .int 0), true)], [])
theorem e_or1_13_8 : frun kR [(zWP, c_slo13), (zWP, c_fnd13)] (cpl1 zT cD_or1_13_8 [p_or1_13_8]) (cpl2 zT cD_or1_13_8 [p_or1_13_8]) (cleafN kR zT cD_or1_13_8 [p_or1_13_8]) 400 65536 (isatP f_or1_13_8 i_or1_13_8) i_or1_13_8 (sin0 mt_all cD_or1_13_8.1.1 18 cD_or1_13_8.2.1.1 (foot zT cD_or1_13_8.2.2.1.1)) (sin0 mt_all cD_or1_13_8.1.2.1 19 cD_or1_13_8.2.1.2 (foot zT cD_or1_13_8.2.2.1.2)) = true := by decide +kernel
theorem r_or1_13_8 {X : pX} {J : sR → List Value → List Value → Prop} {ρ : sR} (k1 : kok X ρ kR) (k2 : fok X ρ f_or1_13_8) (ki : iok X ρ i_or1_13_8) (hQ : ∀ ρ3 : sR, kok X ρ3 kR → fok X ρ3 p_or1_13_8.2.2.1 → agrM 65536 cD_or1_13_8.2.2.2.2.1.1 cD_or1_13_8.2.2.2.2.1.2 ρ3 ρ → RPt X J ρ3 tEr) : RelP X pF pdfl mt_all 19 20 (foot zT fT1) (foot zT fT2) J ρ (sin0 mt_all 183 18 cD_or1_13_8.2.1.1 (foot zT fT1)) (sin0 mt_all 409 19 cD_or1_13_8.2.1.2 (foot zT fT2)) := START_P kR_x kR_0 (Cs := [(zWP, c_slo13), (zWP, c_fnd13)]) (fun C hC => by
  simp only [List.mem_cons, List.not_mem_nil, or_false] at hC
  rcases hC with rfl | rfl
  · exact s_slo13
  · exact s_fnd13) cD_or1_13_8_f (Q := [p_or1_13_8]) 400 e_or1_13_8 k1 k2 ki (fun p hp => by
  rw [List.mem_singleton.mp hp]
  exact fun ρ3 k3 f3 _ am => hQ ρ3 k3 f3 am)
noncomputable def cD_or1_13_9 : sC := ((183, 409, 20), ([tr 0, .int 1, .arg 60320, .arg 60352, .arg 60384], [tr 219, .int 1, .arg 60320, .arg 60352, .arg 60384]), (fT1, fT2), [], ([19232, 60000, 60064, 60065, 60096, 60128, 60160], []), (none, none), [], ([], []))
theorem cD_or1_13_9_f : cfine zT 65536 cD_or1_13_9 = true := by decide +kernel
noncomputable def f_or1_13_9 : sFs := [((0, .arg 1314, .int 0), false), ((2, .arg 60320, .int 0), false), ((2, .int 65535, .arg 60320), false), ((2, .arg 60352, .int 0), false), ((109, .add (.arg 60320) (.arg 60352), .int 13), true), ((0, .arg 60384, .int 9), true), ((2, .arg 60384, .int 9), false), ((2, .int 9, .arg 60384), false)]
noncomputable def i_or1_13_9 : sI := []
noncomputable def p_or1_13_9 : sCut := (tEr.1, tEr.2, [((0, .arg 19232, .int 0), true)], [])
theorem e_or1_13_9 : frun kR [(zWP, c_slo13), (zWP, c_fnd13)] (cpl1 zT cD_or1_13_9 [p_or1_13_9]) (cpl2 zT cD_or1_13_9 [p_or1_13_9]) (cleafN kR zT cD_or1_13_9 [p_or1_13_9]) 400 65536 (isatP f_or1_13_9 i_or1_13_9) i_or1_13_9 (sin0 mt_all cD_or1_13_9.1.1 18 cD_or1_13_9.2.1.1 (foot zT cD_or1_13_9.2.2.1.1)) (sin0 mt_all cD_or1_13_9.1.2.1 19 cD_or1_13_9.2.1.2 (foot zT cD_or1_13_9.2.2.1.2)) = true := by decide +kernel
theorem r_or1_13_9 {X : pX} {J : sR → List Value → List Value → Prop} {ρ : sR} (k1 : kok X ρ kR) (k2 : fok X ρ f_or1_13_9) (ki : iok X ρ i_or1_13_9) (hQ : ∀ ρ3 : sR, kok X ρ3 kR → fok X ρ3 p_or1_13_9.2.2.1 → agrM 65536 cD_or1_13_9.2.2.2.2.1.1 cD_or1_13_9.2.2.2.2.1.2 ρ3 ρ → RPt X J ρ3 tEr) : RelP X pF pdfl mt_all 19 20 (foot zT fT1) (foot zT fT2) J ρ (sin0 mt_all 183 18 cD_or1_13_9.2.1.1 (foot zT fT1)) (sin0 mt_all 409 19 cD_or1_13_9.2.1.2 (foot zT fT2)) := START_P kR_x kR_0 (Cs := [(zWP, c_slo13), (zWP, c_fnd13)]) (fun C hC => by
  simp only [List.mem_cons, List.not_mem_nil, or_false] at hC
  rcases hC with rfl | rfl
  · exact s_slo13
  · exact s_fnd13) cD_or1_13_9_f (Q := [p_or1_13_9]) 400 e_or1_13_9 k1 k2 ki (fun p hp => by
  rw [List.mem_singleton.mp hp]
  exact fun ρ3 k3 f3 _ am => hQ ρ3 k3 f3 am)
noncomputable def cD_oi1_13 : sC := ((183, 409, 20), ([tr 0, .int 1, .arg 60320, .arg 60352, .arg 60384], [tr 219, .int 1, .arg 60320, .arg 60352, .arg 60384]), (fT1, fT2), [], ([19232, 60000, 60064, 60065, 60096, 60128, 60160], []), (none, none), [], ([], []))
theorem cD_oi1_13_f : cfine zT 65536 cD_oi1_13 = true := by decide +kernel
noncomputable def f_oi1_13 : sFs := [((0, .arg 1314, .int 0), false), ((2, .arg 60320, .int 0), false), ((2, .int 65535, .arg 60320), false), ((2, .arg 60352, .int 0), false), ((109, .add (.arg 60320) (.arg 60352), .int 13), true), ((2, .arg 60384, .int 10), false)]
noncomputable def i_oi1_13 : sI := []
noncomputable def p_oi1_13 : sCut := (tEr.1, tEr.2, [((0, .arg 19232, .int 0), true)], [])
theorem e_oi1_13 : frun kR [(zWP, c_slo13), (zWP, c_fnd13)] (cpl1 zT cD_oi1_13 [p_oi1_13]) (cpl2 zT cD_oi1_13 [p_oi1_13]) (cleafN kR zT cD_oi1_13 [p_oi1_13]) 400 65536 (isatP f_oi1_13 i_oi1_13) i_oi1_13 (sin0 mt_all cD_oi1_13.1.1 18 cD_oi1_13.2.1.1 (foot zT cD_oi1_13.2.2.1.1)) (sin0 mt_all cD_oi1_13.1.2.1 19 cD_oi1_13.2.1.2 (foot zT cD_oi1_13.2.2.1.2)) = true := by decide +kernel
theorem r_oi1_13 {X : pX} {J : sR → List Value → List Value → Prop} {ρ : sR} (k1 : kok X ρ kR) (k2 : fok X ρ f_oi1_13) (ki : iok X ρ i_oi1_13) (hQ : ∀ ρ3 : sR, kok X ρ3 kR → fok X ρ3 p_oi1_13.2.2.1 → agrM 65536 cD_oi1_13.2.2.2.2.1.1 cD_oi1_13.2.2.2.2.1.2 ρ3 ρ → RPt X J ρ3 tEr) : RelP X pF pdfl mt_all 19 20 (foot zT fT1) (foot zT fT2) J ρ (sin0 mt_all 183 18 cD_oi1_13.2.1.1 (foot zT fT1)) (sin0 mt_all 409 19 cD_oi1_13.2.1.2 (foot zT fT2)) := START_P kR_x kR_0 (Cs := [(zWP, c_slo13), (zWP, c_fnd13)]) (fun C hC => by
  simp only [List.mem_cons, List.not_mem_nil, or_false] at hC
  rcases hC with rfl | rfl
  · exact s_slo13
  · exact s_fnd13) cD_oi1_13_f (Q := [p_oi1_13]) 400 e_oi1_13 k1 k2 ki (fun p hp => by
  rw [List.mem_singleton.mp hp]
  exact fun ρ3 k3 f3 _ am => hQ ρ3 k3 f3 am)
noncomputable def cD_oj1_13 : sC := ((183, 409, 20), ([tr 0, .int 1, .arg 60320, .arg 60352, .arg 60384], [tr 219, .int 1, .arg 60320, .arg 60352, .arg 60384]), (fT1, fT2), [], ([19232, 60000, 60064, 60065, 60096, 60128, 60160], []), (none, none), [], ([], []))
theorem cD_oj1_13_f : cfine zT 65536 cD_oj1_13 = true := by decide +kernel
noncomputable def f_oj1_13 : sFs := [((0, .arg 1314, .int 0), false), ((2, .arg 60320, .int 0), false), ((2, .int 65535, .arg 60320), false), ((2, .arg 60352, .int 0), false), ((109, .add (.arg 60320) (.arg 60352), .int 13), true), ((2, .arg 60384, .int 0), true)]
noncomputable def i_oj1_13 : sI := []
noncomputable def p_oj1_13 : sCut := (tEr.1, tEr.2, [((0, .arg 19232, .int 0), true)], [])
theorem e_oj1_13 : frun kR [(zWP, c_slo13), (zWP, c_fnd13)] (cpl1 zT cD_oj1_13 [p_oj1_13]) (cpl2 zT cD_oj1_13 [p_oj1_13]) (cleafN kR zT cD_oj1_13 [p_oj1_13]) 400 65536 (isatP f_oj1_13 i_oj1_13) i_oj1_13 (sin0 mt_all cD_oj1_13.1.1 18 cD_oj1_13.2.1.1 (foot zT cD_oj1_13.2.2.1.1)) (sin0 mt_all cD_oj1_13.1.2.1 19 cD_oj1_13.2.1.2 (foot zT cD_oj1_13.2.2.1.2)) = true := by decide +kernel
theorem r_oj1_13 {X : pX} {J : sR → List Value → List Value → Prop} {ρ : sR} (k1 : kok X ρ kR) (k2 : fok X ρ f_oj1_13) (ki : iok X ρ i_oj1_13) (hQ : ∀ ρ3 : sR, kok X ρ3 kR → fok X ρ3 p_oj1_13.2.2.1 → agrM 65536 cD_oj1_13.2.2.2.2.1.1 cD_oj1_13.2.2.2.2.1.2 ρ3 ρ → RPt X J ρ3 tEr) : RelP X pF pdfl mt_all 19 20 (foot zT fT1) (foot zT fT2) J ρ (sin0 mt_all 183 18 cD_oj1_13.2.1.1 (foot zT fT1)) (sin0 mt_all 409 19 cD_oj1_13.2.1.2 (foot zT fT2)) := START_P kR_x kR_0 (Cs := [(zWP, c_slo13), (zWP, c_fnd13)]) (fun C hC => by
  simp only [List.mem_cons, List.not_mem_nil, or_false] at hC
  rcases hC with rfl | rfl
  · exact s_slo13
  · exact s_fnd13) cD_oj1_13_f (Q := [p_oj1_13]) 400 e_oj1_13 k1 k2 ki (fun p hp => by
  rw [List.mem_singleton.mp hp]
  exact fun ρ3 k3 f3 _ am => hQ ρ3 k3 f3 am)
noncomputable def cD_or1_110 : sC := ((183, 409, 20), ([tr 0, .int 1, .arg 60320, .arg 60352, .arg 60384], [tr 219, .int 1, .arg 60320, .arg 60352, .arg 60384]), (fT1, fT2), [], ([19232, 60000, 60064, 60065, 60096, 60128, 60160], []), (none, none), [], ([], []))
theorem cD_or1_110_f : cfine zT 65536 cD_or1_110 = true := by decide +kernel
noncomputable def f_or1_110 : sFs := [((0, .arg 1314, .int 0), false), ((2, .arg 60320, .int 0), false), ((2, .int 65535, .arg 60320), false), ((2, .arg 60352, .int 0), false), ((109, .add (.arg 60320) (.arg 60352), .int 110), true), ((2, .arg 60384, .int 0), false), ((2, .arg 60384, .arg 1362), true), ((2, .arg 60384, .int 24), true)]
noncomputable def i_or1_110 : sI := []
noncomputable def p_or1_110 : sCut := (tEr.1, tEr.2, [((0, .arg 19232, .int 0), true)], [])
theorem e_or1_110 : frun kR [(zWP, c_slo110), (zWP, c_fnd110)] (cpl1 zT cD_or1_110 [p_or1_110]) (cpl2 zT cD_or1_110 [p_or1_110]) (cleafN kR zT cD_or1_110 [p_or1_110]) 400 65536 (isatP f_or1_110 i_or1_110) i_or1_110 (sin0 mt_all cD_or1_110.1.1 18 cD_or1_110.2.1.1 (foot zT cD_or1_110.2.2.1.1)) (sin0 mt_all cD_or1_110.1.2.1 19 cD_or1_110.2.1.2 (foot zT cD_or1_110.2.2.1.2)) = true := by decide +kernel
theorem r_or1_110 {X : pX} {J : sR → List Value → List Value → Prop} {ρ : sR} (k1 : kok X ρ kR) (k2 : fok X ρ f_or1_110) (ki : iok X ρ i_or1_110) (hQ : ∀ ρ3 : sR, kok X ρ3 kR → fok X ρ3 p_or1_110.2.2.1 → agrM 65536 cD_or1_110.2.2.2.2.1.1 cD_or1_110.2.2.2.2.1.2 ρ3 ρ → RPt X J ρ3 tEr) : RelP X pF pdfl mt_all 19 20 (foot zT fT1) (foot zT fT2) J ρ (sin0 mt_all 183 18 cD_or1_110.2.1.1 (foot zT fT1)) (sin0 mt_all 409 19 cD_or1_110.2.1.2 (foot zT fT2)) := START_P kR_x kR_0 (Cs := [(zWP, c_slo110), (zWP, c_fnd110)]) (fun C hC => by
  simp only [List.mem_cons, List.not_mem_nil, or_false] at hC
  rcases hC with rfl | rfl
  · exact s_slo110
  · exact s_fnd110) cD_or1_110_f (Q := [p_or1_110]) 400 e_or1_110 k1 k2 ki (fun p hp => by
  rw [List.mem_singleton.mp hp]
  exact fun ρ3 k3 f3 _ am => hQ ρ3 k3 f3 am)
noncomputable def cD_oi1_110 : sC := ((183, 409, 20), ([tr 0, .int 1, .arg 60320, .arg 60352, .arg 60384], [tr 219, .int 1, .arg 60320, .arg 60352, .arg 60384]), (fT1, fT2), [], ([19232, 60000, 60064, 60065, 60096, 60128, 60160], []), (none, none), [], ([], []))
theorem cD_oi1_110_f : cfine zT 65536 cD_oi1_110 = true := by decide +kernel
noncomputable def f_oi1_110 : sFs := [((0, .arg 1314, .int 0), false), ((2, .arg 60320, .int 0), false), ((2, .int 65535, .arg 60320), false), ((2, .arg 60352, .int 0), false), ((109, .add (.arg 60320) (.arg 60352), .int 110), true), ((2, .arg 60384, .arg 1362), false)]
noncomputable def i_oi1_110 : sI := []
noncomputable def p_oi1_110 : sCut := (tEr.1, tEr.2, [((0, .arg 19232, .int 0), true)], [])
theorem e_oi1_110 : frun kR [(zWP, c_slo110), (zWP, c_fnd110)] (cpl1 zT cD_oi1_110 [p_oi1_110]) (cpl2 zT cD_oi1_110 [p_oi1_110]) (cleafN kR zT cD_oi1_110 [p_oi1_110]) 400 65536 (isatP f_oi1_110 i_oi1_110) i_oi1_110 (sin0 mt_all cD_oi1_110.1.1 18 cD_oi1_110.2.1.1 (foot zT cD_oi1_110.2.2.1.1)) (sin0 mt_all cD_oi1_110.1.2.1 19 cD_oi1_110.2.1.2 (foot zT cD_oi1_110.2.2.1.2)) = true := by decide +kernel
theorem r_oi1_110 {X : pX} {J : sR → List Value → List Value → Prop} {ρ : sR} (k1 : kok X ρ kR) (k2 : fok X ρ f_oi1_110) (ki : iok X ρ i_oi1_110) (hQ : ∀ ρ3 : sR, kok X ρ3 kR → fok X ρ3 p_oi1_110.2.2.1 → agrM 65536 cD_oi1_110.2.2.2.2.1.1 cD_oi1_110.2.2.2.2.1.2 ρ3 ρ → RPt X J ρ3 tEr) : RelP X pF pdfl mt_all 19 20 (foot zT fT1) (foot zT fT2) J ρ (sin0 mt_all 183 18 cD_oi1_110.2.1.1 (foot zT fT1)) (sin0 mt_all 409 19 cD_oi1_110.2.1.2 (foot zT fT2)) := START_P kR_x kR_0 (Cs := [(zWP, c_slo110), (zWP, c_fnd110)]) (fun C hC => by
  simp only [List.mem_cons, List.not_mem_nil, or_false] at hC
  rcases hC with rfl | rfl
  · exact s_slo110
  · exact s_fnd110) cD_oi1_110_f (Q := [p_oi1_110]) 400 e_oi1_110 k1 k2 ki (fun p hp => by
  rw [List.mem_singleton.mp hp]
  exact fun ρ3 k3 f3 _ am => hQ ρ3 k3 f3 am)
noncomputable def cD_oj1_110 : sC := ((183, 409, 20), ([tr 0, .int 1, .arg 60320, .arg 60352, .arg 60384], [tr 219, .int 1, .arg 60320, .arg 60352, .arg 60384]), (fT1, fT2), [], ([19232, 60000, 60064, 60065, 60096, 60128, 60160], []), (none, none), [], ([], []))
theorem cD_oj1_110_f : cfine zT 65536 cD_oj1_110 = true := by decide +kernel
noncomputable def f_oj1_110 : sFs := [((0, .arg 1314, .int 0), false), ((2, .arg 60320, .int 0), false), ((2, .int 65535, .arg 60320), false), ((2, .arg 60352, .int 0), false), ((109, .add (.arg 60320) (.arg 60352), .int 110), true), ((2, .arg 60384, .int 0), true)]
noncomputable def i_oj1_110 : sI := []
noncomputable def p_oj1_110 : sCut := (tEr.1, tEr.2, [((0, .arg 19232, .int 0), true)], [])
theorem e_oj1_110 : frun kR [(zWP, c_slo110), (zWP, c_fnd110)] (cpl1 zT cD_oj1_110 [p_oj1_110]) (cpl2 zT cD_oj1_110 [p_oj1_110]) (cleafN kR zT cD_oj1_110 [p_oj1_110]) 400 65536 (isatP f_oj1_110 i_oj1_110) i_oj1_110 (sin0 mt_all cD_oj1_110.1.1 18 cD_oj1_110.2.1.1 (foot zT cD_oj1_110.2.2.1.1)) (sin0 mt_all cD_oj1_110.1.2.1 19 cD_oj1_110.2.1.2 (foot zT cD_oj1_110.2.2.1.2)) = true := by decide +kernel
theorem r_oj1_110 {X : pX} {J : sR → List Value → List Value → Prop} {ρ : sR} (k1 : kok X ρ kR) (k2 : fok X ρ f_oj1_110) (ki : iok X ρ i_oj1_110) (hQ : ∀ ρ3 : sR, kok X ρ3 kR → fok X ρ3 p_oj1_110.2.2.1 → agrM 65536 cD_oj1_110.2.2.2.2.1.1 cD_oj1_110.2.2.2.2.1.2 ρ3 ρ → RPt X J ρ3 tEr) : RelP X pF pdfl mt_all 19 20 (foot zT fT1) (foot zT fT2) J ρ (sin0 mt_all 183 18 cD_oj1_110.2.1.1 (foot zT fT1)) (sin0 mt_all 409 19 cD_oj1_110.2.1.2 (foot zT fT2)) := START_P kR_x kR_0 (Cs := [(zWP, c_slo110), (zWP, c_fnd110)]) (fun C hC => by
  simp only [List.mem_cons, List.not_mem_nil, or_false] at hC
  rcases hC with rfl | rfl
  · exact s_slo110
  · exact s_fnd110) cD_oj1_110_f (Q := [p_oj1_110]) 400 e_oj1_110 k1 k2 ki (fun p hp => by
  rw [List.mem_singleton.mp hp]
  exact fun ρ3 k3 f3 _ am => hQ ρ3 k3 f3 am)
noncomputable def tEt1 : (sF × List sF × Nat) × (sF × List sF × Nat) := ((fr 0 183 6 [(0, tr 0), (1, .int 1), (4, .arg 60384), (5, .int 111)] [], [fBot], 18), (fr 0 409 6 [(0, tr 219), (1, .int 1), (4, .arg 60384), (5, .int 111)] [], [fBot], 19))
noncomputable def q_teEt1 : sCut := (tEt1.1, tEt1.2, [((0, .arg 19232, .int 0), true), ((2, .arg 60384, .int 0), false), ((2, .arg 60384, .mul (.arg 1334) (.int 4)), true), ((2, .arg 60384, .int 128), true)], [])
theorem k_teEt1 : cbody kR [] [] [] (lendP kR zT cD_en.2.2.1.1 cD_en.2.2.1.2 [.op2 .iand (.op1 .l2i (.op2 .lushr (.op1 .i2l (.elem (.arg 6656) (.rem (.add (.arg 1332) (.div (.arg 60384) (.int 4))) (.int 32)))) (.mul (.rem (.arg 60384) (.int 4)) (.int 8)))) (.int 255)] [.op2 .iand (.op2 .ishr (.elem (.arg 19648) (.div (.arg 60384) (.int 4))) (.mul (.rem (.arg 60384) (.int 4)) (.int 8))) (.int 255)]) 300 true true q_teEt1.2.2.1 q_teEt1.2.2.2 (cst zT cD_en.2.2.1.1 q_teEt1.1) (cst zT cD_en.2.2.1.2 q_teEt1.2.1) = true := by decide +kernel
theorem c_Et1 {X : pX} {J : sR → List Value → List Value → Prop} {ρ : sR} (hk : kok X ρ kR) (hf : fok X ρ [((0, .arg 19232, .int 0), true), ((2, .arg 60384, .int 0), false), ((2, .arg 60384, .mul (.arg 1334) (.int 4)), true), ((2, .arg 60384, .int 128), true)]) (hJ : J ρ (dS X ρ [.op2 .iand (.op1 .l2i (.op2 .lushr (.op1 .i2l (.elem (.arg 6656) (.rem (.add (.arg 1332) (.div (.arg 60384) (.int 4))) (.int 32)))) (.mul (.rem (.arg 60384) (.int 4)) (.int 8)))) (.int 255)]) (dS X ρ [.op2 .iand (.op2 .ishr (.elem (.arg 19648) (.div (.arg 60384) (.int 4))) (.mul (.rem (.arg 60384) (.int 4)) (.int 8))) (.int 255)])) : RPt X J ρ tEt1 := END_P kR_x kR_0 (Cs := []) (fun C hC => by cases hC) cD_en_f 300 (q := q_teEt1) k_teEt1 hk hf (fun c hc => by cases hc) hJ
noncomputable def cD_or1_111 : sC := ((183, 409, 20), ([tr 0, .int 1, .arg 60320, .arg 60352, .arg 60384], [tr 219, .int 1, .arg 60320, .arg 60352, .arg 60384]), (fT1, fT2), [], ([19232, 60000, 60064, 60065, 60096, 60128, 60160], []), (none, none), [], ([], []))
theorem cD_or1_111_f : cfine zT 65536 cD_or1_111 = true := by decide +kernel
noncomputable def f_or1_111 : sFs := [((0, .arg 1314, .int 0), false), ((2, .arg 60320, .int 0), false), ((2, .int 65535, .arg 60320), false), ((2, .arg 60352, .int 0), false), ((109, .add (.arg 60320) (.arg 60352), .int 111), true), ((2, .arg 60384, .int 0), false), ((2, .arg 60384, .mul (.arg 1334) (.int 4)), true), ((2, .arg 60384, .int 128), true)]
noncomputable def i_or1_111 : sI := []
noncomputable def p_or1_111 : sCut := (tEt1.1, tEt1.2, [((0, .arg 19232, .int 0), true), ((2, .arg 60384, .int 0), false), ((2, .arg 60384, .mul (.arg 1334) (.int 4)), true), ((2, .arg 60384, .int 128), true)], [])
theorem e_or1_111 : frun kR [(zWP, c_slo111), (zWP, c_fnd111)] (cpl1 zT cD_or1_111 [p_or1_111]) (cpl2 zT cD_or1_111 [p_or1_111]) (cleafN kR zT cD_or1_111 [p_or1_111]) 400 65536 (isatP f_or1_111 i_or1_111) i_or1_111 (sin0 mt_all cD_or1_111.1.1 18 cD_or1_111.2.1.1 (foot zT cD_or1_111.2.2.1.1)) (sin0 mt_all cD_or1_111.1.2.1 19 cD_or1_111.2.1.2 (foot zT cD_or1_111.2.2.1.2)) = true := by decide +kernel
theorem r_or1_111 {X : pX} {J : sR → List Value → List Value → Prop} {ρ : sR} (k1 : kok X ρ kR) (k2 : fok X ρ f_or1_111) (ki : iok X ρ i_or1_111) (hQ : ∀ ρ3 : sR, kok X ρ3 kR → fok X ρ3 p_or1_111.2.2.1 → agrM 65536 cD_or1_111.2.2.2.2.1.1 cD_or1_111.2.2.2.2.1.2 ρ3 ρ → RPt X J ρ3 tEt1) : RelP X pF pdfl mt_all 19 20 (foot zT fT1) (foot zT fT2) J ρ (sin0 mt_all 183 18 cD_or1_111.2.1.1 (foot zT fT1)) (sin0 mt_all 409 19 cD_or1_111.2.1.2 (foot zT fT2)) := START_P kR_x kR_0 (Cs := [(zWP, c_slo111), (zWP, c_fnd111)]) (fun C hC => by
  simp only [List.mem_cons, List.not_mem_nil, or_false] at hC
  rcases hC with rfl | rfl
  · exact s_slo111
  · exact s_fnd111) cD_or1_111_f (Q := [p_or1_111]) 400 e_or1_111 k1 k2 ki (fun p hp => by
  rw [List.mem_singleton.mp hp]
  exact fun ρ3 k3 f3 _ am => hQ ρ3 k3 f3 am)
noncomputable def cD_oi1_111 : sC := ((183, 409, 20), ([tr 0, .int 1, .arg 60320, .arg 60352, .arg 60384], [tr 219, .int 1, .arg 60320, .arg 60352, .arg 60384]), (fT1, fT2), [], ([19232, 60000, 60064, 60065, 60096, 60128, 60160], []), (none, none), [], ([], []))
theorem cD_oi1_111_f : cfine zT 65536 cD_oi1_111 = true := by decide +kernel
noncomputable def f_oi1_111 : sFs := [((0, .arg 1314, .int 0), false), ((2, .arg 60320, .int 0), false), ((2, .int 65535, .arg 60320), false), ((2, .arg 60352, .int 0), false), ((109, .add (.arg 60320) (.arg 60352), .int 111), true), ((2, .arg 60384, .mul (.arg 1334) (.int 4)), false)]
noncomputable def i_oi1_111 : sI := []
noncomputable def p_oi1_111 : sCut := (tEr.1, tEr.2, [((0, .arg 19232, .int 0), true)], [])
theorem e_oi1_111 : frun kR [(zWP, c_slo111), (zWP, c_fnd111)] (cpl1 zT cD_oi1_111 [p_oi1_111]) (cpl2 zT cD_oi1_111 [p_oi1_111]) (cleafN kR zT cD_oi1_111 [p_oi1_111]) 400 65536 (isatP f_oi1_111 i_oi1_111) i_oi1_111 (sin0 mt_all cD_oi1_111.1.1 18 cD_oi1_111.2.1.1 (foot zT cD_oi1_111.2.2.1.1)) (sin0 mt_all cD_oi1_111.1.2.1 19 cD_oi1_111.2.1.2 (foot zT cD_oi1_111.2.2.1.2)) = true := by decide +kernel
theorem r_oi1_111 {X : pX} {J : sR → List Value → List Value → Prop} {ρ : sR} (k1 : kok X ρ kR) (k2 : fok X ρ f_oi1_111) (ki : iok X ρ i_oi1_111) (hQ : ∀ ρ3 : sR, kok X ρ3 kR → fok X ρ3 p_oi1_111.2.2.1 → agrM 65536 cD_oi1_111.2.2.2.2.1.1 cD_oi1_111.2.2.2.2.1.2 ρ3 ρ → RPt X J ρ3 tEr) : RelP X pF pdfl mt_all 19 20 (foot zT fT1) (foot zT fT2) J ρ (sin0 mt_all 183 18 cD_oi1_111.2.1.1 (foot zT fT1)) (sin0 mt_all 409 19 cD_oi1_111.2.1.2 (foot zT fT2)) := START_P kR_x kR_0 (Cs := [(zWP, c_slo111), (zWP, c_fnd111)]) (fun C hC => by
  simp only [List.mem_cons, List.not_mem_nil, or_false] at hC
  rcases hC with rfl | rfl
  · exact s_slo111
  · exact s_fnd111) cD_oi1_111_f (Q := [p_oi1_111]) 400 e_oi1_111 k1 k2 ki (fun p hp => by
  rw [List.mem_singleton.mp hp]
  exact fun ρ3 k3 f3 _ am => hQ ρ3 k3 f3 am)
noncomputable def cD_oj1_111 : sC := ((183, 409, 20), ([tr 0, .int 1, .arg 60320, .arg 60352, .arg 60384], [tr 219, .int 1, .arg 60320, .arg 60352, .arg 60384]), (fT1, fT2), [], ([19232, 60000, 60064, 60065, 60096, 60128, 60160], []), (none, none), [], ([], []))
theorem cD_oj1_111_f : cfine zT 65536 cD_oj1_111 = true := by decide +kernel
noncomputable def f_oj1_111 : sFs := [((0, .arg 1314, .int 0), false), ((2, .arg 60320, .int 0), false), ((2, .int 65535, .arg 60320), false), ((2, .arg 60352, .int 0), false), ((109, .add (.arg 60320) (.arg 60352), .int 111), true), ((2, .arg 60384, .int 0), true)]
noncomputable def i_oj1_111 : sI := []
noncomputable def p_oj1_111 : sCut := (tEr.1, tEr.2, [((0, .arg 19232, .int 0), true)], [])
theorem e_oj1_111 : frun kR [(zWP, c_slo111), (zWP, c_fnd111)] (cpl1 zT cD_oj1_111 [p_oj1_111]) (cpl2 zT cD_oj1_111 [p_oj1_111]) (cleafN kR zT cD_oj1_111 [p_oj1_111]) 400 65536 (isatP f_oj1_111 i_oj1_111) i_oj1_111 (sin0 mt_all cD_oj1_111.1.1 18 cD_oj1_111.2.1.1 (foot zT cD_oj1_111.2.2.1.1)) (sin0 mt_all cD_oj1_111.1.2.1 19 cD_oj1_111.2.1.2 (foot zT cD_oj1_111.2.2.1.2)) = true := by decide +kernel
theorem r_oj1_111 {X : pX} {J : sR → List Value → List Value → Prop} {ρ : sR} (k1 : kok X ρ kR) (k2 : fok X ρ f_oj1_111) (ki : iok X ρ i_oj1_111) (hQ : ∀ ρ3 : sR, kok X ρ3 kR → fok X ρ3 p_oj1_111.2.2.1 → agrM 65536 cD_oj1_111.2.2.2.2.1.1 cD_oj1_111.2.2.2.2.1.2 ρ3 ρ → RPt X J ρ3 tEr) : RelP X pF pdfl mt_all 19 20 (foot zT fT1) (foot zT fT2) J ρ (sin0 mt_all 183 18 cD_oj1_111.2.1.1 (foot zT fT1)) (sin0 mt_all 409 19 cD_oj1_111.2.1.2 (foot zT fT2)) := START_P kR_x kR_0 (Cs := [(zWP, c_slo111), (zWP, c_fnd111)]) (fun C hC => by
  simp only [List.mem_cons, List.not_mem_nil, or_false] at hC
  rcases hC with rfl | rfl
  · exact s_slo111
  · exact s_fnd111) cD_oj1_111_f (Q := [p_oj1_111]) 400 e_oj1_111 k1 k2 ki (fun p hp => by
  rw [List.mem_singleton.mp hp]
  exact fun ρ3 k3 f3 _ am => hQ ρ3 k3 f3 am)
noncomputable def cD_or1_112 : sC := ((183, 409, 20), ([tr 0, .int 1, .arg 60320, .arg 60352, .arg 60384], [tr 219, .int 1, .arg 60320, .arg 60352, .arg 60384]), (fT1, fT2), [], ([19232, 60000, 60064, 60065, 60096, 60128, 60160], []), (none, none), [], ([], []))
theorem cD_or1_112_f : cfine zT 65536 cD_or1_112 = true := by decide +kernel
noncomputable def f_or1_112 : sFs := [((0, .arg 1314, .int 0), false), ((2, .arg 60320, .int 0), false), ((2, .int 65535, .arg 60320), false), ((2, .arg 60352, .int 0), false), ((109, .add (.arg 60320) (.arg 60352), .int 112), true), ((2, .arg 60384, .int 0), false), ((2, .arg 60384, .arg 1394), true), ((2, .arg 60384, .int 144), true)]
noncomputable def i_or1_112 : sI := []
noncomputable def p_or1_112 : sCut := (tEr.1, tEr.2, [((0, .arg 19232, .int 0), true)], [])
theorem e_or1_112 : frun kR [(zWP, c_slo112), (zWP, c_fnd112)] (cpl1 zT cD_or1_112 [p_or1_112]) (cpl2 zT cD_or1_112 [p_or1_112]) (cleafN kR zT cD_or1_112 [p_or1_112]) 400 65536 (isatP f_or1_112 i_or1_112) i_or1_112 (sin0 mt_all cD_or1_112.1.1 18 cD_or1_112.2.1.1 (foot zT cD_or1_112.2.2.1.1)) (sin0 mt_all cD_or1_112.1.2.1 19 cD_or1_112.2.1.2 (foot zT cD_or1_112.2.2.1.2)) = true := by decide +kernel
theorem r_or1_112 {X : pX} {J : sR → List Value → List Value → Prop} {ρ : sR} (k1 : kok X ρ kR) (k2 : fok X ρ f_or1_112) (ki : iok X ρ i_or1_112) (hQ : ∀ ρ3 : sR, kok X ρ3 kR → fok X ρ3 p_or1_112.2.2.1 → agrM 65536 cD_or1_112.2.2.2.2.1.1 cD_or1_112.2.2.2.2.1.2 ρ3 ρ → RPt X J ρ3 tEr) : RelP X pF pdfl mt_all 19 20 (foot zT fT1) (foot zT fT2) J ρ (sin0 mt_all 183 18 cD_or1_112.2.1.1 (foot zT fT1)) (sin0 mt_all 409 19 cD_or1_112.2.1.2 (foot zT fT2)) := START_P kR_x kR_0 (Cs := [(zWP, c_slo112), (zWP, c_fnd112)]) (fun C hC => by
  simp only [List.mem_cons, List.not_mem_nil, or_false] at hC
  rcases hC with rfl | rfl
  · exact s_slo112
  · exact s_fnd112) cD_or1_112_f (Q := [p_or1_112]) 400 e_or1_112 k1 k2 ki (fun p hp => by
  rw [List.mem_singleton.mp hp]
  exact fun ρ3 k3 f3 _ am => hQ ρ3 k3 f3 am)
noncomputable def cD_oi1_112 : sC := ((183, 409, 20), ([tr 0, .int 1, .arg 60320, .arg 60352, .arg 60384], [tr 219, .int 1, .arg 60320, .arg 60352, .arg 60384]), (fT1, fT2), [], ([19232, 60000, 60064, 60065, 60096, 60128, 60160], []), (none, none), [], ([], []))
theorem cD_oi1_112_f : cfine zT 65536 cD_oi1_112 = true := by decide +kernel
noncomputable def f_oi1_112 : sFs := [((0, .arg 1314, .int 0), false), ((2, .arg 60320, .int 0), false), ((2, .int 65535, .arg 60320), false), ((2, .arg 60352, .int 0), false), ((109, .add (.arg 60320) (.arg 60352), .int 112), true), ((2, .arg 60384, .arg 1394), false)]
noncomputable def i_oi1_112 : sI := []
noncomputable def p_oi1_112 : sCut := (tEr.1, tEr.2, [((0, .arg 19232, .int 0), true)], [])
theorem e_oi1_112 : frun kR [(zWP, c_slo112), (zWP, c_fnd112)] (cpl1 zT cD_oi1_112 [p_oi1_112]) (cpl2 zT cD_oi1_112 [p_oi1_112]) (cleafN kR zT cD_oi1_112 [p_oi1_112]) 400 65536 (isatP f_oi1_112 i_oi1_112) i_oi1_112 (sin0 mt_all cD_oi1_112.1.1 18 cD_oi1_112.2.1.1 (foot zT cD_oi1_112.2.2.1.1)) (sin0 mt_all cD_oi1_112.1.2.1 19 cD_oi1_112.2.1.2 (foot zT cD_oi1_112.2.2.1.2)) = true := by decide +kernel
theorem r_oi1_112 {X : pX} {J : sR → List Value → List Value → Prop} {ρ : sR} (k1 : kok X ρ kR) (k2 : fok X ρ f_oi1_112) (ki : iok X ρ i_oi1_112) (hQ : ∀ ρ3 : sR, kok X ρ3 kR → fok X ρ3 p_oi1_112.2.2.1 → agrM 65536 cD_oi1_112.2.2.2.2.1.1 cD_oi1_112.2.2.2.2.1.2 ρ3 ρ → RPt X J ρ3 tEr) : RelP X pF pdfl mt_all 19 20 (foot zT fT1) (foot zT fT2) J ρ (sin0 mt_all 183 18 cD_oi1_112.2.1.1 (foot zT fT1)) (sin0 mt_all 409 19 cD_oi1_112.2.1.2 (foot zT fT2)) := START_P kR_x kR_0 (Cs := [(zWP, c_slo112), (zWP, c_fnd112)]) (fun C hC => by
  simp only [List.mem_cons, List.not_mem_nil, or_false] at hC
  rcases hC with rfl | rfl
  · exact s_slo112
  · exact s_fnd112) cD_oi1_112_f (Q := [p_oi1_112]) 400 e_oi1_112 k1 k2 ki (fun p hp => by
  rw [List.mem_singleton.mp hp]
  exact fun ρ3 k3 f3 _ am => hQ ρ3 k3 f3 am)
noncomputable def cD_oj1_112 : sC := ((183, 409, 20), ([tr 0, .int 1, .arg 60320, .arg 60352, .arg 60384], [tr 219, .int 1, .arg 60320, .arg 60352, .arg 60384]), (fT1, fT2), [], ([19232, 60000, 60064, 60065, 60096, 60128, 60160], []), (none, none), [], ([], []))
theorem cD_oj1_112_f : cfine zT 65536 cD_oj1_112 = true := by decide +kernel
noncomputable def f_oj1_112 : sFs := [((0, .arg 1314, .int 0), false), ((2, .arg 60320, .int 0), false), ((2, .int 65535, .arg 60320), false), ((2, .arg 60352, .int 0), false), ((109, .add (.arg 60320) (.arg 60352), .int 112), true), ((2, .arg 60384, .int 0), true)]
noncomputable def i_oj1_112 : sI := []
noncomputable def p_oj1_112 : sCut := (tEr.1, tEr.2, [((0, .arg 19232, .int 0), true)], [])
theorem e_oj1_112 : frun kR [(zWP, c_slo112), (zWP, c_fnd112)] (cpl1 zT cD_oj1_112 [p_oj1_112]) (cpl2 zT cD_oj1_112 [p_oj1_112]) (cleafN kR zT cD_oj1_112 [p_oj1_112]) 400 65536 (isatP f_oj1_112 i_oj1_112) i_oj1_112 (sin0 mt_all cD_oj1_112.1.1 18 cD_oj1_112.2.1.1 (foot zT cD_oj1_112.2.2.1.1)) (sin0 mt_all cD_oj1_112.1.2.1 19 cD_oj1_112.2.1.2 (foot zT cD_oj1_112.2.2.1.2)) = true := by decide +kernel
theorem r_oj1_112 {X : pX} {J : sR → List Value → List Value → Prop} {ρ : sR} (k1 : kok X ρ kR) (k2 : fok X ρ f_oj1_112) (ki : iok X ρ i_oj1_112) (hQ : ∀ ρ3 : sR, kok X ρ3 kR → fok X ρ3 p_oj1_112.2.2.1 → agrM 65536 cD_oj1_112.2.2.2.2.1.1 cD_oj1_112.2.2.2.2.1.2 ρ3 ρ → RPt X J ρ3 tEr) : RelP X pF pdfl mt_all 19 20 (foot zT fT1) (foot zT fT2) J ρ (sin0 mt_all 183 18 cD_oj1_112.2.1.1 (foot zT fT1)) (sin0 mt_all 409 19 cD_oj1_112.2.1.2 (foot zT fT2)) := START_P kR_x kR_0 (Cs := [(zWP, c_slo112), (zWP, c_fnd112)]) (fun C hC => by
  simp only [List.mem_cons, List.not_mem_nil, or_false] at hC
  rcases hC with rfl | rfl
  · exact s_slo112
  · exact s_fnd112) cD_oj1_112_f (Q := [p_oj1_112]) 400 e_oj1_112 k1 k2 ki (fun p hp => by
  rw [List.mem_singleton.mp hp]
  exact fun ρ3 k3 f3 _ am => hQ ρ3 k3 f3 am)
noncomputable def cD_or2_13_0 : sC := ((183, 409, 20), ([tr 0, .int 2, .arg 60320, .arg 60352, .arg 60384], [tr 219, .int 2, .arg 60320, .arg 60352, .arg 60384]), (fT1, fT2), [], ([19232, 60000, 60064, 60065, 60096, 60128, 60160], []), (none, none), [], ([], []))
theorem cD_or2_13_0_f : cfine zT 65536 cD_or2_13_0 = true := by decide +kernel
noncomputable def f_or2_13_0 : sFs := [((0, .arg 1346, .int 0), false), ((2, .arg 60320, .int 0), false), ((2, .int 65535, .arg 60320), false), ((2, .arg 60352, .int 0), false), ((109, .add (.arg 60320) (.arg 60352), .int 13), true), ((0, .arg 60384, .int 0), true), ((2, .arg 60384, .int 0), false), ((2, .int 0, .arg 60384), false)]
noncomputable def i_or2_13_0 : sI := []
noncomputable def p_or2_13_0 : sCut := (tEr.1, tEr.2, [((0, .arg 19232, .int 0), true)], [])
theorem e_or2_13_0 : frun kR [(zWP, c_slo13), (zWP, c_fnd13)] (cpl1 zT cD_or2_13_0 [p_or2_13_0]) (cpl2 zT cD_or2_13_0 [p_or2_13_0]) (cleafN kR zT cD_or2_13_0 [p_or2_13_0]) 400 65536 (isatP f_or2_13_0 i_or2_13_0) i_or2_13_0 (sin0 mt_all cD_or2_13_0.1.1 18 cD_or2_13_0.2.1.1 (foot zT cD_or2_13_0.2.2.1.1)) (sin0 mt_all cD_or2_13_0.1.2.1 19 cD_or2_13_0.2.1.2 (foot zT cD_or2_13_0.2.2.1.2)) = true := by decide +kernel
theorem r_or2_13_0 {X : pX} {J : sR → List Value → List Value → Prop} {ρ : sR} (k1 : kok X ρ kR) (k2 : fok X ρ f_or2_13_0) (ki : iok X ρ i_or2_13_0) (hQ : ∀ ρ3 : sR, kok X ρ3 kR → fok X ρ3 p_or2_13_0.2.2.1 → agrM 65536 cD_or2_13_0.2.2.2.2.1.1 cD_or2_13_0.2.2.2.2.1.2 ρ3 ρ → RPt X J ρ3 tEr) : RelP X pF pdfl mt_all 19 20 (foot zT fT1) (foot zT fT2) J ρ (sin0 mt_all 183 18 cD_or2_13_0.2.1.1 (foot zT fT1)) (sin0 mt_all 409 19 cD_or2_13_0.2.1.2 (foot zT fT2)) := START_P kR_x kR_0 (Cs := [(zWP, c_slo13), (zWP, c_fnd13)]) (fun C hC => by
  simp only [List.mem_cons, List.not_mem_nil, or_false] at hC
  rcases hC with rfl | rfl
  · exact s_slo13
  · exact s_fnd13) cD_or2_13_0_f (Q := [p_or2_13_0]) 400 e_or2_13_0 k1 k2 ki (fun p hp => by
  rw [List.mem_singleton.mp hp]
  exact fun ρ3 k3 f3 _ am => hQ ρ3 k3 f3 am)
noncomputable def cD_or2_13_1 : sC := ((183, 409, 20), ([tr 0, .int 2, .arg 60320, .arg 60352, .arg 60384], [tr 219, .int 2, .arg 60320, .arg 60352, .arg 60384]), (fT1, fT2), [], ([19232, 60000, 60064, 60065, 60096, 60128, 60160], []), (none, none), [], ([], []))
theorem cD_or2_13_1_f : cfine zT 65536 cD_or2_13_1 = true := by decide +kernel
noncomputable def f_or2_13_1 : sFs := [((0, .arg 1346, .int 0), false), ((2, .arg 60320, .int 0), false), ((2, .int 65535, .arg 60320), false), ((2, .arg 60352, .int 0), false), ((109, .add (.arg 60320) (.arg 60352), .int 13), true), ((0, .arg 60384, .int 1), true), ((2, .arg 60384, .int 1), false), ((2, .int 1, .arg 60384), false)]
noncomputable def i_or2_13_1 : sI := []
noncomputable def p_or2_13_1 : sCut := (tEr.1, tEr.2, [((0, .arg 19232, .int 0), true)], [])
theorem e_or2_13_1 : frun kR [(zWP, c_slo13), (zWP, c_fnd13)] (cpl1 zT cD_or2_13_1 [p_or2_13_1]) (cpl2 zT cD_or2_13_1 [p_or2_13_1]) (cleafN kR zT cD_or2_13_1 [p_or2_13_1]) 400 65536 (isatP f_or2_13_1 i_or2_13_1) i_or2_13_1 (sin0 mt_all cD_or2_13_1.1.1 18 cD_or2_13_1.2.1.1 (foot zT cD_or2_13_1.2.2.1.1)) (sin0 mt_all cD_or2_13_1.1.2.1 19 cD_or2_13_1.2.1.2 (foot zT cD_or2_13_1.2.2.1.2)) = true := by decide +kernel
theorem r_or2_13_1 {X : pX} {J : sR → List Value → List Value → Prop} {ρ : sR} (k1 : kok X ρ kR) (k2 : fok X ρ f_or2_13_1) (ki : iok X ρ i_or2_13_1) (hQ : ∀ ρ3 : sR, kok X ρ3 kR → fok X ρ3 p_or2_13_1.2.2.1 → agrM 65536 cD_or2_13_1.2.2.2.2.1.1 cD_or2_13_1.2.2.2.2.1.2 ρ3 ρ → RPt X J ρ3 tEr) : RelP X pF pdfl mt_all 19 20 (foot zT fT1) (foot zT fT2) J ρ (sin0 mt_all 183 18 cD_or2_13_1.2.1.1 (foot zT fT1)) (sin0 mt_all 409 19 cD_or2_13_1.2.1.2 (foot zT fT2)) := START_P kR_x kR_0 (Cs := [(zWP, c_slo13), (zWP, c_fnd13)]) (fun C hC => by
  simp only [List.mem_cons, List.not_mem_nil, or_false] at hC
  rcases hC with rfl | rfl
  · exact s_slo13
  · exact s_fnd13) cD_or2_13_1_f (Q := [p_or2_13_1]) 400 e_or2_13_1 k1 k2 ki (fun p hp => by
  rw [List.mem_singleton.mp hp]
  exact fun ρ3 k3 f3 _ am => hQ ρ3 k3 f3 am)
noncomputable def cD_or2_13_2 : sC := ((183, 409, 20), ([tr 0, .int 2, .arg 60320, .arg 60352, .arg 60384], [tr 219, .int 2, .arg 60320, .arg 60352, .arg 60384]), (fT1, fT2), [], ([19232, 60000, 60064, 60065, 60096, 60128, 60160], []), (none, none), [], ([], []))
theorem cD_or2_13_2_f : cfine zT 65536 cD_or2_13_2 = true := by decide +kernel
noncomputable def f_or2_13_2 : sFs := [((0, .arg 1346, .int 0), false), ((2, .arg 60320, .int 0), false), ((2, .int 65535, .arg 60320), false), ((2, .arg 60352, .int 0), false), ((109, .add (.arg 60320) (.arg 60352), .int 13), true), ((0, .arg 60384, .int 2), true), ((2, .arg 60384, .int 2), false), ((2, .int 2, .arg 60384), false)]
noncomputable def i_or2_13_2 : sI := []
noncomputable def p_or2_13_2 : sCut := (tEr.1, tEr.2, [((0, .arg 19232, .int 0), true)], [])
theorem e_or2_13_2 : frun kR [(zWP, c_slo13), (zWP, c_fnd13)] (cpl1 zT cD_or2_13_2 [p_or2_13_2]) (cpl2 zT cD_or2_13_2 [p_or2_13_2]) (cleafN kR zT cD_or2_13_2 [p_or2_13_2]) 400 65536 (isatP f_or2_13_2 i_or2_13_2) i_or2_13_2 (sin0 mt_all cD_or2_13_2.1.1 18 cD_or2_13_2.2.1.1 (foot zT cD_or2_13_2.2.2.1.1)) (sin0 mt_all cD_or2_13_2.1.2.1 19 cD_or2_13_2.2.1.2 (foot zT cD_or2_13_2.2.2.1.2)) = true := by decide +kernel
theorem r_or2_13_2 {X : pX} {J : sR → List Value → List Value → Prop} {ρ : sR} (k1 : kok X ρ kR) (k2 : fok X ρ f_or2_13_2) (ki : iok X ρ i_or2_13_2) (hQ : ∀ ρ3 : sR, kok X ρ3 kR → fok X ρ3 p_or2_13_2.2.2.1 → agrM 65536 cD_or2_13_2.2.2.2.2.1.1 cD_or2_13_2.2.2.2.2.1.2 ρ3 ρ → RPt X J ρ3 tEr) : RelP X pF pdfl mt_all 19 20 (foot zT fT1) (foot zT fT2) J ρ (sin0 mt_all 183 18 cD_or2_13_2.2.1.1 (foot zT fT1)) (sin0 mt_all 409 19 cD_or2_13_2.2.1.2 (foot zT fT2)) := START_P kR_x kR_0 (Cs := [(zWP, c_slo13), (zWP, c_fnd13)]) (fun C hC => by
  simp only [List.mem_cons, List.not_mem_nil, or_false] at hC
  rcases hC with rfl | rfl
  · exact s_slo13
  · exact s_fnd13) cD_or2_13_2_f (Q := [p_or2_13_2]) 400 e_or2_13_2 k1 k2 ki (fun p hp => by
  rw [List.mem_singleton.mp hp]
  exact fun ρ3 k3 f3 _ am => hQ ρ3 k3 f3 am)
noncomputable def cD_or2_13_3 : sC := ((183, 409, 20), ([tr 0, .int 2, .arg 60320, .arg 60352, .arg 60384], [tr 219, .int 2, .arg 60320, .arg 60352, .arg 60384]), (fT1, fT2), [], ([19232, 60000, 60064, 60065, 60096, 60128, 60160], []), (none, none), [], ([], []))
theorem cD_or2_13_3_f : cfine zT 65536 cD_or2_13_3 = true := by decide +kernel
noncomputable def f_or2_13_3 : sFs := [((0, .arg 1346, .int 0), false), ((2, .arg 60320, .int 0), false), ((2, .int 65535, .arg 60320), false), ((2, .arg 60352, .int 0), false), ((109, .add (.arg 60320) (.arg 60352), .int 13), true), ((0, .arg 60384, .int 3), true), ((2, .arg 60384, .int 3), false), ((2, .int 3, .arg 60384), false)]
noncomputable def i_or2_13_3 : sI := []
noncomputable def p_or2_13_3 : sCut := (tEr.1, tEr.2, [((0, .arg 19232, .int 0), true)], [])
theorem e_or2_13_3 : frun kR [(zWP, c_slo13), (zWP, c_fnd13)] (cpl1 zT cD_or2_13_3 [p_or2_13_3]) (cpl2 zT cD_or2_13_3 [p_or2_13_3]) (cleafN kR zT cD_or2_13_3 [p_or2_13_3]) 400 65536 (isatP f_or2_13_3 i_or2_13_3) i_or2_13_3 (sin0 mt_all cD_or2_13_3.1.1 18 cD_or2_13_3.2.1.1 (foot zT cD_or2_13_3.2.2.1.1)) (sin0 mt_all cD_or2_13_3.1.2.1 19 cD_or2_13_3.2.1.2 (foot zT cD_or2_13_3.2.2.1.2)) = true := by decide +kernel
theorem r_or2_13_3 {X : pX} {J : sR → List Value → List Value → Prop} {ρ : sR} (k1 : kok X ρ kR) (k2 : fok X ρ f_or2_13_3) (ki : iok X ρ i_or2_13_3) (hQ : ∀ ρ3 : sR, kok X ρ3 kR → fok X ρ3 p_or2_13_3.2.2.1 → agrM 65536 cD_or2_13_3.2.2.2.2.1.1 cD_or2_13_3.2.2.2.2.1.2 ρ3 ρ → RPt X J ρ3 tEr) : RelP X pF pdfl mt_all 19 20 (foot zT fT1) (foot zT fT2) J ρ (sin0 mt_all 183 18 cD_or2_13_3.2.1.1 (foot zT fT1)) (sin0 mt_all 409 19 cD_or2_13_3.2.1.2 (foot zT fT2)) := START_P kR_x kR_0 (Cs := [(zWP, c_slo13), (zWP, c_fnd13)]) (fun C hC => by
  simp only [List.mem_cons, List.not_mem_nil, or_false] at hC
  rcases hC with rfl | rfl
  · exact s_slo13
  · exact s_fnd13) cD_or2_13_3_f (Q := [p_or2_13_3]) 400 e_or2_13_3 k1 k2 ki (fun p hp => by
  rw [List.mem_singleton.mp hp]
  exact fun ρ3 k3 f3 _ am => hQ ρ3 k3 f3 am)
noncomputable def cD_or2_13_4 : sC := ((183, 409, 20), ([tr 0, .int 2, .arg 60320, .arg 60352, .arg 60384], [tr 219, .int 2, .arg 60320, .arg 60352, .arg 60384]), (fT1, fT2), [], ([19232, 60000, 60064, 60065, 60096, 60128, 60160], []), (none, none), [], ([], []))
theorem cD_or2_13_4_f : cfine zT 65536 cD_or2_13_4 = true := by decide +kernel
noncomputable def f_or2_13_4 : sFs := [((0, .arg 1346, .int 0), false), ((2, .arg 60320, .int 0), false), ((2, .int 65535, .arg 60320), false), ((2, .arg 60352, .int 0), false), ((109, .add (.arg 60320) (.arg 60352), .int 13), true), ((0, .arg 60384, .int 4), true), ((2, .arg 60384, .int 4), false), ((2, .int 4, .arg 60384), false)]
noncomputable def i_or2_13_4 : sI := []
noncomputable def p_or2_13_4 : sCut := (tEr.1, tEr.2, [((0, .arg 19232, .int 0), true)], [])
theorem e_or2_13_4 : frun kR [(zWP, c_slo13), (zWP, c_fnd13)] (cpl1 zT cD_or2_13_4 [p_or2_13_4]) (cpl2 zT cD_or2_13_4 [p_or2_13_4]) (cleafN kR zT cD_or2_13_4 [p_or2_13_4]) 400 65536 (isatP f_or2_13_4 i_or2_13_4) i_or2_13_4 (sin0 mt_all cD_or2_13_4.1.1 18 cD_or2_13_4.2.1.1 (foot zT cD_or2_13_4.2.2.1.1)) (sin0 mt_all cD_or2_13_4.1.2.1 19 cD_or2_13_4.2.1.2 (foot zT cD_or2_13_4.2.2.1.2)) = true := by decide +kernel
theorem r_or2_13_4 {X : pX} {J : sR → List Value → List Value → Prop} {ρ : sR} (k1 : kok X ρ kR) (k2 : fok X ρ f_or2_13_4) (ki : iok X ρ i_or2_13_4) (hQ : ∀ ρ3 : sR, kok X ρ3 kR → fok X ρ3 p_or2_13_4.2.2.1 → agrM 65536 cD_or2_13_4.2.2.2.2.1.1 cD_or2_13_4.2.2.2.2.1.2 ρ3 ρ → RPt X J ρ3 tEr) : RelP X pF pdfl mt_all 19 20 (foot zT fT1) (foot zT fT2) J ρ (sin0 mt_all 183 18 cD_or2_13_4.2.1.1 (foot zT fT1)) (sin0 mt_all 409 19 cD_or2_13_4.2.1.2 (foot zT fT2)) := START_P kR_x kR_0 (Cs := [(zWP, c_slo13), (zWP, c_fnd13)]) (fun C hC => by
  simp only [List.mem_cons, List.not_mem_nil, or_false] at hC
  rcases hC with rfl | rfl
  · exact s_slo13
  · exact s_fnd13) cD_or2_13_4_f (Q := [p_or2_13_4]) 400 e_or2_13_4 k1 k2 ki (fun p hp => by
  rw [List.mem_singleton.mp hp]
  exact fun ρ3 k3 f3 _ am => hQ ρ3 k3 f3 am)
noncomputable def cD_or2_13_5 : sC := ((183, 409, 20), ([tr 0, .int 2, .arg 60320, .arg 60352, .arg 60384], [tr 219, .int 2, .arg 60320, .arg 60352, .arg 60384]), (fT1, fT2), [], ([19232, 60000, 60064, 60065, 60096, 60128, 60160], []), (none, none), [], ([], []))
theorem cD_or2_13_5_f : cfine zT 65536 cD_or2_13_5 = true := by decide +kernel
noncomputable def f_or2_13_5 : sFs := [((0, .arg 1346, .int 0), false), ((2, .arg 60320, .int 0), false), ((2, .int 65535, .arg 60320), false), ((2, .arg 60352, .int 0), false), ((109, .add (.arg 60320) (.arg 60352), .int 13), true), ((0, .arg 60384, .int 5), true), ((2, .arg 60384, .int 5), false), ((2, .int 5, .arg 60384), false)]
noncomputable def i_or2_13_5 : sI := []
noncomputable def p_or2_13_5 : sCut := (tEr.1, tEr.2, [((0, .arg 19232, .int 0), true)], [])
theorem e_or2_13_5 : frun kR [(zWP, c_slo13), (zWP, c_fnd13)] (cpl1 zT cD_or2_13_5 [p_or2_13_5]) (cpl2 zT cD_or2_13_5 [p_or2_13_5]) (cleafN kR zT cD_or2_13_5 [p_or2_13_5]) 400 65536 (isatP f_or2_13_5 i_or2_13_5) i_or2_13_5 (sin0 mt_all cD_or2_13_5.1.1 18 cD_or2_13_5.2.1.1 (foot zT cD_or2_13_5.2.2.1.1)) (sin0 mt_all cD_or2_13_5.1.2.1 19 cD_or2_13_5.2.1.2 (foot zT cD_or2_13_5.2.2.1.2)) = true := by decide +kernel
theorem r_or2_13_5 {X : pX} {J : sR → List Value → List Value → Prop} {ρ : sR} (k1 : kok X ρ kR) (k2 : fok X ρ f_or2_13_5) (ki : iok X ρ i_or2_13_5) (hQ : ∀ ρ3 : sR, kok X ρ3 kR → fok X ρ3 p_or2_13_5.2.2.1 → agrM 65536 cD_or2_13_5.2.2.2.2.1.1 cD_or2_13_5.2.2.2.2.1.2 ρ3 ρ → RPt X J ρ3 tEr) : RelP X pF pdfl mt_all 19 20 (foot zT fT1) (foot zT fT2) J ρ (sin0 mt_all 183 18 cD_or2_13_5.2.1.1 (foot zT fT1)) (sin0 mt_all 409 19 cD_or2_13_5.2.1.2 (foot zT fT2)) := START_P kR_x kR_0 (Cs := [(zWP, c_slo13), (zWP, c_fnd13)]) (fun C hC => by
  simp only [List.mem_cons, List.not_mem_nil, or_false] at hC
  rcases hC with rfl | rfl
  · exact s_slo13
  · exact s_fnd13) cD_or2_13_5_f (Q := [p_or2_13_5]) 400 e_or2_13_5 k1 k2 ki (fun p hp => by
  rw [List.mem_singleton.mp hp]
  exact fun ρ3 k3 f3 _ am => hQ ρ3 k3 f3 am)
noncomputable def cD_or2_13_6 : sC := ((183, 409, 20), ([tr 0, .int 2, .arg 60320, .arg 60352, .arg 60384], [tr 219, .int 2, .arg 60320, .arg 60352, .arg 60384]), (fT1, fT2), [], ([19232, 60000, 60064, 60065, 60096, 60128, 60160], []), (none, none), [], ([], []))
theorem cD_or2_13_6_f : cfine zT 65536 cD_or2_13_6 = true := by decide +kernel
noncomputable def f_or2_13_6 : sFs := [((0, .arg 1346, .int 0), false), ((2, .arg 60320, .int 0), false), ((2, .int 65535, .arg 60320), false), ((2, .arg 60352, .int 0), false), ((109, .add (.arg 60320) (.arg 60352), .int 13), true), ((0, .arg 60384, .int 6), true), ((2, .arg 60384, .int 6), false), ((2, .int 6, .arg 60384), false)]
noncomputable def i_or2_13_6 : sI := []
noncomputable def p_or2_13_6 : sCut := (tEr.1, tEr.2, [((0, .arg 19232, .int 0), true)], [])
theorem e_or2_13_6 : frun kR [(zWP, c_slo13), (zWP, c_fnd13)] (cpl1 zT cD_or2_13_6 [p_or2_13_6]) (cpl2 zT cD_or2_13_6 [p_or2_13_6]) (cleafN kR zT cD_or2_13_6 [p_or2_13_6]) 400 65536 (isatP f_or2_13_6 i_or2_13_6) i_or2_13_6 (sin0 mt_all cD_or2_13_6.1.1 18 cD_or2_13_6.2.1.1 (foot zT cD_or2_13_6.2.2.1.1)) (sin0 mt_all cD_or2_13_6.1.2.1 19 cD_or2_13_6.2.1.2 (foot zT cD_or2_13_6.2.2.1.2)) = true := by decide +kernel
theorem r_or2_13_6 {X : pX} {J : sR → List Value → List Value → Prop} {ρ : sR} (k1 : kok X ρ kR) (k2 : fok X ρ f_or2_13_6) (ki : iok X ρ i_or2_13_6) (hQ : ∀ ρ3 : sR, kok X ρ3 kR → fok X ρ3 p_or2_13_6.2.2.1 → agrM 65536 cD_or2_13_6.2.2.2.2.1.1 cD_or2_13_6.2.2.2.2.1.2 ρ3 ρ → RPt X J ρ3 tEr) : RelP X pF pdfl mt_all 19 20 (foot zT fT1) (foot zT fT2) J ρ (sin0 mt_all 183 18 cD_or2_13_6.2.1.1 (foot zT fT1)) (sin0 mt_all 409 19 cD_or2_13_6.2.1.2 (foot zT fT2)) := START_P kR_x kR_0 (Cs := [(zWP, c_slo13), (zWP, c_fnd13)]) (fun C hC => by
  simp only [List.mem_cons, List.not_mem_nil, or_false] at hC
  rcases hC with rfl | rfl
  · exact s_slo13
  · exact s_fnd13) cD_or2_13_6_f (Q := [p_or2_13_6]) 400 e_or2_13_6 k1 k2 ki (fun p hp => by
  rw [List.mem_singleton.mp hp]
  exact fun ρ3 k3 f3 _ am => hQ ρ3 k3 f3 am)
noncomputable def cD_or2_13_7 : sC := ((183, 409, 20), ([tr 0, .int 2, .arg 60320, .arg 60352, .arg 60384], [tr 219, .int 2, .arg 60320, .arg 60352, .arg 60384]), (fT1, fT2), [], ([19232, 60000, 60064, 60065, 60096, 60128, 60160], []), (none, none), [], ([], []))
theorem cD_or2_13_7_f : cfine zT 65536 cD_or2_13_7 = true := by decide +kernel
noncomputable def f_or2_13_7 : sFs := [((0, .arg 1346, .int 0), false), ((2, .arg 60320, .int 0), false), ((2, .int 65535, .arg 60320), false), ((2, .arg 60352, .int 0), false), ((109, .add (.arg 60320) (.arg 60352), .int 13), true), ((0, .arg 60384, .int 7), true), ((2, .arg 60384, .int 7), false), ((2, .int 7, .arg 60384), false)]
noncomputable def i_or2_13_7 : sI := []
noncomputable def p_or2_13_7 : sCut := (tEr.1, tEr.2, [((0, .arg 19232, .int 0), true)], [])
theorem e_or2_13_7 : frun kR [(zWP, c_slo13), (zWP, c_fnd13)] (cpl1 zT cD_or2_13_7 [p_or2_13_7]) (cpl2 zT cD_or2_13_7 [p_or2_13_7]) (cleafN kR zT cD_or2_13_7 [p_or2_13_7]) 400 65536 (isatP f_or2_13_7 i_or2_13_7) i_or2_13_7 (sin0 mt_all cD_or2_13_7.1.1 18 cD_or2_13_7.2.1.1 (foot zT cD_or2_13_7.2.2.1.1)) (sin0 mt_all cD_or2_13_7.1.2.1 19 cD_or2_13_7.2.1.2 (foot zT cD_or2_13_7.2.2.1.2)) = true := by decide +kernel
theorem r_or2_13_7 {X : pX} {J : sR → List Value → List Value → Prop} {ρ : sR} (k1 : kok X ρ kR) (k2 : fok X ρ f_or2_13_7) (ki : iok X ρ i_or2_13_7) (hQ : ∀ ρ3 : sR, kok X ρ3 kR → fok X ρ3 p_or2_13_7.2.2.1 → agrM 65536 cD_or2_13_7.2.2.2.2.1.1 cD_or2_13_7.2.2.2.2.1.2 ρ3 ρ → RPt X J ρ3 tEr) : RelP X pF pdfl mt_all 19 20 (foot zT fT1) (foot zT fT2) J ρ (sin0 mt_all 183 18 cD_or2_13_7.2.1.1 (foot zT fT1)) (sin0 mt_all 409 19 cD_or2_13_7.2.1.2 (foot zT fT2)) := START_P kR_x kR_0 (Cs := [(zWP, c_slo13), (zWP, c_fnd13)]) (fun C hC => by
  simp only [List.mem_cons, List.not_mem_nil, or_false] at hC
  rcases hC with rfl | rfl
  · exact s_slo13
  · exact s_fnd13) cD_or2_13_7_f (Q := [p_or2_13_7]) 400 e_or2_13_7 k1 k2 ki (fun p hp => by
  rw [List.mem_singleton.mp hp]
  exact fun ρ3 k3 f3 _ am => hQ ρ3 k3 f3 am)
noncomputable def cD_or2_13_8 : sC := ((183, 409, 20), ([tr 0, .int 2, .arg 60320, .arg 60352, .arg 60384], [tr 219, .int 2, .arg 60320, .arg 60352, .arg 60384]), (fT1, fT2), [], ([19232, 60000, 60064, 60065, 60096, 60128, 60160], []), (none, none), [], ([], []))
theorem cD_or2_13_8_f : cfine zT 65536 cD_or2_13_8 = true := by decide +kernel
noncomputable def f_or2_13_8 : sFs := [((0, .arg 1346, .int 0), false), ((2, .arg 60320, .int 0), false), ((2, .int 65535, .arg 60320), false), ((2, .arg 60352, .int 0), false), ((109, .add (.arg 60320) (.arg 60352), .int 13), true), ((0, .arg 60384, .int 8), true), ((2, .arg 60384, .int 8), false), ((2, .int 8, .arg 60384), false)]
noncomputable def i_or2_13_8 : sI := []
noncomputable def p_or2_13_8 : sCut := (tEr.1, tEr.2, [((0, .arg 19232, .int 0), true)], [])
theorem e_or2_13_8 : frun kR [(zWP, c_slo13), (zWP, c_fnd13)] (cpl1 zT cD_or2_13_8 [p_or2_13_8]) (cpl2 zT cD_or2_13_8 [p_or2_13_8]) (cleafN kR zT cD_or2_13_8 [p_or2_13_8]) 400 65536 (isatP f_or2_13_8 i_or2_13_8) i_or2_13_8 (sin0 mt_all cD_or2_13_8.1.1 18 cD_or2_13_8.2.1.1 (foot zT cD_or2_13_8.2.2.1.1)) (sin0 mt_all cD_or2_13_8.1.2.1 19 cD_or2_13_8.2.1.2 (foot zT cD_or2_13_8.2.2.1.2)) = true := by decide +kernel
theorem r_or2_13_8 {X : pX} {J : sR → List Value → List Value → Prop} {ρ : sR} (k1 : kok X ρ kR) (k2 : fok X ρ f_or2_13_8) (ki : iok X ρ i_or2_13_8) (hQ : ∀ ρ3 : sR, kok X ρ3 kR → fok X ρ3 p_or2_13_8.2.2.1 → agrM 65536 cD_or2_13_8.2.2.2.2.1.1 cD_or2_13_8.2.2.2.2.1.2 ρ3 ρ → RPt X J ρ3 tEr) : RelP X pF pdfl mt_all 19 20 (foot zT fT1) (foot zT fT2) J ρ (sin0 mt_all 183 18 cD_or2_13_8.2.1.1 (foot zT fT1)) (sin0 mt_all 409 19 cD_or2_13_8.2.1.2 (foot zT fT2)) := START_P kR_x kR_0 (Cs := [(zWP, c_slo13), (zWP, c_fnd13)]) (fun C hC => by
  simp only [List.mem_cons, List.not_mem_nil, or_false] at hC
  rcases hC with rfl | rfl
  · exact s_slo13
  · exact s_fnd13) cD_or2_13_8_f (Q := [p_or2_13_8]) 400 e_or2_13_8 k1 k2 ki (fun p hp => by
  rw [List.mem_singleton.mp hp]
  exact fun ρ3 k3 f3 _ am => hQ ρ3 k3 f3 am)
noncomputable def cD_or2_13_9 : sC := ((183, 409, 20), ([tr 0, .int 2, .arg 60320, .arg 60352, .arg 60384], [tr 219, .int 2, .arg 60320, .arg 60352, .arg 60384]), (fT1, fT2), [], ([19232, 60000, 60064, 60065, 60096, 60128, 60160], []), (none, none), [], ([], []))
theorem cD_or2_13_9_f : cfine zT 65536 cD_or2_13_9 = true := by decide +kernel
noncomputable def f_or2_13_9 : sFs := [((0, .arg 1346, .int 0), false), ((2, .arg 60320, .int 0), false), ((2, .int 65535, .arg 60320), false), ((2, .arg 60352, .int 0), false), ((109, .add (.arg 60320) (.arg 60352), .int 13), true), ((0, .arg 60384, .int 9), true), ((2, .arg 60384, .int 9), false), ((2, .int 9, .arg 60384), false)]
noncomputable def i_or2_13_9 : sI := []
noncomputable def p_or2_13_9 : sCut := (tEr.1, tEr.2, [((0, .arg 19232, .int 0), true)], [])
theorem e_or2_13_9 : frun kR [(zWP, c_slo13), (zWP, c_fnd13)] (cpl1 zT cD_or2_13_9 [p_or2_13_9]) (cpl2 zT cD_or2_13_9 [p_or2_13_9]) (cleafN kR zT cD_or2_13_9 [p_or2_13_9]) 400 65536 (isatP f_or2_13_9 i_or2_13_9) i_or2_13_9 (sin0 mt_all cD_or2_13_9.1.1 18 cD_or2_13_9.2.1.1 (foot zT cD_or2_13_9.2.2.1.1)) (sin0 mt_all cD_or2_13_9.1.2.1 19 cD_or2_13_9.2.1.2 (foot zT cD_or2_13_9.2.2.1.2)) = true := by decide +kernel
theorem r_or2_13_9 {X : pX} {J : sR → List Value → List Value → Prop} {ρ : sR} (k1 : kok X ρ kR) (k2 : fok X ρ f_or2_13_9) (ki : iok X ρ i_or2_13_9) (hQ : ∀ ρ3 : sR, kok X ρ3 kR → fok X ρ3 p_or2_13_9.2.2.1 → agrM 65536 cD_or2_13_9.2.2.2.2.1.1 cD_or2_13_9.2.2.2.2.1.2 ρ3 ρ → RPt X J ρ3 tEr) : RelP X pF pdfl mt_all 19 20 (foot zT fT1) (foot zT fT2) J ρ (sin0 mt_all 183 18 cD_or2_13_9.2.1.1 (foot zT fT1)) (sin0 mt_all 409 19 cD_or2_13_9.2.1.2 (foot zT fT2)) := START_P kR_x kR_0 (Cs := [(zWP, c_slo13), (zWP, c_fnd13)]) (fun C hC => by
  simp only [List.mem_cons, List.not_mem_nil, or_false] at hC
  rcases hC with rfl | rfl
  · exact s_slo13
  · exact s_fnd13) cD_or2_13_9_f (Q := [p_or2_13_9]) 400 e_or2_13_9 k1 k2 ki (fun p hp => by
  rw [List.mem_singleton.mp hp]
  exact fun ρ3 k3 f3 _ am => hQ ρ3 k3 f3 am)
noncomputable def cD_oi2_13 : sC := ((183, 409, 20), ([tr 0, .int 2, .arg 60320, .arg 60352, .arg 60384], [tr 219, .int 2, .arg 60320, .arg 60352, .arg 60384]), (fT1, fT2), [], ([19232, 60000, 60064, 60065, 60096, 60128, 60160], []), (none, none), [], ([], []))
theorem cD_oi2_13_f : cfine zT 65536 cD_oi2_13 = true := by decide +kernel
noncomputable def f_oi2_13 : sFs := [((0, .arg 1346, .int 0), false), ((2, .arg 60320, .int 0), false), ((2, .int 65535, .arg 60320), false), ((2, .arg 60352, .int 0), false), ((109, .add (.arg 60320) (.arg 60352), .int 13), true), ((2, .arg 60384, .int 10), false)]
noncomputable def i_oi2_13 : sI := []
noncomputable def p_oi2_13 : sCut := (tEr.1, tEr.2, [((0, .arg 19232, .int 0), true)], [])
theorem e_oi2_13 : frun kR [(zWP, c_slo13), (zWP, c_fnd13)] (cpl1 zT cD_oi2_13 [p_oi2_13]) (cpl2 zT cD_oi2_13 [p_oi2_13]) (cleafN kR zT cD_oi2_13 [p_oi2_13]) 400 65536 (isatP f_oi2_13 i_oi2_13) i_oi2_13 (sin0 mt_all cD_oi2_13.1.1 18 cD_oi2_13.2.1.1 (foot zT cD_oi2_13.2.2.1.1)) (sin0 mt_all cD_oi2_13.1.2.1 19 cD_oi2_13.2.1.2 (foot zT cD_oi2_13.2.2.1.2)) = true := by decide +kernel
theorem r_oi2_13 {X : pX} {J : sR → List Value → List Value → Prop} {ρ : sR} (k1 : kok X ρ kR) (k2 : fok X ρ f_oi2_13) (ki : iok X ρ i_oi2_13) (hQ : ∀ ρ3 : sR, kok X ρ3 kR → fok X ρ3 p_oi2_13.2.2.1 → agrM 65536 cD_oi2_13.2.2.2.2.1.1 cD_oi2_13.2.2.2.2.1.2 ρ3 ρ → RPt X J ρ3 tEr) : RelP X pF pdfl mt_all 19 20 (foot zT fT1) (foot zT fT2) J ρ (sin0 mt_all 183 18 cD_oi2_13.2.1.1 (foot zT fT1)) (sin0 mt_all 409 19 cD_oi2_13.2.1.2 (foot zT fT2)) := START_P kR_x kR_0 (Cs := [(zWP, c_slo13), (zWP, c_fnd13)]) (fun C hC => by
  simp only [List.mem_cons, List.not_mem_nil, or_false] at hC
  rcases hC with rfl | rfl
  · exact s_slo13
  · exact s_fnd13) cD_oi2_13_f (Q := [p_oi2_13]) 400 e_oi2_13 k1 k2 ki (fun p hp => by
  rw [List.mem_singleton.mp hp]
  exact fun ρ3 k3 f3 _ am => hQ ρ3 k3 f3 am)
noncomputable def cD_oj2_13 : sC := ((183, 409, 20), ([tr 0, .int 2, .arg 60320, .arg 60352, .arg 60384], [tr 219, .int 2, .arg 60320, .arg 60352, .arg 60384]), (fT1, fT2), [], ([19232, 60000, 60064, 60065, 60096, 60128, 60160], []), (none, none), [], ([], []))
theorem cD_oj2_13_f : cfine zT 65536 cD_oj2_13 = true := by decide +kernel
noncomputable def f_oj2_13 : sFs := [((0, .arg 1346, .int 0), false), ((2, .arg 60320, .int 0), false), ((2, .int 65535, .arg 60320), false), ((2, .arg 60352, .int 0), false), ((109, .add (.arg 60320) (.arg 60352), .int 13), true), ((2, .arg 60384, .int 0), true)]
noncomputable def i_oj2_13 : sI := []
noncomputable def p_oj2_13 : sCut := (tEr.1, tEr.2, [((0, .arg 19232, .int 0), true)], [])
theorem e_oj2_13 : frun kR [(zWP, c_slo13), (zWP, c_fnd13)] (cpl1 zT cD_oj2_13 [p_oj2_13]) (cpl2 zT cD_oj2_13 [p_oj2_13]) (cleafN kR zT cD_oj2_13 [p_oj2_13]) 400 65536 (isatP f_oj2_13 i_oj2_13) i_oj2_13 (sin0 mt_all cD_oj2_13.1.1 18 cD_oj2_13.2.1.1 (foot zT cD_oj2_13.2.2.1.1)) (sin0 mt_all cD_oj2_13.1.2.1 19 cD_oj2_13.2.1.2 (foot zT cD_oj2_13.2.2.1.2)) = true := by decide +kernel
theorem r_oj2_13 {X : pX} {J : sR → List Value → List Value → Prop} {ρ : sR} (k1 : kok X ρ kR) (k2 : fok X ρ f_oj2_13) (ki : iok X ρ i_oj2_13) (hQ : ∀ ρ3 : sR, kok X ρ3 kR → fok X ρ3 p_oj2_13.2.2.1 → agrM 65536 cD_oj2_13.2.2.2.2.1.1 cD_oj2_13.2.2.2.2.1.2 ρ3 ρ → RPt X J ρ3 tEr) : RelP X pF pdfl mt_all 19 20 (foot zT fT1) (foot zT fT2) J ρ (sin0 mt_all 183 18 cD_oj2_13.2.1.1 (foot zT fT1)) (sin0 mt_all 409 19 cD_oj2_13.2.1.2 (foot zT fT2)) := START_P kR_x kR_0 (Cs := [(zWP, c_slo13), (zWP, c_fnd13)]) (fun C hC => by
  simp only [List.mem_cons, List.not_mem_nil, or_false] at hC
  rcases hC with rfl | rfl
  · exact s_slo13
  · exact s_fnd13) cD_oj2_13_f (Q := [p_oj2_13]) 400 e_oj2_13 k1 k2 ki (fun p hp => by
  rw [List.mem_singleton.mp hp]
  exact fun ρ3 k3 f3 _ am => hQ ρ3 k3 f3 am)
noncomputable def cD_or2_110 : sC := ((183, 409, 20), ([tr 0, .int 2, .arg 60320, .arg 60352, .arg 60384], [tr 219, .int 2, .arg 60320, .arg 60352, .arg 60384]), (fT1, fT2), [], ([19232, 60000, 60064, 60065, 60096, 60128, 60160], []), (none, none), [], ([], []))
theorem cD_or2_110_f : cfine zT 65536 cD_or2_110 = true := by decide +kernel
noncomputable def f_or2_110 : sFs := [((0, .arg 1346, .int 0), false), ((2, .arg 60320, .int 0), false), ((2, .int 65535, .arg 60320), false), ((2, .arg 60352, .int 0), false), ((109, .add (.arg 60320) (.arg 60352), .int 110), true), ((2, .arg 60384, .int 0), false), ((2, .arg 60384, .arg 1426), true), ((2, .arg 60384, .int 24), true)]
noncomputable def i_or2_110 : sI := []
noncomputable def p_or2_110 : sCut := (tEr.1, tEr.2, [((0, .arg 19232, .int 0), true)], [])
theorem e_or2_110 : frun kR [(zWP, c_slo110), (zWP, c_fnd110)] (cpl1 zT cD_or2_110 [p_or2_110]) (cpl2 zT cD_or2_110 [p_or2_110]) (cleafN kR zT cD_or2_110 [p_or2_110]) 400 65536 (isatP f_or2_110 i_or2_110) i_or2_110 (sin0 mt_all cD_or2_110.1.1 18 cD_or2_110.2.1.1 (foot zT cD_or2_110.2.2.1.1)) (sin0 mt_all cD_or2_110.1.2.1 19 cD_or2_110.2.1.2 (foot zT cD_or2_110.2.2.1.2)) = true := by decide +kernel
theorem r_or2_110 {X : pX} {J : sR → List Value → List Value → Prop} {ρ : sR} (k1 : kok X ρ kR) (k2 : fok X ρ f_or2_110) (ki : iok X ρ i_or2_110) (hQ : ∀ ρ3 : sR, kok X ρ3 kR → fok X ρ3 p_or2_110.2.2.1 → agrM 65536 cD_or2_110.2.2.2.2.1.1 cD_or2_110.2.2.2.2.1.2 ρ3 ρ → RPt X J ρ3 tEr) : RelP X pF pdfl mt_all 19 20 (foot zT fT1) (foot zT fT2) J ρ (sin0 mt_all 183 18 cD_or2_110.2.1.1 (foot zT fT1)) (sin0 mt_all 409 19 cD_or2_110.2.1.2 (foot zT fT2)) := START_P kR_x kR_0 (Cs := [(zWP, c_slo110), (zWP, c_fnd110)]) (fun C hC => by
  simp only [List.mem_cons, List.not_mem_nil, or_false] at hC
  rcases hC with rfl | rfl
  · exact s_slo110
  · exact s_fnd110) cD_or2_110_f (Q := [p_or2_110]) 400 e_or2_110 k1 k2 ki (fun p hp => by
  rw [List.mem_singleton.mp hp]
  exact fun ρ3 k3 f3 _ am => hQ ρ3 k3 f3 am)
noncomputable def cD_oi2_110 : sC := ((183, 409, 20), ([tr 0, .int 2, .arg 60320, .arg 60352, .arg 60384], [tr 219, .int 2, .arg 60320, .arg 60352, .arg 60384]), (fT1, fT2), [], ([19232, 60000, 60064, 60065, 60096, 60128, 60160], []), (none, none), [], ([], []))
theorem cD_oi2_110_f : cfine zT 65536 cD_oi2_110 = true := by decide +kernel
noncomputable def f_oi2_110 : sFs := [((0, .arg 1346, .int 0), false), ((2, .arg 60320, .int 0), false), ((2, .int 65535, .arg 60320), false), ((2, .arg 60352, .int 0), false), ((109, .add (.arg 60320) (.arg 60352), .int 110), true), ((2, .arg 60384, .arg 1426), false)]
noncomputable def i_oi2_110 : sI := []
noncomputable def p_oi2_110 : sCut := (tEr.1, tEr.2, [((0, .arg 19232, .int 0), true)], [])
theorem e_oi2_110 : frun kR [(zWP, c_slo110), (zWP, c_fnd110)] (cpl1 zT cD_oi2_110 [p_oi2_110]) (cpl2 zT cD_oi2_110 [p_oi2_110]) (cleafN kR zT cD_oi2_110 [p_oi2_110]) 400 65536 (isatP f_oi2_110 i_oi2_110) i_oi2_110 (sin0 mt_all cD_oi2_110.1.1 18 cD_oi2_110.2.1.1 (foot zT cD_oi2_110.2.2.1.1)) (sin0 mt_all cD_oi2_110.1.2.1 19 cD_oi2_110.2.1.2 (foot zT cD_oi2_110.2.2.1.2)) = true := by decide +kernel
theorem r_oi2_110 {X : pX} {J : sR → List Value → List Value → Prop} {ρ : sR} (k1 : kok X ρ kR) (k2 : fok X ρ f_oi2_110) (ki : iok X ρ i_oi2_110) (hQ : ∀ ρ3 : sR, kok X ρ3 kR → fok X ρ3 p_oi2_110.2.2.1 → agrM 65536 cD_oi2_110.2.2.2.2.1.1 cD_oi2_110.2.2.2.2.1.2 ρ3 ρ → RPt X J ρ3 tEr) : RelP X pF pdfl mt_all 19 20 (foot zT fT1) (foot zT fT2) J ρ (sin0 mt_all 183 18 cD_oi2_110.2.1.1 (foot zT fT1)) (sin0 mt_all 409 19 cD_oi2_110.2.1.2 (foot zT fT2)) := START_P kR_x kR_0 (Cs := [(zWP, c_slo110), (zWP, c_fnd110)]) (fun C hC => by
  simp only [List.mem_cons, List.not_mem_nil, or_false] at hC
  rcases hC with rfl | rfl
  · exact s_slo110
  · exact s_fnd110) cD_oi2_110_f (Q := [p_oi2_110]) 400 e_oi2_110 k1 k2 ki (fun p hp => by
  rw [List.mem_singleton.mp hp]
  exact fun ρ3 k3 f3 _ am => hQ ρ3 k3 f3 am)
noncomputable def cD_oj2_110 : sC := ((183, 409, 20), ([tr 0, .int 2, .arg 60320, .arg 60352, .arg 60384], [tr 219, .int 2, .arg 60320, .arg 60352, .arg 60384]), (fT1, fT2), [], ([19232, 60000, 60064, 60065, 60096, 60128, 60160], []), (none, none), [], ([], []))
theorem cD_oj2_110_f : cfine zT 65536 cD_oj2_110 = true := by decide +kernel
noncomputable def f_oj2_110 : sFs := [((0, .arg 1346, .int 0), false), ((2, .arg 60320, .int 0), false), ((2, .int 65535, .arg 60320), false), ((2, .arg 60352, .int 0), false), ((109, .add (.arg 60320) (.arg 60352), .int 110), true), ((2, .arg 60384, .int 0), true)]
noncomputable def i_oj2_110 : sI := []
noncomputable def p_oj2_110 : sCut := (tEr.1, tEr.2, [((0, .arg 19232, .int 0), true)], [])
theorem e_oj2_110 : frun kR [(zWP, c_slo110), (zWP, c_fnd110)] (cpl1 zT cD_oj2_110 [p_oj2_110]) (cpl2 zT cD_oj2_110 [p_oj2_110]) (cleafN kR zT cD_oj2_110 [p_oj2_110]) 400 65536 (isatP f_oj2_110 i_oj2_110) i_oj2_110 (sin0 mt_all cD_oj2_110.1.1 18 cD_oj2_110.2.1.1 (foot zT cD_oj2_110.2.2.1.1)) (sin0 mt_all cD_oj2_110.1.2.1 19 cD_oj2_110.2.1.2 (foot zT cD_oj2_110.2.2.1.2)) = true := by decide +kernel
theorem r_oj2_110 {X : pX} {J : sR → List Value → List Value → Prop} {ρ : sR} (k1 : kok X ρ kR) (k2 : fok X ρ f_oj2_110) (ki : iok X ρ i_oj2_110) (hQ : ∀ ρ3 : sR, kok X ρ3 kR → fok X ρ3 p_oj2_110.2.2.1 → agrM 65536 cD_oj2_110.2.2.2.2.1.1 cD_oj2_110.2.2.2.2.1.2 ρ3 ρ → RPt X J ρ3 tEr) : RelP X pF pdfl mt_all 19 20 (foot zT fT1) (foot zT fT2) J ρ (sin0 mt_all 183 18 cD_oj2_110.2.1.1 (foot zT fT1)) (sin0 mt_all 409 19 cD_oj2_110.2.1.2 (foot zT fT2)) := START_P kR_x kR_0 (Cs := [(zWP, c_slo110), (zWP, c_fnd110)]) (fun C hC => by
  simp only [List.mem_cons, List.not_mem_nil, or_false] at hC
  rcases hC with rfl | rfl
  · exact s_slo110
  · exact s_fnd110) cD_oj2_110_f (Q := [p_oj2_110]) 400 e_oj2_110 k1 k2 ki (fun p hp => by
  rw [List.mem_singleton.mp hp]
  exact fun ρ3 k3 f3 _ am => hQ ρ3 k3 f3 am)
noncomputable def tEt2 : (sF × List sF × Nat) × (sF × List sF × Nat) := ((fr 0 183 6 [(0, tr 0), (1, .int 2), (4, .arg 60384), (5, .int 111)] [], [fBot], 18), (fr 0 409 6 [(0, tr 219), (1, .int 2), (4, .arg 60384), (5, .int 111)] [], [fBot], 19))
noncomputable def q_teEt2 : sCut := (tEt2.1, tEt2.2, [((0, .arg 19232, .int 0), true), ((2, .arg 60384, .int 0), false), ((2, .arg 60384, .mul (.arg 1366) (.int 4)), true), ((2, .arg 60384, .int 128), true)], [])
theorem k_teEt2 : cbody kR [] [] [] (lendP kR zT cD_en.2.2.1.1 cD_en.2.2.1.2 [.op2 .iand (.op1 .l2i (.op2 .lushr (.op1 .i2l (.elem (.arg 10432) (.rem (.add (.arg 1364) (.div (.arg 60384) (.int 4))) (.int 32)))) (.mul (.rem (.arg 60384) (.int 4)) (.int 8)))) (.int 255)] [.op2 .iand (.op2 .ishr (.elem (.arg 19680) (.div (.arg 60384) (.int 4))) (.mul (.rem (.arg 60384) (.int 4)) (.int 8))) (.int 255)]) 300 true true q_teEt2.2.2.1 q_teEt2.2.2.2 (cst zT cD_en.2.2.1.1 q_teEt2.1) (cst zT cD_en.2.2.1.2 q_teEt2.2.1) = true := by decide +kernel
theorem c_Et2 {X : pX} {J : sR → List Value → List Value → Prop} {ρ : sR} (hk : kok X ρ kR) (hf : fok X ρ [((0, .arg 19232, .int 0), true), ((2, .arg 60384, .int 0), false), ((2, .arg 60384, .mul (.arg 1366) (.int 4)), true), ((2, .arg 60384, .int 128), true)]) (hJ : J ρ (dS X ρ [.op2 .iand (.op1 .l2i (.op2 .lushr (.op1 .i2l (.elem (.arg 10432) (.rem (.add (.arg 1364) (.div (.arg 60384) (.int 4))) (.int 32)))) (.mul (.rem (.arg 60384) (.int 4)) (.int 8)))) (.int 255)]) (dS X ρ [.op2 .iand (.op2 .ishr (.elem (.arg 19680) (.div (.arg 60384) (.int 4))) (.mul (.rem (.arg 60384) (.int 4)) (.int 8))) (.int 255)])) : RPt X J ρ tEt2 := END_P kR_x kR_0 (Cs := []) (fun C hC => by cases hC) cD_en_f 300 (q := q_teEt2) k_teEt2 hk hf (fun c hc => by cases hc) hJ
noncomputable def cD_or2_111 : sC := ((183, 409, 20), ([tr 0, .int 2, .arg 60320, .arg 60352, .arg 60384], [tr 219, .int 2, .arg 60320, .arg 60352, .arg 60384]), (fT1, fT2), [], ([19232, 60000, 60064, 60065, 60096, 60128, 60160], []), (none, none), [], ([], []))
theorem cD_or2_111_f : cfine zT 65536 cD_or2_111 = true := by decide +kernel
noncomputable def f_or2_111 : sFs := [((0, .arg 1346, .int 0), false), ((2, .arg 60320, .int 0), false), ((2, .int 65535, .arg 60320), false), ((2, .arg 60352, .int 0), false), ((109, .add (.arg 60320) (.arg 60352), .int 111), true), ((2, .arg 60384, .int 0), false), ((2, .arg 60384, .mul (.arg 1366) (.int 4)), true), ((2, .arg 60384, .int 128), true)]
noncomputable def i_or2_111 : sI := []
noncomputable def p_or2_111 : sCut := (tEt2.1, tEt2.2, [((0, .arg 19232, .int 0), true), ((2, .arg 60384, .int 0), false), ((2, .arg 60384, .mul (.arg 1366) (.int 4)), true), ((2, .arg 60384, .int 128), true)], [])
theorem e_or2_111 : frun kR [(zWP, c_slo111), (zWP, c_fnd111)] (cpl1 zT cD_or2_111 [p_or2_111]) (cpl2 zT cD_or2_111 [p_or2_111]) (cleafN kR zT cD_or2_111 [p_or2_111]) 400 65536 (isatP f_or2_111 i_or2_111) i_or2_111 (sin0 mt_all cD_or2_111.1.1 18 cD_or2_111.2.1.1 (foot zT cD_or2_111.2.2.1.1)) (sin0 mt_all cD_or2_111.1.2.1 19 cD_or2_111.2.1.2 (foot zT cD_or2_111.2.2.1.2)) = true := by decide +kernel
theorem r_or2_111 {X : pX} {J : sR → List Value → List Value → Prop} {ρ : sR} (k1 : kok X ρ kR) (k2 : fok X ρ f_or2_111) (ki : iok X ρ i_or2_111) (hQ : ∀ ρ3 : sR, kok X ρ3 kR → fok X ρ3 p_or2_111.2.2.1 → agrM 65536 cD_or2_111.2.2.2.2.1.1 cD_or2_111.2.2.2.2.1.2 ρ3 ρ → RPt X J ρ3 tEt2) : RelP X pF pdfl mt_all 19 20 (foot zT fT1) (foot zT fT2) J ρ (sin0 mt_all 183 18 cD_or2_111.2.1.1 (foot zT fT1)) (sin0 mt_all 409 19 cD_or2_111.2.1.2 (foot zT fT2)) := START_P kR_x kR_0 (Cs := [(zWP, c_slo111), (zWP, c_fnd111)]) (fun C hC => by
  simp only [List.mem_cons, List.not_mem_nil, or_false] at hC
  rcases hC with rfl | rfl
  · exact s_slo111
  · exact s_fnd111) cD_or2_111_f (Q := [p_or2_111]) 400 e_or2_111 k1 k2 ki (fun p hp => by
  rw [List.mem_singleton.mp hp]
  exact fun ρ3 k3 f3 _ am => hQ ρ3 k3 f3 am)
noncomputable def cD_oi2_111 : sC := ((183, 409, 20), ([tr 0, .int 2, .arg 60320, .arg 60352, .arg 60384], [tr 219, .int 2, .arg 60320, .arg 60352, .arg 60384]), (fT1, fT2), [], ([19232, 60000, 60064, 60065, 60096, 60128, 60160], []), (none, none), [], ([], []))
theorem cD_oi2_111_f : cfine zT 65536 cD_oi2_111 = true := by decide +kernel
noncomputable def f_oi2_111 : sFs := [((0, .arg 1346, .int 0), false), ((2, .arg 60320, .int 0), false), ((2, .int 65535, .arg 60320), false), ((2, .arg 60352, .int 0), false), ((109, .add (.arg 60320) (.arg 60352), .int 111), true), ((2, .arg 60384, .mul (.arg 1366) (.int 4)), false)]
noncomputable def i_oi2_111 : sI := []
noncomputable def p_oi2_111 : sCut := (tEr.1, tEr.2, [((0, .arg 19232, .int 0), true)], [])
theorem e_oi2_111 : frun kR [(zWP, c_slo111), (zWP, c_fnd111)] (cpl1 zT cD_oi2_111 [p_oi2_111]) (cpl2 zT cD_oi2_111 [p_oi2_111]) (cleafN kR zT cD_oi2_111 [p_oi2_111]) 400 65536 (isatP f_oi2_111 i_oi2_111) i_oi2_111 (sin0 mt_all cD_oi2_111.1.1 18 cD_oi2_111.2.1.1 (foot zT cD_oi2_111.2.2.1.1)) (sin0 mt_all cD_oi2_111.1.2.1 19 cD_oi2_111.2.1.2 (foot zT cD_oi2_111.2.2.1.2)) = true := by decide +kernel
theorem r_oi2_111 {X : pX} {J : sR → List Value → List Value → Prop} {ρ : sR} (k1 : kok X ρ kR) (k2 : fok X ρ f_oi2_111) (ki : iok X ρ i_oi2_111) (hQ : ∀ ρ3 : sR, kok X ρ3 kR → fok X ρ3 p_oi2_111.2.2.1 → agrM 65536 cD_oi2_111.2.2.2.2.1.1 cD_oi2_111.2.2.2.2.1.2 ρ3 ρ → RPt X J ρ3 tEr) : RelP X pF pdfl mt_all 19 20 (foot zT fT1) (foot zT fT2) J ρ (sin0 mt_all 183 18 cD_oi2_111.2.1.1 (foot zT fT1)) (sin0 mt_all 409 19 cD_oi2_111.2.1.2 (foot zT fT2)) := START_P kR_x kR_0 (Cs := [(zWP, c_slo111), (zWP, c_fnd111)]) (fun C hC => by
  simp only [List.mem_cons, List.not_mem_nil, or_false] at hC
  rcases hC with rfl | rfl
  · exact s_slo111
  · exact s_fnd111) cD_oi2_111_f (Q := [p_oi2_111]) 400 e_oi2_111 k1 k2 ki (fun p hp => by
  rw [List.mem_singleton.mp hp]
  exact fun ρ3 k3 f3 _ am => hQ ρ3 k3 f3 am)
noncomputable def cD_oj2_111 : sC := ((183, 409, 20), ([tr 0, .int 2, .arg 60320, .arg 60352, .arg 60384], [tr 219, .int 2, .arg 60320, .arg 60352, .arg 60384]), (fT1, fT2), [], ([19232, 60000, 60064, 60065, 60096, 60128, 60160], []), (none, none), [], ([], []))
theorem cD_oj2_111_f : cfine zT 65536 cD_oj2_111 = true := by decide +kernel
noncomputable def f_oj2_111 : sFs := [((0, .arg 1346, .int 0), false), ((2, .arg 60320, .int 0), false), ((2, .int 65535, .arg 60320), false), ((2, .arg 60352, .int 0), false), ((109, .add (.arg 60320) (.arg 60352), .int 111), true), ((2, .arg 60384, .int 0), true)]
noncomputable def i_oj2_111 : sI := []
noncomputable def p_oj2_111 : sCut := (tEr.1, tEr.2, [((0, .arg 19232, .int 0), true)], [])
theorem e_oj2_111 : frun kR [(zWP, c_slo111), (zWP, c_fnd111)] (cpl1 zT cD_oj2_111 [p_oj2_111]) (cpl2 zT cD_oj2_111 [p_oj2_111]) (cleafN kR zT cD_oj2_111 [p_oj2_111]) 400 65536 (isatP f_oj2_111 i_oj2_111) i_oj2_111 (sin0 mt_all cD_oj2_111.1.1 18 cD_oj2_111.2.1.1 (foot zT cD_oj2_111.2.2.1.1)) (sin0 mt_all cD_oj2_111.1.2.1 19 cD_oj2_111.2.1.2 (foot zT cD_oj2_111.2.2.1.2)) = true := by decide +kernel
theorem r_oj2_111 {X : pX} {J : sR → List Value → List Value → Prop} {ρ : sR} (k1 : kok X ρ kR) (k2 : fok X ρ f_oj2_111) (ki : iok X ρ i_oj2_111) (hQ : ∀ ρ3 : sR, kok X ρ3 kR → fok X ρ3 p_oj2_111.2.2.1 → agrM 65536 cD_oj2_111.2.2.2.2.1.1 cD_oj2_111.2.2.2.2.1.2 ρ3 ρ → RPt X J ρ3 tEr) : RelP X pF pdfl mt_all 19 20 (foot zT fT1) (foot zT fT2) J ρ (sin0 mt_all 183 18 cD_oj2_111.2.1.1 (foot zT fT1)) (sin0 mt_all 409 19 cD_oj2_111.2.1.2 (foot zT fT2)) := START_P kR_x kR_0 (Cs := [(zWP, c_slo111), (zWP, c_fnd111)]) (fun C hC => by
  simp only [List.mem_cons, List.not_mem_nil, or_false] at hC
  rcases hC with rfl | rfl
  · exact s_slo111
  · exact s_fnd111) cD_oj2_111_f (Q := [p_oj2_111]) 400 e_oj2_111 k1 k2 ki (fun p hp => by
  rw [List.mem_singleton.mp hp]
  exact fun ρ3 k3 f3 _ am => hQ ρ3 k3 f3 am)
noncomputable def cD_or2_112 : sC := ((183, 409, 20), ([tr 0, .int 2, .arg 60320, .arg 60352, .arg 60384], [tr 219, .int 2, .arg 60320, .arg 60352, .arg 60384]), (fT1, fT2), [], ([19232, 60000, 60064, 60065, 60096, 60128, 60160], []), (none, none), [], ([], []))
theorem cD_or2_112_f : cfine zT 65536 cD_or2_112 = true := by decide +kernel
noncomputable def f_or2_112 : sFs := [((0, .arg 1346, .int 0), false), ((2, .arg 60320, .int 0), false), ((2, .int 65535, .arg 60320), false), ((2, .arg 60352, .int 0), false), ((109, .add (.arg 60320) (.arg 60352), .int 112), true), ((2, .arg 60384, .int 0), false), ((2, .arg 60384, .arg 1458), true), ((2, .arg 60384, .int 144), true)]
noncomputable def i_or2_112 : sI := []
noncomputable def p_or2_112 : sCut := (tEr.1, tEr.2, [((0, .arg 19232, .int 0), true)], [])
theorem e_or2_112 : frun kR [(zWP, c_slo112), (zWP, c_fnd112)] (cpl1 zT cD_or2_112 [p_or2_112]) (cpl2 zT cD_or2_112 [p_or2_112]) (cleafN kR zT cD_or2_112 [p_or2_112]) 400 65536 (isatP f_or2_112 i_or2_112) i_or2_112 (sin0 mt_all cD_or2_112.1.1 18 cD_or2_112.2.1.1 (foot zT cD_or2_112.2.2.1.1)) (sin0 mt_all cD_or2_112.1.2.1 19 cD_or2_112.2.1.2 (foot zT cD_or2_112.2.2.1.2)) = true := by decide +kernel
theorem r_or2_112 {X : pX} {J : sR → List Value → List Value → Prop} {ρ : sR} (k1 : kok X ρ kR) (k2 : fok X ρ f_or2_112) (ki : iok X ρ i_or2_112) (hQ : ∀ ρ3 : sR, kok X ρ3 kR → fok X ρ3 p_or2_112.2.2.1 → agrM 65536 cD_or2_112.2.2.2.2.1.1 cD_or2_112.2.2.2.2.1.2 ρ3 ρ → RPt X J ρ3 tEr) : RelP X pF pdfl mt_all 19 20 (foot zT fT1) (foot zT fT2) J ρ (sin0 mt_all 183 18 cD_or2_112.2.1.1 (foot zT fT1)) (sin0 mt_all 409 19 cD_or2_112.2.1.2 (foot zT fT2)) := START_P kR_x kR_0 (Cs := [(zWP, c_slo112), (zWP, c_fnd112)]) (fun C hC => by
  simp only [List.mem_cons, List.not_mem_nil, or_false] at hC
  rcases hC with rfl | rfl
  · exact s_slo112
  · exact s_fnd112) cD_or2_112_f (Q := [p_or2_112]) 400 e_or2_112 k1 k2 ki (fun p hp => by
  rw [List.mem_singleton.mp hp]
  exact fun ρ3 k3 f3 _ am => hQ ρ3 k3 f3 am)
noncomputable def cD_oi2_112 : sC := ((183, 409, 20), ([tr 0, .int 2, .arg 60320, .arg 60352, .arg 60384], [tr 219, .int 2, .arg 60320, .arg 60352, .arg 60384]), (fT1, fT2), [], ([19232, 60000, 60064, 60065, 60096, 60128, 60160], []), (none, none), [], ([], []))
theorem cD_oi2_112_f : cfine zT 65536 cD_oi2_112 = true := by decide +kernel
noncomputable def f_oi2_112 : sFs := [((0, .arg 1346, .int 0), false), ((2, .arg 60320, .int 0), false), ((2, .int 65535, .arg 60320), false), ((2, .arg 60352, .int 0), false), ((109, .add (.arg 60320) (.arg 60352), .int 112), true), ((2, .arg 60384, .arg 1458), false)]
noncomputable def i_oi2_112 : sI := []
noncomputable def p_oi2_112 : sCut := (tEr.1, tEr.2, [((0, .arg 19232, .int 0), true)], [])
theorem e_oi2_112 : frun kR [(zWP, c_slo112), (zWP, c_fnd112)] (cpl1 zT cD_oi2_112 [p_oi2_112]) (cpl2 zT cD_oi2_112 [p_oi2_112]) (cleafN kR zT cD_oi2_112 [p_oi2_112]) 400 65536 (isatP f_oi2_112 i_oi2_112) i_oi2_112 (sin0 mt_all cD_oi2_112.1.1 18 cD_oi2_112.2.1.1 (foot zT cD_oi2_112.2.2.1.1)) (sin0 mt_all cD_oi2_112.1.2.1 19 cD_oi2_112.2.1.2 (foot zT cD_oi2_112.2.2.1.2)) = true := by decide +kernel
theorem r_oi2_112 {X : pX} {J : sR → List Value → List Value → Prop} {ρ : sR} (k1 : kok X ρ kR) (k2 : fok X ρ f_oi2_112) (ki : iok X ρ i_oi2_112) (hQ : ∀ ρ3 : sR, kok X ρ3 kR → fok X ρ3 p_oi2_112.2.2.1 → agrM 65536 cD_oi2_112.2.2.2.2.1.1 cD_oi2_112.2.2.2.2.1.2 ρ3 ρ → RPt X J ρ3 tEr) : RelP X pF pdfl mt_all 19 20 (foot zT fT1) (foot zT fT2) J ρ (sin0 mt_all 183 18 cD_oi2_112.2.1.1 (foot zT fT1)) (sin0 mt_all 409 19 cD_oi2_112.2.1.2 (foot zT fT2)) := START_P kR_x kR_0 (Cs := [(zWP, c_slo112), (zWP, c_fnd112)]) (fun C hC => by
  simp only [List.mem_cons, List.not_mem_nil, or_false] at hC
  rcases hC with rfl | rfl
  · exact s_slo112
  · exact s_fnd112) cD_oi2_112_f (Q := [p_oi2_112]) 400 e_oi2_112 k1 k2 ki (fun p hp => by
  rw [List.mem_singleton.mp hp]
  exact fun ρ3 k3 f3 _ am => hQ ρ3 k3 f3 am)
noncomputable def cD_oj2_112 : sC := ((183, 409, 20), ([tr 0, .int 2, .arg 60320, .arg 60352, .arg 60384], [tr 219, .int 2, .arg 60320, .arg 60352, .arg 60384]), (fT1, fT2), [], ([19232, 60000, 60064, 60065, 60096, 60128, 60160], []), (none, none), [], ([], []))
theorem cD_oj2_112_f : cfine zT 65536 cD_oj2_112 = true := by decide +kernel
noncomputable def f_oj2_112 : sFs := [((0, .arg 1346, .int 0), false), ((2, .arg 60320, .int 0), false), ((2, .int 65535, .arg 60320), false), ((2, .arg 60352, .int 0), false), ((109, .add (.arg 60320) (.arg 60352), .int 112), true), ((2, .arg 60384, .int 0), true)]
noncomputable def i_oj2_112 : sI := []
noncomputable def p_oj2_112 : sCut := (tEr.1, tEr.2, [((0, .arg 19232, .int 0), true)], [])
theorem e_oj2_112 : frun kR [(zWP, c_slo112), (zWP, c_fnd112)] (cpl1 zT cD_oj2_112 [p_oj2_112]) (cpl2 zT cD_oj2_112 [p_oj2_112]) (cleafN kR zT cD_oj2_112 [p_oj2_112]) 400 65536 (isatP f_oj2_112 i_oj2_112) i_oj2_112 (sin0 mt_all cD_oj2_112.1.1 18 cD_oj2_112.2.1.1 (foot zT cD_oj2_112.2.2.1.1)) (sin0 mt_all cD_oj2_112.1.2.1 19 cD_oj2_112.2.1.2 (foot zT cD_oj2_112.2.2.1.2)) = true := by decide +kernel
theorem r_oj2_112 {X : pX} {J : sR → List Value → List Value → Prop} {ρ : sR} (k1 : kok X ρ kR) (k2 : fok X ρ f_oj2_112) (ki : iok X ρ i_oj2_112) (hQ : ∀ ρ3 : sR, kok X ρ3 kR → fok X ρ3 p_oj2_112.2.2.1 → agrM 65536 cD_oj2_112.2.2.2.2.1.1 cD_oj2_112.2.2.2.2.1.2 ρ3 ρ → RPt X J ρ3 tEr) : RelP X pF pdfl mt_all 19 20 (foot zT fT1) (foot zT fT2) J ρ (sin0 mt_all 183 18 cD_oj2_112.2.1.1 (foot zT fT1)) (sin0 mt_all 409 19 cD_oj2_112.2.1.2 (foot zT fT2)) := START_P kR_x kR_0 (Cs := [(zWP, c_slo112), (zWP, c_fnd112)]) (fun C hC => by
  simp only [List.mem_cons, List.not_mem_nil, or_false] at hC
  rcases hC with rfl | rfl
  · exact s_slo112
  · exact s_fnd112) cD_oj2_112_f (Q := [p_oj2_112]) 400 e_oj2_112 k1 k2 ki (fun p hp => by
  rw [List.mem_singleton.mp hp]
  exact fun ρ3 k3 f3 _ am => hQ ρ3 k3 f3 am)
noncomputable def cD_or3_13_0 : sC := ((183, 409, 20), ([tr 0, .int 3, .arg 60320, .arg 60352, .arg 60384], [tr 219, .int 3, .arg 60320, .arg 60352, .arg 60384]), (fT1, fT2), [], ([19232, 60000, 60064, 60065, 60096, 60128, 60160], []), (none, none), [], ([], []))
theorem cD_or3_13_0_f : cfine zT 65536 cD_or3_13_0 = true := by decide +kernel
noncomputable def f_or3_13_0 : sFs := [((0, .arg 1378, .int 0), false), ((2, .arg 60320, .int 0), false), ((2, .int 65535, .arg 60320), false), ((2, .arg 60352, .int 0), false), ((109, .add (.arg 60320) (.arg 60352), .int 13), true), ((0, .arg 60384, .int 0), true), ((2, .arg 60384, .int 0), false), ((2, .int 0, .arg 60384), false)]
noncomputable def i_or3_13_0 : sI := []
noncomputable def p_or3_13_0 : sCut := (tEr.1, tEr.2, [((0, .arg 19232, .int 0), true)], [])
theorem e_or3_13_0 : frun kR [(zWP, c_slo13), (zWP, c_fnd13)] (cpl1 zT cD_or3_13_0 [p_or3_13_0]) (cpl2 zT cD_or3_13_0 [p_or3_13_0]) (cleafN kR zT cD_or3_13_0 [p_or3_13_0]) 400 65536 (isatP f_or3_13_0 i_or3_13_0) i_or3_13_0 (sin0 mt_all cD_or3_13_0.1.1 18 cD_or3_13_0.2.1.1 (foot zT cD_or3_13_0.2.2.1.1)) (sin0 mt_all cD_or3_13_0.1.2.1 19 cD_or3_13_0.2.1.2 (foot zT cD_or3_13_0.2.2.1.2)) = true := by decide +kernel
theorem r_or3_13_0 {X : pX} {J : sR → List Value → List Value → Prop} {ρ : sR} (k1 : kok X ρ kR) (k2 : fok X ρ f_or3_13_0) (ki : iok X ρ i_or3_13_0) (hQ : ∀ ρ3 : sR, kok X ρ3 kR → fok X ρ3 p_or3_13_0.2.2.1 → agrM 65536 cD_or3_13_0.2.2.2.2.1.1 cD_or3_13_0.2.2.2.2.1.2 ρ3 ρ → RPt X J ρ3 tEr) : RelP X pF pdfl mt_all 19 20 (foot zT fT1) (foot zT fT2) J ρ (sin0 mt_all 183 18 cD_or3_13_0.2.1.1 (foot zT fT1)) (sin0 mt_all 409 19 cD_or3_13_0.2.1.2 (foot zT fT2)) := START_P kR_x kR_0 (Cs := [(zWP, c_slo13), (zWP, c_fnd13)]) (fun C hC => by
  simp only [List.mem_cons, List.not_mem_nil, or_false] at hC
  rcases hC with rfl | rfl
  · exact s_slo13
  · exact s_fnd13) cD_or3_13_0_f (Q := [p_or3_13_0]) 400 e_or3_13_0 k1 k2 ki (fun p hp => by
  rw [List.mem_singleton.mp hp]
  exact fun ρ3 k3 f3 _ am => hQ ρ3 k3 f3 am)
noncomputable def cD_or3_13_1 : sC := ((183, 409, 20), ([tr 0, .int 3, .arg 60320, .arg 60352, .arg 60384], [tr 219, .int 3, .arg 60320, .arg 60352, .arg 60384]), (fT1, fT2), [], ([19232, 60000, 60064, 60065, 60096, 60128, 60160], []), (none, none), [], ([], []))
theorem cD_or3_13_1_f : cfine zT 65536 cD_or3_13_1 = true := by decide +kernel
noncomputable def f_or3_13_1 : sFs := [((0, .arg 1378, .int 0), false), ((2, .arg 60320, .int 0), false), ((2, .int 65535, .arg 60320), false), ((2, .arg 60352, .int 0), false), ((109, .add (.arg 60320) (.arg 60352), .int 13), true), ((0, .arg 60384, .int 1), true), ((2, .arg 60384, .int 1), false), ((2, .int 1, .arg 60384), false)]
noncomputable def i_or3_13_1 : sI := []
noncomputable def p_or3_13_1 : sCut := (tEr.1, tEr.2, [((0, .arg 19232, .int 0), true)], [])
theorem e_or3_13_1 : frun kR [(zWP, c_slo13), (zWP, c_fnd13)] (cpl1 zT cD_or3_13_1 [p_or3_13_1]) (cpl2 zT cD_or3_13_1 [p_or3_13_1]) (cleafN kR zT cD_or3_13_1 [p_or3_13_1]) 400 65536 (isatP f_or3_13_1 i_or3_13_1) i_or3_13_1 (sin0 mt_all cD_or3_13_1.1.1 18 cD_or3_13_1.2.1.1 (foot zT cD_or3_13_1.2.2.1.1)) (sin0 mt_all cD_or3_13_1.1.2.1 19 cD_or3_13_1.2.1.2 (foot zT cD_or3_13_1.2.2.1.2)) = true := by decide +kernel
theorem r_or3_13_1 {X : pX} {J : sR → List Value → List Value → Prop} {ρ : sR} (k1 : kok X ρ kR) (k2 : fok X ρ f_or3_13_1) (ki : iok X ρ i_or3_13_1) (hQ : ∀ ρ3 : sR, kok X ρ3 kR → fok X ρ3 p_or3_13_1.2.2.1 → agrM 65536 cD_or3_13_1.2.2.2.2.1.1 cD_or3_13_1.2.2.2.2.1.2 ρ3 ρ → RPt X J ρ3 tEr) : RelP X pF pdfl mt_all 19 20 (foot zT fT1) (foot zT fT2) J ρ (sin0 mt_all 183 18 cD_or3_13_1.2.1.1 (foot zT fT1)) (sin0 mt_all 409 19 cD_or3_13_1.2.1.2 (foot zT fT2)) := START_P kR_x kR_0 (Cs := [(zWP, c_slo13), (zWP, c_fnd13)]) (fun C hC => by
  simp only [List.mem_cons, List.not_mem_nil, or_false] at hC
  rcases hC with rfl | rfl
  · exact s_slo13
  · exact s_fnd13) cD_or3_13_1_f (Q := [p_or3_13_1]) 400 e_or3_13_1 k1 k2 ki (fun p hp => by
  rw [List.mem_singleton.mp hp]
  exact fun ρ3 k3 f3 _ am => hQ ρ3 k3 f3 am)
noncomputable def cD_or3_13_2 : sC := ((183, 409, 20), ([tr 0, .int 3, .arg 60320, .arg 60352, .arg 60384], [tr 219, .int 3, .arg 60320, .arg 60352, .arg 60384]), (fT1, fT2), [], ([19232, 60000, 60064, 60065, 60096, 60128, 60160], []), (none, none), [], ([], []))
theorem cD_or3_13_2_f : cfine zT 65536 cD_or3_13_2 = true := by decide +kernel
noncomputable def f_or3_13_2 : sFs := [((0, .arg 1378, .int 0), false), ((2, .arg 60320, .int 0), false), ((2, .int 65535, .arg 60320), false), ((2, .arg 60352, .int 0), false), ((109, .add (.arg 60320) (.arg 60352), .int 13), true), ((0, .arg 60384, .int 2), true), ((2, .arg 60384, .int 2), false), ((2, .int 2, .arg 60384), false)]
noncomputable def i_or3_13_2 : sI := []
noncomputable def p_or3_13_2 : sCut := (tEr.1, tEr.2, [((0, .arg 19232, .int 0), true)], [])
theorem e_or3_13_2 : frun kR [(zWP, c_slo13), (zWP, c_fnd13)] (cpl1 zT cD_or3_13_2 [p_or3_13_2]) (cpl2 zT cD_or3_13_2 [p_or3_13_2]) (cleafN kR zT cD_or3_13_2 [p_or3_13_2]) 400 65536 (isatP f_or3_13_2 i_or3_13_2) i_or3_13_2 (sin0 mt_all cD_or3_13_2.1.1 18 cD_or3_13_2.2.1.1 (foot zT cD_or3_13_2.2.2.1.1)) (sin0 mt_all cD_or3_13_2.1.2.1 19 cD_or3_13_2.2.1.2 (foot zT cD_or3_13_2.2.2.1.2)) = true := by decide +kernel
theorem r_or3_13_2 {X : pX} {J : sR → List Value → List Value → Prop} {ρ : sR} (k1 : kok X ρ kR) (k2 : fok X ρ f_or3_13_2) (ki : iok X ρ i_or3_13_2) (hQ : ∀ ρ3 : sR, kok X ρ3 kR → fok X ρ3 p_or3_13_2.2.2.1 → agrM 65536 cD_or3_13_2.2.2.2.2.1.1 cD_or3_13_2.2.2.2.2.1.2 ρ3 ρ → RPt X J ρ3 tEr) : RelP X pF pdfl mt_all 19 20 (foot zT fT1) (foot zT fT2) J ρ (sin0 mt_all 183 18 cD_or3_13_2.2.1.1 (foot zT fT1)) (sin0 mt_all 409 19 cD_or3_13_2.2.1.2 (foot zT fT2)) := START_P kR_x kR_0 (Cs := [(zWP, c_slo13), (zWP, c_fnd13)]) (fun C hC => by
  simp only [List.mem_cons, List.not_mem_nil, or_false] at hC
  rcases hC with rfl | rfl
  · exact s_slo13
  · exact s_fnd13) cD_or3_13_2_f (Q := [p_or3_13_2]) 400 e_or3_13_2 k1 k2 ki (fun p hp => by
  rw [List.mem_singleton.mp hp]
  exact fun ρ3 k3 f3 _ am => hQ ρ3 k3 f3 am)
noncomputable def cD_or3_13_3 : sC := ((183, 409, 20), ([tr 0, .int 3, .arg 60320, .arg 60352, .arg 60384], [tr 219, .int 3, .arg 60320, .arg 60352, .arg 60384]), (fT1, fT2), [], ([19232, 60000, 60064, 60065, 60096, 60128, 60160], []), (none, none), [], ([], []))
theorem cD_or3_13_3_f : cfine zT 65536 cD_or3_13_3 = true := by decide +kernel
noncomputable def f_or3_13_3 : sFs := [((0, .arg 1378, .int 0), false), ((2, .arg 60320, .int 0), false), ((2, .int 65535, .arg 60320), false), ((2, .arg 60352, .int 0), false), ((109, .add (.arg 60320) (.arg 60352), .int 13), true), ((0, .arg 60384, .int 3), true), ((2, .arg 60384, .int 3), false), ((2, .int 3, .arg 60384), false)]
noncomputable def i_or3_13_3 : sI := []
noncomputable def p_or3_13_3 : sCut := (tEr.1, tEr.2, [((0, .arg 19232, .int 0), true)], [])
theorem e_or3_13_3 : frun kR [(zWP, c_slo13), (zWP, c_fnd13)] (cpl1 zT cD_or3_13_3 [p_or3_13_3]) (cpl2 zT cD_or3_13_3 [p_or3_13_3]) (cleafN kR zT cD_or3_13_3 [p_or3_13_3]) 400 65536 (isatP f_or3_13_3 i_or3_13_3) i_or3_13_3 (sin0 mt_all cD_or3_13_3.1.1 18 cD_or3_13_3.2.1.1 (foot zT cD_or3_13_3.2.2.1.1)) (sin0 mt_all cD_or3_13_3.1.2.1 19 cD_or3_13_3.2.1.2 (foot zT cD_or3_13_3.2.2.1.2)) = true := by decide +kernel
theorem r_or3_13_3 {X : pX} {J : sR → List Value → List Value → Prop} {ρ : sR} (k1 : kok X ρ kR) (k2 : fok X ρ f_or3_13_3) (ki : iok X ρ i_or3_13_3) (hQ : ∀ ρ3 : sR, kok X ρ3 kR → fok X ρ3 p_or3_13_3.2.2.1 → agrM 65536 cD_or3_13_3.2.2.2.2.1.1 cD_or3_13_3.2.2.2.2.1.2 ρ3 ρ → RPt X J ρ3 tEr) : RelP X pF pdfl mt_all 19 20 (foot zT fT1) (foot zT fT2) J ρ (sin0 mt_all 183 18 cD_or3_13_3.2.1.1 (foot zT fT1)) (sin0 mt_all 409 19 cD_or3_13_3.2.1.2 (foot zT fT2)) := START_P kR_x kR_0 (Cs := [(zWP, c_slo13), (zWP, c_fnd13)]) (fun C hC => by
  simp only [List.mem_cons, List.not_mem_nil, or_false] at hC
  rcases hC with rfl | rfl
  · exact s_slo13
  · exact s_fnd13) cD_or3_13_3_f (Q := [p_or3_13_3]) 400 e_or3_13_3 k1 k2 ki (fun p hp => by
  rw [List.mem_singleton.mp hp]
  exact fun ρ3 k3 f3 _ am => hQ ρ3 k3 f3 am)
noncomputable def cD_or3_13_4 : sC := ((183, 409, 20), ([tr 0, .int 3, .arg 60320, .arg 60352, .arg 60384], [tr 219, .int 3, .arg 60320, .arg 60352, .arg 60384]), (fT1, fT2), [], ([19232, 60000, 60064, 60065, 60096, 60128, 60160], []), (none, none), [], ([], []))
theorem cD_or3_13_4_f : cfine zT 65536 cD_or3_13_4 = true := by decide +kernel
noncomputable def f_or3_13_4 : sFs := [((0, .arg 1378, .int 0), false), ((2, .arg 60320, .int 0), false), ((2, .int 65535, .arg 60320), false), ((2, .arg 60352, .int 0), false), ((109, .add (.arg 60320) (.arg 60352), .int 13), true), ((0, .arg 60384, .int 4), true), ((2, .arg 60384, .int 4), false), ((2, .int 4, .arg 60384), false)]
noncomputable def i_or3_13_4 : sI := []
noncomputable def p_or3_13_4 : sCut := (tEr.1, tEr.2, [((0, .arg 19232, .int 0), true)], [])
theorem e_or3_13_4 : frun kR [(zWP, c_slo13), (zWP, c_fnd13)] (cpl1 zT cD_or3_13_4 [p_or3_13_4]) (cpl2 zT cD_or3_13_4 [p_or3_13_4]) (cleafN kR zT cD_or3_13_4 [p_or3_13_4]) 400 65536 (isatP f_or3_13_4 i_or3_13_4) i_or3_13_4 (sin0 mt_all cD_or3_13_4.1.1 18 cD_or3_13_4.2.1.1 (foot zT cD_or3_13_4.2.2.1.1)) (sin0 mt_all cD_or3_13_4.1.2.1 19 cD_or3_13_4.2.1.2 (foot zT cD_or3_13_4.2.2.1.2)) = true := by decide +kernel
theorem r_or3_13_4 {X : pX} {J : sR → List Value → List Value → Prop} {ρ : sR} (k1 : kok X ρ kR) (k2 : fok X ρ f_or3_13_4) (ki : iok X ρ i_or3_13_4) (hQ : ∀ ρ3 : sR, kok X ρ3 kR → fok X ρ3 p_or3_13_4.2.2.1 → agrM 65536 cD_or3_13_4.2.2.2.2.1.1 cD_or3_13_4.2.2.2.2.1.2 ρ3 ρ → RPt X J ρ3 tEr) : RelP X pF pdfl mt_all 19 20 (foot zT fT1) (foot zT fT2) J ρ (sin0 mt_all 183 18 cD_or3_13_4.2.1.1 (foot zT fT1)) (sin0 mt_all 409 19 cD_or3_13_4.2.1.2 (foot zT fT2)) := START_P kR_x kR_0 (Cs := [(zWP, c_slo13), (zWP, c_fnd13)]) (fun C hC => by
  simp only [List.mem_cons, List.not_mem_nil, or_false] at hC
  rcases hC with rfl | rfl
  · exact s_slo13
  · exact s_fnd13) cD_or3_13_4_f (Q := [p_or3_13_4]) 400 e_or3_13_4 k1 k2 ki (fun p hp => by
  rw [List.mem_singleton.mp hp]
  exact fun ρ3 k3 f3 _ am => hQ ρ3 k3 f3 am)
noncomputable def cD_or3_13_5 : sC := ((183, 409, 20), ([tr 0, .int 3, .arg 60320, .arg 60352, .arg 60384], [tr 219, .int 3, .arg 60320, .arg 60352, .arg 60384]), (fT1, fT2), [], ([19232, 60000, 60064, 60065, 60096, 60128, 60160], []), (none, none), [], ([], []))
theorem cD_or3_13_5_f : cfine zT 65536 cD_or3_13_5 = true := by decide +kernel
noncomputable def f_or3_13_5 : sFs := [((0, .arg 1378, .int 0), false), ((2, .arg 60320, .int 0), false), ((2, .int 65535, .arg 60320), false), ((2, .arg 60352, .int 0), false), ((109, .add (.arg 60320) (.arg 60352), .int 13), true), ((0, .arg 60384, .int 5), true), ((2, .arg 60384, .int 5), false), ((2, .int 5, .arg 60384), false)]
noncomputable def i_or3_13_5 : sI := []
noncomputable def p_or3_13_5 : sCut := (tEr.1, tEr.2, [((0, .arg 19232, .int 0), true)], [])
theorem e_or3_13_5 : frun kR [(zWP, c_slo13), (zWP, c_fnd13)] (cpl1 zT cD_or3_13_5 [p_or3_13_5]) (cpl2 zT cD_or3_13_5 [p_or3_13_5]) (cleafN kR zT cD_or3_13_5 [p_or3_13_5]) 400 65536 (isatP f_or3_13_5 i_or3_13_5) i_or3_13_5 (sin0 mt_all cD_or3_13_5.1.1 18 cD_or3_13_5.2.1.1 (foot zT cD_or3_13_5.2.2.1.1)) (sin0 mt_all cD_or3_13_5.1.2.1 19 cD_or3_13_5.2.1.2 (foot zT cD_or3_13_5.2.2.1.2)) = true := by decide +kernel
theorem r_or3_13_5 {X : pX} {J : sR → List Value → List Value → Prop} {ρ : sR} (k1 : kok X ρ kR) (k2 : fok X ρ f_or3_13_5) (ki : iok X ρ i_or3_13_5) (hQ : ∀ ρ3 : sR, kok X ρ3 kR → fok X ρ3 p_or3_13_5.2.2.1 → agrM 65536 cD_or3_13_5.2.2.2.2.1.1 cD_or3_13_5.2.2.2.2.1.2 ρ3 ρ → RPt X J ρ3 tEr) : RelP X pF pdfl mt_all 19 20 (foot zT fT1) (foot zT fT2) J ρ (sin0 mt_all 183 18 cD_or3_13_5.2.1.1 (foot zT fT1)) (sin0 mt_all 409 19 cD_or3_13_5.2.1.2 (foot zT fT2)) := START_P kR_x kR_0 (Cs := [(zWP, c_slo13), (zWP, c_fnd13)]) (fun C hC => by
  simp only [List.mem_cons, List.not_mem_nil, or_false] at hC
  rcases hC with rfl | rfl
  · exact s_slo13
  · exact s_fnd13) cD_or3_13_5_f (Q := [p_or3_13_5]) 400 e_or3_13_5 k1 k2 ki (fun p hp => by
  rw [List.mem_singleton.mp hp]
  exact fun ρ3 k3 f3 _ am => hQ ρ3 k3 f3 am)
noncomputable def cD_or3_13_6 : sC := ((183, 409, 20), ([tr 0, .int 3, .arg 60320, .arg 60352, .arg 60384], [tr 219, .int 3, .arg 60320, .arg 60352, .arg 60384]), (fT1, fT2), [], ([19232, 60000, 60064, 60065, 60096, 60128, 60160], []), (none, none), [], ([], []))
theorem cD_or3_13_6_f : cfine zT 65536 cD_or3_13_6 = true := by decide +kernel
noncomputable def f_or3_13_6 : sFs := [((0, .arg 1378, .int 0), false), ((2, .arg 60320, .int 0), false), ((2, .int 65535, .arg 60320), false), ((2, .arg 60352, .int 0), false), ((109, .add (.arg 60320) (.arg 60352), .int 13), true), ((0, .arg 60384, .int 6), true), ((2, .arg 60384, .int 6), false), ((2, .int 6, .arg 60384), false)]
noncomputable def i_or3_13_6 : sI := []
noncomputable def p_or3_13_6 : sCut := (tEr.1, tEr.2, [((0, .arg 19232, .int 0), true)], [])
theorem e_or3_13_6 : frun kR [(zWP, c_slo13), (zWP, c_fnd13)] (cpl1 zT cD_or3_13_6 [p_or3_13_6]) (cpl2 zT cD_or3_13_6 [p_or3_13_6]) (cleafN kR zT cD_or3_13_6 [p_or3_13_6]) 400 65536 (isatP f_or3_13_6 i_or3_13_6) i_or3_13_6 (sin0 mt_all cD_or3_13_6.1.1 18 cD_or3_13_6.2.1.1 (foot zT cD_or3_13_6.2.2.1.1)) (sin0 mt_all cD_or3_13_6.1.2.1 19 cD_or3_13_6.2.1.2 (foot zT cD_or3_13_6.2.2.1.2)) = true := by decide +kernel
theorem r_or3_13_6 {X : pX} {J : sR → List Value → List Value → Prop} {ρ : sR} (k1 : kok X ρ kR) (k2 : fok X ρ f_or3_13_6) (ki : iok X ρ i_or3_13_6) (hQ : ∀ ρ3 : sR, kok X ρ3 kR → fok X ρ3 p_or3_13_6.2.2.1 → agrM 65536 cD_or3_13_6.2.2.2.2.1.1 cD_or3_13_6.2.2.2.2.1.2 ρ3 ρ → RPt X J ρ3 tEr) : RelP X pF pdfl mt_all 19 20 (foot zT fT1) (foot zT fT2) J ρ (sin0 mt_all 183 18 cD_or3_13_6.2.1.1 (foot zT fT1)) (sin0 mt_all 409 19 cD_or3_13_6.2.1.2 (foot zT fT2)) := START_P kR_x kR_0 (Cs := [(zWP, c_slo13), (zWP, c_fnd13)]) (fun C hC => by
  simp only [List.mem_cons, List.not_mem_nil, or_false] at hC
  rcases hC with rfl | rfl
  · exact s_slo13
  · exact s_fnd13) cD_or3_13_6_f (Q := [p_or3_13_6]) 400 e_or3_13_6 k1 k2 ki (fun p hp => by
  rw [List.mem_singleton.mp hp]
  exact fun ρ3 k3 f3 _ am => hQ ρ3 k3 f3 am)
noncomputable def cD_or3_13_7 : sC := ((183, 409, 20), ([tr 0, .int 3, .arg 60320, .arg 60352, .arg 60384], [tr 219, .int 3, .arg 60320, .arg 60352, .arg 60384]), (fT1, fT2), [], ([19232, 60000, 60064, 60065, 60096, 60128, 60160], []), (none, none), [], ([], []))
theorem cD_or3_13_7_f : cfine zT 65536 cD_or3_13_7 = true := by decide +kernel
noncomputable def f_or3_13_7 : sFs := [((0, .arg 1378, .int 0), false), ((2, .arg 60320, .int 0), false), ((2, .int 65535, .arg 60320), false), ((2, .arg 60352, .int 0), false), ((109, .add (.arg 60320) (.arg 60352), .int 13), true), ((0, .arg 60384, .int 7), true), ((2, .arg 60384, .int 7), false), ((2, .int 7, .arg 60384), false)]
noncomputable def i_or3_13_7 : sI := []
noncomputable def p_or3_13_7 : sCut := (tEr.1, tEr.2, [((0, .arg 19232, .int 0), true)], [])
theorem e_or3_13_7 : frun kR [(zWP, c_slo13), (zWP, c_fnd13)] (cpl1 zT cD_or3_13_7 [p_or3_13_7]) (cpl2 zT cD_or3_13_7 [p_or3_13_7]) (cleafN kR zT cD_or3_13_7 [p_or3_13_7]) 400 65536 (isatP f_or3_13_7 i_or3_13_7) i_or3_13_7 (sin0 mt_all cD_or3_13_7.1.1 18 cD_or3_13_7.2.1.1 (foot zT cD_or3_13_7.2.2.1.1)) (sin0 mt_all cD_or3_13_7.1.2.1 19 cD_or3_13_7.2.1.2 (foot zT cD_or3_13_7.2.2.1.2)) = true := by decide +kernel
theorem r_or3_13_7 {X : pX} {J : sR → List Value → List Value → Prop} {ρ : sR} (k1 : kok X ρ kR) (k2 : fok X ρ f_or3_13_7) (ki : iok X ρ i_or3_13_7) (hQ : ∀ ρ3 : sR, kok X ρ3 kR → fok X ρ3 p_or3_13_7.2.2.1 → agrM 65536 cD_or3_13_7.2.2.2.2.1.1 cD_or3_13_7.2.2.2.2.1.2 ρ3 ρ → RPt X J ρ3 tEr) : RelP X pF pdfl mt_all 19 20 (foot zT fT1) (foot zT fT2) J ρ (sin0 mt_all 183 18 cD_or3_13_7.2.1.1 (foot zT fT1)) (sin0 mt_all 409 19 cD_or3_13_7.2.1.2 (foot zT fT2)) := START_P kR_x kR_0 (Cs := [(zWP, c_slo13), (zWP, c_fnd13)]) (fun C hC => by
  simp only [List.mem_cons, List.not_mem_nil, or_false] at hC
  rcases hC with rfl | rfl
  · exact s_slo13
  · exact s_fnd13) cD_or3_13_7_f (Q := [p_or3_13_7]) 400 e_or3_13_7 k1 k2 ki (fun p hp => by
  rw [List.mem_singleton.mp hp]
  exact fun ρ3 k3 f3 _ am => hQ ρ3 k3 f3 am)
noncomputable def cD_or3_13_8 : sC := ((183, 409, 20), ([tr 0, .int 3, .arg 60320, .arg 60352, .arg 60384], [tr 219, .int 3, .arg 60320, .arg 60352, .arg 60384]), (fT1, fT2), [], ([19232, 60000, 60064, 60065, 60096, 60128, 60160], []), (none, none), [], ([], []))
theorem cD_or3_13_8_f : cfine zT 65536 cD_or3_13_8 = true := by decide +kernel
noncomputable def f_or3_13_8 : sFs := [((0, .arg 1378, .int 0), false), ((2, .arg 60320, .int 0), false), ((2, .int 65535, .arg 60320), false), ((2, .arg 60352, .int 0), false), ((109, .add (.arg 60320) (.arg 60352), .int 13), true), ((0, .arg 60384, .int 8), true), ((2, .arg 60384, .int 8), false), ((2, .int 8, .arg 60384), false)]
noncomputable def i_or3_13_8 : sI := []
noncomputable def p_or3_13_8 : sCut := (tEr.1, tEr.2, [((0, .arg 19232, .int 0), true)], [])
theorem e_or3_13_8 : frun kR [(zWP, c_slo13), (zWP, c_fnd13)] (cpl1 zT cD_or3_13_8 [p_or3_13_8]) (cpl2 zT cD_or3_13_8 [p_or3_13_8]) (cleafN kR zT cD_or3_13_8 [p_or3_13_8]) 400 65536 (isatP f_or3_13_8 i_or3_13_8) i_or3_13_8 (sin0 mt_all cD_or3_13_8.1.1 18 cD_or3_13_8.2.1.1 (foot zT cD_or3_13_8.2.2.1.1)) (sin0 mt_all cD_or3_13_8.1.2.1 19 cD_or3_13_8.2.1.2 (foot zT cD_or3_13_8.2.2.1.2)) = true := by decide +kernel
theorem r_or3_13_8 {X : pX} {J : sR → List Value → List Value → Prop} {ρ : sR} (k1 : kok X ρ kR) (k2 : fok X ρ f_or3_13_8) (ki : iok X ρ i_or3_13_8) (hQ : ∀ ρ3 : sR, kok X ρ3 kR → fok X ρ3 p_or3_13_8.2.2.1 → agrM 65536 cD_or3_13_8.2.2.2.2.1.1 cD_or3_13_8.2.2.2.2.1.2 ρ3 ρ → RPt X J ρ3 tEr) : RelP X pF pdfl mt_all 19 20 (foot zT fT1) (foot zT fT2) J ρ (sin0 mt_all 183 18 cD_or3_13_8.2.1.1 (foot zT fT1)) (sin0 mt_all 409 19 cD_or3_13_8.2.1.2 (foot zT fT2)) := START_P kR_x kR_0 (Cs := [(zWP, c_slo13), (zWP, c_fnd13)]) (fun C hC => by
  simp only [List.mem_cons, List.not_mem_nil, or_false] at hC
  rcases hC with rfl | rfl
  · exact s_slo13
  · exact s_fnd13) cD_or3_13_8_f (Q := [p_or3_13_8]) 400 e_or3_13_8 k1 k2 ki (fun p hp => by
  rw [List.mem_singleton.mp hp]
  exact fun ρ3 k3 f3 _ am => hQ ρ3 k3 f3 am)
noncomputable def cD_or3_13_9 : sC := ((183, 409, 20), ([tr 0, .int 3, .arg 60320, .arg 60352, .arg 60384], [tr 219, .int 3, .arg 60320, .arg 60352, .arg 60384]), (fT1, fT2), [], ([19232, 60000, 60064, 60065, 60096, 60128, 60160], []), (none, none), [], ([], []))
theorem cD_or3_13_9_f : cfine zT 65536 cD_or3_13_9 = true := by decide +kernel
noncomputable def f_or3_13_9 : sFs := [((0, .arg 1378, .int 0), false), ((2, .arg 60320, .int 0), false), ((2, .int 65535, .arg 60320), false), ((2, .arg 60352, .int 0), false), ((109, .add (.arg 60320) (.arg 60352), .int 13), true), ((0, .arg 60384, .int 9), true), ((2, .arg 60384, .int 9), false), ((2, .int 9, .arg 60384), false)]
noncomputable def i_or3_13_9 : sI := []
noncomputable def p_or3_13_9 : sCut := (tEr.1, tEr.2, [((0, .arg 19232, .int 0), true)], [])
theorem e_or3_13_9 : frun kR [(zWP, c_slo13), (zWP, c_fnd13)] (cpl1 zT cD_or3_13_9 [p_or3_13_9]) (cpl2 zT cD_or3_13_9 [p_or3_13_9]) (cleafN kR zT cD_or3_13_9 [p_or3_13_9]) 400 65536 (isatP f_or3_13_9 i_or3_13_9) i_or3_13_9 (sin0 mt_all cD_or3_13_9.1.1 18 cD_or3_13_9.2.1.1 (foot zT cD_or3_13_9.2.2.1.1)) (sin0 mt_all cD_or3_13_9.1.2.1 19 cD_or3_13_9.2.1.2 (foot zT cD_or3_13_9.2.2.1.2)) = true := by decide +kernel
theorem r_or3_13_9 {X : pX} {J : sR → List Value → List Value → Prop} {ρ : sR} (k1 : kok X ρ kR) (k2 : fok X ρ f_or3_13_9) (ki : iok X ρ i_or3_13_9) (hQ : ∀ ρ3 : sR, kok X ρ3 kR → fok X ρ3 p_or3_13_9.2.2.1 → agrM 65536 cD_or3_13_9.2.2.2.2.1.1 cD_or3_13_9.2.2.2.2.1.2 ρ3 ρ → RPt X J ρ3 tEr) : RelP X pF pdfl mt_all 19 20 (foot zT fT1) (foot zT fT2) J ρ (sin0 mt_all 183 18 cD_or3_13_9.2.1.1 (foot zT fT1)) (sin0 mt_all 409 19 cD_or3_13_9.2.1.2 (foot zT fT2)) := START_P kR_x kR_0 (Cs := [(zWP, c_slo13), (zWP, c_fnd13)]) (fun C hC => by
  simp only [List.mem_cons, List.not_mem_nil, or_false] at hC
  rcases hC with rfl | rfl
  · exact s_slo13
  · exact s_fnd13) cD_or3_13_9_f (Q := [p_or3_13_9]) 400 e_or3_13_9 k1 k2 ki (fun p hp => by
  rw [List.mem_singleton.mp hp]
  exact fun ρ3 k3 f3 _ am => hQ ρ3 k3 f3 am)
noncomputable def cD_oi3_13 : sC := ((183, 409, 20), ([tr 0, .int 3, .arg 60320, .arg 60352, .arg 60384], [tr 219, .int 3, .arg 60320, .arg 60352, .arg 60384]), (fT1, fT2), [], ([19232, 60000, 60064, 60065, 60096, 60128, 60160], []), (none, none), [], ([], []))
theorem cD_oi3_13_f : cfine zT 65536 cD_oi3_13 = true := by decide +kernel
noncomputable def f_oi3_13 : sFs := [((0, .arg 1378, .int 0), false), ((2, .arg 60320, .int 0), false), ((2, .int 65535, .arg 60320), false), ((2, .arg 60352, .int 0), false), ((109, .add (.arg 60320) (.arg 60352), .int 13), true), ((2, .arg 60384, .int 10), false)]
noncomputable def i_oi3_13 : sI := []
noncomputable def p_oi3_13 : sCut := (tEr.1, tEr.2, [((0, .arg 19232, .int 0), true)], [])
theorem e_oi3_13 : frun kR [(zWP, c_slo13), (zWP, c_fnd13)] (cpl1 zT cD_oi3_13 [p_oi3_13]) (cpl2 zT cD_oi3_13 [p_oi3_13]) (cleafN kR zT cD_oi3_13 [p_oi3_13]) 400 65536 (isatP f_oi3_13 i_oi3_13) i_oi3_13 (sin0 mt_all cD_oi3_13.1.1 18 cD_oi3_13.2.1.1 (foot zT cD_oi3_13.2.2.1.1)) (sin0 mt_all cD_oi3_13.1.2.1 19 cD_oi3_13.2.1.2 (foot zT cD_oi3_13.2.2.1.2)) = true := by decide +kernel
theorem r_oi3_13 {X : pX} {J : sR → List Value → List Value → Prop} {ρ : sR} (k1 : kok X ρ kR) (k2 : fok X ρ f_oi3_13) (ki : iok X ρ i_oi3_13) (hQ : ∀ ρ3 : sR, kok X ρ3 kR → fok X ρ3 p_oi3_13.2.2.1 → agrM 65536 cD_oi3_13.2.2.2.2.1.1 cD_oi3_13.2.2.2.2.1.2 ρ3 ρ → RPt X J ρ3 tEr) : RelP X pF pdfl mt_all 19 20 (foot zT fT1) (foot zT fT2) J ρ (sin0 mt_all 183 18 cD_oi3_13.2.1.1 (foot zT fT1)) (sin0 mt_all 409 19 cD_oi3_13.2.1.2 (foot zT fT2)) := START_P kR_x kR_0 (Cs := [(zWP, c_slo13), (zWP, c_fnd13)]) (fun C hC => by
  simp only [List.mem_cons, List.not_mem_nil, or_false] at hC
  rcases hC with rfl | rfl
  · exact s_slo13
  · exact s_fnd13) cD_oi3_13_f (Q := [p_oi3_13]) 400 e_oi3_13 k1 k2 ki (fun p hp => by
  rw [List.mem_singleton.mp hp]
  exact fun ρ3 k3 f3 _ am => hQ ρ3 k3 f3 am)
noncomputable def cD_oj3_13 : sC := ((183, 409, 20), ([tr 0, .int 3, .arg 60320, .arg 60352, .arg 60384], [tr 219, .int 3, .arg 60320, .arg 60352, .arg 60384]), (fT1, fT2), [], ([19232, 60000, 60064, 60065, 60096, 60128, 60160], []), (none, none), [], ([], []))
theorem cD_oj3_13_f : cfine zT 65536 cD_oj3_13 = true := by decide +kernel
noncomputable def f_oj3_13 : sFs := [((0, .arg 1378, .int 0), false), ((2, .arg 60320, .int 0), false), ((2, .int 65535, .arg 60320), false), ((2, .arg 60352, .int 0), false), ((109, .add (.arg 60320) (.arg 60352), .int 13), true), ((2, .arg 60384, .int 0), true)]
noncomputable def i_oj3_13 : sI := []
noncomputable def p_oj3_13 : sCut := (tEr.1, tEr.2, [((0, .arg 19232, .int 0), true)], [])
theorem e_oj3_13 : frun kR [(zWP, c_slo13), (zWP, c_fnd13)] (cpl1 zT cD_oj3_13 [p_oj3_13]) (cpl2 zT cD_oj3_13 [p_oj3_13]) (cleafN kR zT cD_oj3_13 [p_oj3_13]) 400 65536 (isatP f_oj3_13 i_oj3_13) i_oj3_13 (sin0 mt_all cD_oj3_13.1.1 18 cD_oj3_13.2.1.1 (foot zT cD_oj3_13.2.2.1.1)) (sin0 mt_all cD_oj3_13.1.2.1 19 cD_oj3_13.2.1.2 (foot zT cD_oj3_13.2.2.1.2)) = true := by decide +kernel
theorem r_oj3_13 {X : pX} {J : sR → List Value → List Value → Prop} {ρ : sR} (k1 : kok X ρ kR) (k2 : fok X ρ f_oj3_13) (ki : iok X ρ i_oj3_13) (hQ : ∀ ρ3 : sR, kok X ρ3 kR → fok X ρ3 p_oj3_13.2.2.1 → agrM 65536 cD_oj3_13.2.2.2.2.1.1 cD_oj3_13.2.2.2.2.1.2 ρ3 ρ → RPt X J ρ3 tEr) : RelP X pF pdfl mt_all 19 20 (foot zT fT1) (foot zT fT2) J ρ (sin0 mt_all 183 18 cD_oj3_13.2.1.1 (foot zT fT1)) (sin0 mt_all 409 19 cD_oj3_13.2.1.2 (foot zT fT2)) := START_P kR_x kR_0 (Cs := [(zWP, c_slo13), (zWP, c_fnd13)]) (fun C hC => by
  simp only [List.mem_cons, List.not_mem_nil, or_false] at hC
  rcases hC with rfl | rfl
  · exact s_slo13
  · exact s_fnd13) cD_oj3_13_f (Q := [p_oj3_13]) 400 e_oj3_13 k1 k2 ki (fun p hp => by
  rw [List.mem_singleton.mp hp]
  exact fun ρ3 k3 f3 _ am => hQ ρ3 k3 f3 am)
noncomputable def cD_or3_110 : sC := ((183, 409, 20), ([tr 0, .int 3, .arg 60320, .arg 60352, .arg 60384], [tr 219, .int 3, .arg 60320, .arg 60352, .arg 60384]), (fT1, fT2), [], ([19232, 60000, 60064, 60065, 60096, 60128, 60160], []), (none, none), [], ([], []))
theorem cD_or3_110_f : cfine zT 65536 cD_or3_110 = true := by decide +kernel
noncomputable def f_or3_110 : sFs := [((0, .arg 1378, .int 0), false), ((2, .arg 60320, .int 0), false), ((2, .int 65535, .arg 60320), false), ((2, .arg 60352, .int 0), false), ((109, .add (.arg 60320) (.arg 60352), .int 110), true), ((2, .arg 60384, .int 0), false), ((2, .arg 60384, .arg 1490), true), ((2, .arg 60384, .int 24), true)]
noncomputable def i_or3_110 : sI := []
noncomputable def p_or3_110 : sCut := (tEr.1, tEr.2, [((0, .arg 19232, .int 0), true)], [])
theorem e_or3_110 : frun kR [(zWP, c_slo110), (zWP, c_fnd110)] (cpl1 zT cD_or3_110 [p_or3_110]) (cpl2 zT cD_or3_110 [p_or3_110]) (cleafN kR zT cD_or3_110 [p_or3_110]) 400 65536 (isatP f_or3_110 i_or3_110) i_or3_110 (sin0 mt_all cD_or3_110.1.1 18 cD_or3_110.2.1.1 (foot zT cD_or3_110.2.2.1.1)) (sin0 mt_all cD_or3_110.1.2.1 19 cD_or3_110.2.1.2 (foot zT cD_or3_110.2.2.1.2)) = true := by decide +kernel
theorem r_or3_110 {X : pX} {J : sR → List Value → List Value → Prop} {ρ : sR} (k1 : kok X ρ kR) (k2 : fok X ρ f_or3_110) (ki : iok X ρ i_or3_110) (hQ : ∀ ρ3 : sR, kok X ρ3 kR → fok X ρ3 p_or3_110.2.2.1 → agrM 65536 cD_or3_110.2.2.2.2.1.1 cD_or3_110.2.2.2.2.1.2 ρ3 ρ → RPt X J ρ3 tEr) : RelP X pF pdfl mt_all 19 20 (foot zT fT1) (foot zT fT2) J ρ (sin0 mt_all 183 18 cD_or3_110.2.1.1 (foot zT fT1)) (sin0 mt_all 409 19 cD_or3_110.2.1.2 (foot zT fT2)) := START_P kR_x kR_0 (Cs := [(zWP, c_slo110), (zWP, c_fnd110)]) (fun C hC => by
  simp only [List.mem_cons, List.not_mem_nil, or_false] at hC
  rcases hC with rfl | rfl
  · exact s_slo110
  · exact s_fnd110) cD_or3_110_f (Q := [p_or3_110]) 400 e_or3_110 k1 k2 ki (fun p hp => by
  rw [List.mem_singleton.mp hp]
  exact fun ρ3 k3 f3 _ am => hQ ρ3 k3 f3 am)
noncomputable def cD_oi3_110 : sC := ((183, 409, 20), ([tr 0, .int 3, .arg 60320, .arg 60352, .arg 60384], [tr 219, .int 3, .arg 60320, .arg 60352, .arg 60384]), (fT1, fT2), [], ([19232, 60000, 60064, 60065, 60096, 60128, 60160], []), (none, none), [], ([], []))
theorem cD_oi3_110_f : cfine zT 65536 cD_oi3_110 = true := by decide +kernel
noncomputable def f_oi3_110 : sFs := [((0, .arg 1378, .int 0), false), ((2, .arg 60320, .int 0), false), ((2, .int 65535, .arg 60320), false), ((2, .arg 60352, .int 0), false), ((109, .add (.arg 60320) (.arg 60352), .int 110), true), ((2, .arg 60384, .arg 1490), false)]
noncomputable def i_oi3_110 : sI := []
noncomputable def p_oi3_110 : sCut := (tEr.1, tEr.2, [((0, .arg 19232, .int 0), true)], [])
theorem e_oi3_110 : frun kR [(zWP, c_slo110), (zWP, c_fnd110)] (cpl1 zT cD_oi3_110 [p_oi3_110]) (cpl2 zT cD_oi3_110 [p_oi3_110]) (cleafN kR zT cD_oi3_110 [p_oi3_110]) 400 65536 (isatP f_oi3_110 i_oi3_110) i_oi3_110 (sin0 mt_all cD_oi3_110.1.1 18 cD_oi3_110.2.1.1 (foot zT cD_oi3_110.2.2.1.1)) (sin0 mt_all cD_oi3_110.1.2.1 19 cD_oi3_110.2.1.2 (foot zT cD_oi3_110.2.2.1.2)) = true := by decide +kernel
theorem r_oi3_110 {X : pX} {J : sR → List Value → List Value → Prop} {ρ : sR} (k1 : kok X ρ kR) (k2 : fok X ρ f_oi3_110) (ki : iok X ρ i_oi3_110) (hQ : ∀ ρ3 : sR, kok X ρ3 kR → fok X ρ3 p_oi3_110.2.2.1 → agrM 65536 cD_oi3_110.2.2.2.2.1.1 cD_oi3_110.2.2.2.2.1.2 ρ3 ρ → RPt X J ρ3 tEr) : RelP X pF pdfl mt_all 19 20 (foot zT fT1) (foot zT fT2) J ρ (sin0 mt_all 183 18 cD_oi3_110.2.1.1 (foot zT fT1)) (sin0 mt_all 409 19 cD_oi3_110.2.1.2 (foot zT fT2)) := START_P kR_x kR_0 (Cs := [(zWP, c_slo110), (zWP, c_fnd110)]) (fun C hC => by
  simp only [List.mem_cons, List.not_mem_nil, or_false] at hC
  rcases hC with rfl | rfl
  · exact s_slo110
  · exact s_fnd110) cD_oi3_110_f (Q := [p_oi3_110]) 400 e_oi3_110 k1 k2 ki (fun p hp => by
  rw [List.mem_singleton.mp hp]
  exact fun ρ3 k3 f3 _ am => hQ ρ3 k3 f3 am)
noncomputable def cD_oj3_110 : sC := ((183, 409, 20), ([tr 0, .int 3, .arg 60320, .arg 60352, .arg 60384], [tr 219, .int 3, .arg 60320, .arg 60352, .arg 60384]), (fT1, fT2), [], ([19232, 60000, 60064, 60065, 60096, 60128, 60160], []), (none, none), [], ([], []))
theorem cD_oj3_110_f : cfine zT 65536 cD_oj3_110 = true := by decide +kernel
noncomputable def f_oj3_110 : sFs := [((0, .arg 1378, .int 0), false), ((2, .arg 60320, .int 0), false), ((2, .int 65535, .arg 60320), false), ((2, .arg 60352, .int 0), false), ((109, .add (.arg 60320) (.arg 60352), .int 110), true), ((2, .arg 60384, .int 0), true)]
noncomputable def i_oj3_110 : sI := []
noncomputable def p_oj3_110 : sCut := (tEr.1, tEr.2, [((0, .arg 19232, .int 0), true)], [])
theorem e_oj3_110 : frun kR [(zWP, c_slo110), (zWP, c_fnd110)] (cpl1 zT cD_oj3_110 [p_oj3_110]) (cpl2 zT cD_oj3_110 [p_oj3_110]) (cleafN kR zT cD_oj3_110 [p_oj3_110]) 400 65536 (isatP f_oj3_110 i_oj3_110) i_oj3_110 (sin0 mt_all cD_oj3_110.1.1 18 cD_oj3_110.2.1.1 (foot zT cD_oj3_110.2.2.1.1)) (sin0 mt_all cD_oj3_110.1.2.1 19 cD_oj3_110.2.1.2 (foot zT cD_oj3_110.2.2.1.2)) = true := by decide +kernel
theorem r_oj3_110 {X : pX} {J : sR → List Value → List Value → Prop} {ρ : sR} (k1 : kok X ρ kR) (k2 : fok X ρ f_oj3_110) (ki : iok X ρ i_oj3_110) (hQ : ∀ ρ3 : sR, kok X ρ3 kR → fok X ρ3 p_oj3_110.2.2.1 → agrM 65536 cD_oj3_110.2.2.2.2.1.1 cD_oj3_110.2.2.2.2.1.2 ρ3 ρ → RPt X J ρ3 tEr) : RelP X pF pdfl mt_all 19 20 (foot zT fT1) (foot zT fT2) J ρ (sin0 mt_all 183 18 cD_oj3_110.2.1.1 (foot zT fT1)) (sin0 mt_all 409 19 cD_oj3_110.2.1.2 (foot zT fT2)) := START_P kR_x kR_0 (Cs := [(zWP, c_slo110), (zWP, c_fnd110)]) (fun C hC => by
  simp only [List.mem_cons, List.not_mem_nil, or_false] at hC
  rcases hC with rfl | rfl
  · exact s_slo110
  · exact s_fnd110) cD_oj3_110_f (Q := [p_oj3_110]) 400 e_oj3_110 k1 k2 ki (fun p hp => by
  rw [List.mem_singleton.mp hp]
  exact fun ρ3 k3 f3 _ am => hQ ρ3 k3 f3 am)
noncomputable def tEt3 : (sF × List sF × Nat) × (sF × List sF × Nat) := ((fr 0 183 6 [(0, tr 0), (1, .int 3), (4, .arg 60384), (5, .int 111)] [], [fBot], 18), (fr 0 409 6 [(0, tr 219), (1, .int 3), (4, .arg 60384), (5, .int 111)] [], [fBot], 19))
noncomputable def q_teEt3 : sCut := (tEt3.1, tEt3.2, [((0, .arg 19232, .int 0), true), ((2, .arg 60384, .int 0), false), ((2, .arg 60384, .mul (.arg 1398) (.int 4)), true), ((2, .arg 60384, .int 128), true)], [])
theorem k_teEt3 : cbody kR [] [] [] (lendP kR zT cD_en.2.2.1.1 cD_en.2.2.1.2 [.op2 .iand (.op1 .l2i (.op2 .lushr (.op1 .i2l (.elem (.arg 14208) (.rem (.add (.arg 1396) (.div (.arg 60384) (.int 4))) (.int 32)))) (.mul (.rem (.arg 60384) (.int 4)) (.int 8)))) (.int 255)] [.op2 .iand (.op2 .ishr (.elem (.arg 19712) (.div (.arg 60384) (.int 4))) (.mul (.rem (.arg 60384) (.int 4)) (.int 8))) (.int 255)]) 300 true true q_teEt3.2.2.1 q_teEt3.2.2.2 (cst zT cD_en.2.2.1.1 q_teEt3.1) (cst zT cD_en.2.2.1.2 q_teEt3.2.1) = true := by decide +kernel
theorem c_Et3 {X : pX} {J : sR → List Value → List Value → Prop} {ρ : sR} (hk : kok X ρ kR) (hf : fok X ρ [((0, .arg 19232, .int 0), true), ((2, .arg 60384, .int 0), false), ((2, .arg 60384, .mul (.arg 1398) (.int 4)), true), ((2, .arg 60384, .int 128), true)]) (hJ : J ρ (dS X ρ [.op2 .iand (.op1 .l2i (.op2 .lushr (.op1 .i2l (.elem (.arg 14208) (.rem (.add (.arg 1396) (.div (.arg 60384) (.int 4))) (.int 32)))) (.mul (.rem (.arg 60384) (.int 4)) (.int 8)))) (.int 255)]) (dS X ρ [.op2 .iand (.op2 .ishr (.elem (.arg 19712) (.div (.arg 60384) (.int 4))) (.mul (.rem (.arg 60384) (.int 4)) (.int 8))) (.int 255)])) : RPt X J ρ tEt3 := END_P kR_x kR_0 (Cs := []) (fun C hC => by cases hC) cD_en_f 300 (q := q_teEt3) k_teEt3 hk hf (fun c hc => by cases hc) hJ
noncomputable def cD_or3_111 : sC := ((183, 409, 20), ([tr 0, .int 3, .arg 60320, .arg 60352, .arg 60384], [tr 219, .int 3, .arg 60320, .arg 60352, .arg 60384]), (fT1, fT2), [], ([19232, 60000, 60064, 60065, 60096, 60128, 60160], []), (none, none), [], ([], []))
theorem cD_or3_111_f : cfine zT 65536 cD_or3_111 = true := by decide +kernel
noncomputable def f_or3_111 : sFs := [((0, .arg 1378, .int 0), false), ((2, .arg 60320, .int 0), false), ((2, .int 65535, .arg 60320), false), ((2, .arg 60352, .int 0), false), ((109, .add (.arg 60320) (.arg 60352), .int 111), true), ((2, .arg 60384, .int 0), false), ((2, .arg 60384, .mul (.arg 1398) (.int 4)), true), ((2, .arg 60384, .int 128), true)]
noncomputable def i_or3_111 : sI := []
noncomputable def p_or3_111 : sCut := (tEt3.1, tEt3.2, [((0, .arg 19232, .int 0), true), ((2, .arg 60384, .int 0), false), ((2, .arg 60384, .mul (.arg 1398) (.int 4)), true), ((2, .arg 60384, .int 128), true)], [])
theorem e_or3_111 : frun kR [(zWP, c_slo111), (zWP, c_fnd111)] (cpl1 zT cD_or3_111 [p_or3_111]) (cpl2 zT cD_or3_111 [p_or3_111]) (cleafN kR zT cD_or3_111 [p_or3_111]) 400 65536 (isatP f_or3_111 i_or3_111) i_or3_111 (sin0 mt_all cD_or3_111.1.1 18 cD_or3_111.2.1.1 (foot zT cD_or3_111.2.2.1.1)) (sin0 mt_all cD_or3_111.1.2.1 19 cD_or3_111.2.1.2 (foot zT cD_or3_111.2.2.1.2)) = true := by decide +kernel
theorem r_or3_111 {X : pX} {J : sR → List Value → List Value → Prop} {ρ : sR} (k1 : kok X ρ kR) (k2 : fok X ρ f_or3_111) (ki : iok X ρ i_or3_111) (hQ : ∀ ρ3 : sR, kok X ρ3 kR → fok X ρ3 p_or3_111.2.2.1 → agrM 65536 cD_or3_111.2.2.2.2.1.1 cD_or3_111.2.2.2.2.1.2 ρ3 ρ → RPt X J ρ3 tEt3) : RelP X pF pdfl mt_all 19 20 (foot zT fT1) (foot zT fT2) J ρ (sin0 mt_all 183 18 cD_or3_111.2.1.1 (foot zT fT1)) (sin0 mt_all 409 19 cD_or3_111.2.1.2 (foot zT fT2)) := START_P kR_x kR_0 (Cs := [(zWP, c_slo111), (zWP, c_fnd111)]) (fun C hC => by
  simp only [List.mem_cons, List.not_mem_nil, or_false] at hC
  rcases hC with rfl | rfl
  · exact s_slo111
  · exact s_fnd111) cD_or3_111_f (Q := [p_or3_111]) 400 e_or3_111 k1 k2 ki (fun p hp => by
  rw [List.mem_singleton.mp hp]
  exact fun ρ3 k3 f3 _ am => hQ ρ3 k3 f3 am)
noncomputable def cD_oi3_111 : sC := ((183, 409, 20), ([tr 0, .int 3, .arg 60320, .arg 60352, .arg 60384], [tr 219, .int 3, .arg 60320, .arg 60352, .arg 60384]), (fT1, fT2), [], ([19232, 60000, 60064, 60065, 60096, 60128, 60160], []), (none, none), [], ([], []))
theorem cD_oi3_111_f : cfine zT 65536 cD_oi3_111 = true := by decide +kernel
noncomputable def f_oi3_111 : sFs := [((0, .arg 1378, .int 0), false), ((2, .arg 60320, .int 0), false), ((2, .int 65535, .arg 60320), false), ((2, .arg 60352, .int 0), false), ((109, .add (.arg 60320) (.arg 60352), .int 111), true), ((2, .arg 60384, .mul (.arg 1398) (.int 4)), false)]
noncomputable def i_oi3_111 : sI := []
noncomputable def p_oi3_111 : sCut := (tEr.1, tEr.2, [((0, .arg 19232, .int 0), true)], [])
theorem e_oi3_111 : frun kR [(zWP, c_slo111), (zWP, c_fnd111)] (cpl1 zT cD_oi3_111 [p_oi3_111]) (cpl2 zT cD_oi3_111 [p_oi3_111]) (cleafN kR zT cD_oi3_111 [p_oi3_111]) 400 65536 (isatP f_oi3_111 i_oi3_111) i_oi3_111 (sin0 mt_all cD_oi3_111.1.1 18 cD_oi3_111.2.1.1 (foot zT cD_oi3_111.2.2.1.1)) (sin0 mt_all cD_oi3_111.1.2.1 19 cD_oi3_111.2.1.2 (foot zT cD_oi3_111.2.2.1.2)) = true := by decide +kernel
theorem r_oi3_111 {X : pX} {J : sR → List Value → List Value → Prop} {ρ : sR} (k1 : kok X ρ kR) (k2 : fok X ρ f_oi3_111) (ki : iok X ρ i_oi3_111) (hQ : ∀ ρ3 : sR, kok X ρ3 kR → fok X ρ3 p_oi3_111.2.2.1 → agrM 65536 cD_oi3_111.2.2.2.2.1.1 cD_oi3_111.2.2.2.2.1.2 ρ3 ρ → RPt X J ρ3 tEr) : RelP X pF pdfl mt_all 19 20 (foot zT fT1) (foot zT fT2) J ρ (sin0 mt_all 183 18 cD_oi3_111.2.1.1 (foot zT fT1)) (sin0 mt_all 409 19 cD_oi3_111.2.1.2 (foot zT fT2)) := START_P kR_x kR_0 (Cs := [(zWP, c_slo111), (zWP, c_fnd111)]) (fun C hC => by
  simp only [List.mem_cons, List.not_mem_nil, or_false] at hC
  rcases hC with rfl | rfl
  · exact s_slo111
  · exact s_fnd111) cD_oi3_111_f (Q := [p_oi3_111]) 400 e_oi3_111 k1 k2 ki (fun p hp => by
  rw [List.mem_singleton.mp hp]
  exact fun ρ3 k3 f3 _ am => hQ ρ3 k3 f3 am)
noncomputable def cD_oj3_111 : sC := ((183, 409, 20), ([tr 0, .int 3, .arg 60320, .arg 60352, .arg 60384], [tr 219, .int 3, .arg 60320, .arg 60352, .arg 60384]), (fT1, fT2), [], ([19232, 60000, 60064, 60065, 60096, 60128, 60160], []), (none, none), [], ([], []))
theorem cD_oj3_111_f : cfine zT 65536 cD_oj3_111 = true := by decide +kernel
noncomputable def f_oj3_111 : sFs := [((0, .arg 1378, .int 0), false), ((2, .arg 60320, .int 0), false), ((2, .int 65535, .arg 60320), false), ((2, .arg 60352, .int 0), false), ((109, .add (.arg 60320) (.arg 60352), .int 111), true), ((2, .arg 60384, .int 0), true)]
noncomputable def i_oj3_111 : sI := []
noncomputable def p_oj3_111 : sCut := (tEr.1, tEr.2, [((0, .arg 19232, .int 0), true)], [])
theorem e_oj3_111 : frun kR [(zWP, c_slo111), (zWP, c_fnd111)] (cpl1 zT cD_oj3_111 [p_oj3_111]) (cpl2 zT cD_oj3_111 [p_oj3_111]) (cleafN kR zT cD_oj3_111 [p_oj3_111]) 400 65536 (isatP f_oj3_111 i_oj3_111) i_oj3_111 (sin0 mt_all cD_oj3_111.1.1 18 cD_oj3_111.2.1.1 (foot zT cD_oj3_111.2.2.1.1)) (sin0 mt_all cD_oj3_111.1.2.1 19 cD_oj3_111.2.1.2 (foot zT cD_oj3_111.2.2.1.2)) = true := by decide +kernel
theorem r_oj3_111 {X : pX} {J : sR → List Value → List Value → Prop} {ρ : sR} (k1 : kok X ρ kR) (k2 : fok X ρ f_oj3_111) (ki : iok X ρ i_oj3_111) (hQ : ∀ ρ3 : sR, kok X ρ3 kR → fok X ρ3 p_oj3_111.2.2.1 → agrM 65536 cD_oj3_111.2.2.2.2.1.1 cD_oj3_111.2.2.2.2.1.2 ρ3 ρ → RPt X J ρ3 tEr) : RelP X pF pdfl mt_all 19 20 (foot zT fT1) (foot zT fT2) J ρ (sin0 mt_all 183 18 cD_oj3_111.2.1.1 (foot zT fT1)) (sin0 mt_all 409 19 cD_oj3_111.2.1.2 (foot zT fT2)) := START_P kR_x kR_0 (Cs := [(zWP, c_slo111), (zWP, c_fnd111)]) (fun C hC => by
  simp only [List.mem_cons, List.not_mem_nil, or_false] at hC
  rcases hC with rfl | rfl
  · exact s_slo111
  · exact s_fnd111) cD_oj3_111_f (Q := [p_oj3_111]) 400 e_oj3_111 k1 k2 ki (fun p hp => by
  rw [List.mem_singleton.mp hp]
  exact fun ρ3 k3 f3 _ am => hQ ρ3 k3 f3 am)
noncomputable def cD_or3_112 : sC := ((183, 409, 20), ([tr 0, .int 3, .arg 60320, .arg 60352, .arg 60384], [tr 219, .int 3, .arg 60320, .arg 60352, .arg 60384]), (fT1, fT2), [], ([19232, 60000, 60064, 60065, 60096, 60128, 60160], []), (none, none), [], ([], []))
theorem cD_or3_112_f : cfine zT 65536 cD_or3_112 = true := by decide +kernel
noncomputable def f_or3_112 : sFs := [((0, .arg 1378, .int 0), false), ((2, .arg 60320, .int 0), false), ((2, .int 65535, .arg 60320), false), ((2, .arg 60352, .int 0), false), ((109, .add (.arg 60320) (.arg 60352), .int 112), true), ((2, .arg 60384, .int 0), false), ((2, .arg 60384, .arg 1522), true), ((2, .arg 60384, .int 144), true)]
noncomputable def i_or3_112 : sI := []
noncomputable def p_or3_112 : sCut := (tEr.1, tEr.2, [((0, .arg 19232, .int 0), true)], [])
theorem e_or3_112 : frun kR [(zWP, c_slo112), (zWP, c_fnd112)] (cpl1 zT cD_or3_112 [p_or3_112]) (cpl2 zT cD_or3_112 [p_or3_112]) (cleafN kR zT cD_or3_112 [p_or3_112]) 400 65536 (isatP f_or3_112 i_or3_112) i_or3_112 (sin0 mt_all cD_or3_112.1.1 18 cD_or3_112.2.1.1 (foot zT cD_or3_112.2.2.1.1)) (sin0 mt_all cD_or3_112.1.2.1 19 cD_or3_112.2.1.2 (foot zT cD_or3_112.2.2.1.2)) = true := by decide +kernel
theorem r_or3_112 {X : pX} {J : sR → List Value → List Value → Prop} {ρ : sR} (k1 : kok X ρ kR) (k2 : fok X ρ f_or3_112) (ki : iok X ρ i_or3_112) (hQ : ∀ ρ3 : sR, kok X ρ3 kR → fok X ρ3 p_or3_112.2.2.1 → agrM 65536 cD_or3_112.2.2.2.2.1.1 cD_or3_112.2.2.2.2.1.2 ρ3 ρ → RPt X J ρ3 tEr) : RelP X pF pdfl mt_all 19 20 (foot zT fT1) (foot zT fT2) J ρ (sin0 mt_all 183 18 cD_or3_112.2.1.1 (foot zT fT1)) (sin0 mt_all 409 19 cD_or3_112.2.1.2 (foot zT fT2)) := START_P kR_x kR_0 (Cs := [(zWP, c_slo112), (zWP, c_fnd112)]) (fun C hC => by
  simp only [List.mem_cons, List.not_mem_nil, or_false] at hC
  rcases hC with rfl | rfl
  · exact s_slo112
  · exact s_fnd112) cD_or3_112_f (Q := [p_or3_112]) 400 e_or3_112 k1 k2 ki (fun p hp => by
  rw [List.mem_singleton.mp hp]
  exact fun ρ3 k3 f3 _ am => hQ ρ3 k3 f3 am)
noncomputable def cD_oi3_112 : sC := ((183, 409, 20), ([tr 0, .int 3, .arg 60320, .arg 60352, .arg 60384], [tr 219, .int 3, .arg 60320, .arg 60352, .arg 60384]), (fT1, fT2), [], ([19232, 60000, 60064, 60065, 60096, 60128, 60160], []), (none, none), [], ([], []))
theorem cD_oi3_112_f : cfine zT 65536 cD_oi3_112 = true := by decide +kernel
noncomputable def f_oi3_112 : sFs := [((0, .arg 1378, .int 0), false), ((2, .arg 60320, .int 0), false), ((2, .int 65535, .arg 60320), false), ((2, .arg 60352, .int 0), false), ((109, .add (.arg 60320) (.arg 60352), .int 112), true), ((2, .arg 60384, .arg 1522), false)]
noncomputable def i_oi3_112 : sI := []
noncomputable def p_oi3_112 : sCut := (tEr.1, tEr.2, [((0, .arg 19232, .int 0), true)], [])
theorem e_oi3_112 : frun kR [(zWP, c_slo112), (zWP, c_fnd112)] (cpl1 zT cD_oi3_112 [p_oi3_112]) (cpl2 zT cD_oi3_112 [p_oi3_112]) (cleafN kR zT cD_oi3_112 [p_oi3_112]) 400 65536 (isatP f_oi3_112 i_oi3_112) i_oi3_112 (sin0 mt_all cD_oi3_112.1.1 18 cD_oi3_112.2.1.1 (foot zT cD_oi3_112.2.2.1.1)) (sin0 mt_all cD_oi3_112.1.2.1 19 cD_oi3_112.2.1.2 (foot zT cD_oi3_112.2.2.1.2)) = true := by decide +kernel
theorem r_oi3_112 {X : pX} {J : sR → List Value → List Value → Prop} {ρ : sR} (k1 : kok X ρ kR) (k2 : fok X ρ f_oi3_112) (ki : iok X ρ i_oi3_112) (hQ : ∀ ρ3 : sR, kok X ρ3 kR → fok X ρ3 p_oi3_112.2.2.1 → agrM 65536 cD_oi3_112.2.2.2.2.1.1 cD_oi3_112.2.2.2.2.1.2 ρ3 ρ → RPt X J ρ3 tEr) : RelP X pF pdfl mt_all 19 20 (foot zT fT1) (foot zT fT2) J ρ (sin0 mt_all 183 18 cD_oi3_112.2.1.1 (foot zT fT1)) (sin0 mt_all 409 19 cD_oi3_112.2.1.2 (foot zT fT2)) := START_P kR_x kR_0 (Cs := [(zWP, c_slo112), (zWP, c_fnd112)]) (fun C hC => by
  simp only [List.mem_cons, List.not_mem_nil, or_false] at hC
  rcases hC with rfl | rfl
  · exact s_slo112
  · exact s_fnd112) cD_oi3_112_f (Q := [p_oi3_112]) 400 e_oi3_112 k1 k2 ki (fun p hp => by
  rw [List.mem_singleton.mp hp]
  exact fun ρ3 k3 f3 _ am => hQ ρ3 k3 f3 am)
noncomputable def cD_oj3_112 : sC := ((183, 409, 20), ([tr 0, .int 3, .arg 60320, .arg 60352, .arg 60384], [tr 219, .int 3, .arg 60320, .arg 60352, .arg 60384]), (fT1, fT2), [], ([19232, 60000, 60064, 60065, 60096, 60128, 60160], []), (none, none), [], ([], []))
theorem cD_oj3_112_f : cfine zT 65536 cD_oj3_112 = true := by decide +kernel
noncomputable def f_oj3_112 : sFs := [((0, .arg 1378, .int 0), false), ((2, .arg 60320, .int 0), false), ((2, .int 65535, .arg 60320), false), ((2, .arg 60352, .int 0), false), ((109, .add (.arg 60320) (.arg 60352), .int 112), true), ((2, .arg 60384, .int 0), true)]
noncomputable def i_oj3_112 : sI := []
noncomputable def p_oj3_112 : sCut := (tEr.1, tEr.2, [((0, .arg 19232, .int 0), true)], [])
theorem e_oj3_112 : frun kR [(zWP, c_slo112), (zWP, c_fnd112)] (cpl1 zT cD_oj3_112 [p_oj3_112]) (cpl2 zT cD_oj3_112 [p_oj3_112]) (cleafN kR zT cD_oj3_112 [p_oj3_112]) 400 65536 (isatP f_oj3_112 i_oj3_112) i_oj3_112 (sin0 mt_all cD_oj3_112.1.1 18 cD_oj3_112.2.1.1 (foot zT cD_oj3_112.2.2.1.1)) (sin0 mt_all cD_oj3_112.1.2.1 19 cD_oj3_112.2.1.2 (foot zT cD_oj3_112.2.2.1.2)) = true := by decide +kernel
theorem r_oj3_112 {X : pX} {J : sR → List Value → List Value → Prop} {ρ : sR} (k1 : kok X ρ kR) (k2 : fok X ρ f_oj3_112) (ki : iok X ρ i_oj3_112) (hQ : ∀ ρ3 : sR, kok X ρ3 kR → fok X ρ3 p_oj3_112.2.2.1 → agrM 65536 cD_oj3_112.2.2.2.2.1.1 cD_oj3_112.2.2.2.2.1.2 ρ3 ρ → RPt X J ρ3 tEr) : RelP X pF pdfl mt_all 19 20 (foot zT fT1) (foot zT fT2) J ρ (sin0 mt_all 183 18 cD_oj3_112.2.1.1 (foot zT fT1)) (sin0 mt_all 409 19 cD_oj3_112.2.1.2 (foot zT fT2)) := START_P kR_x kR_0 (Cs := [(zWP, c_slo112), (zWP, c_fnd112)]) (fun C hC => by
  simp only [List.mem_cons, List.not_mem_nil, or_false] at hC
  rcases hC with rfl | rfl
  · exact s_slo112
  · exact s_fnd112) cD_oj3_112_f (Q := [p_oj3_112]) 400 e_oj3_112 k1 k2 ki (fun p hp => by
  rw [List.mem_singleton.mp hp]
  exact fun ρ3 k3 f3 _ am => hQ ρ3 k3 f3 am)
