/-! ===== is a station on the bus: Bus.isOn and isOnBus ===== -/
noncomputable def c_ison0 : sC := ((43, 247, 3), ([tr 2, .int 0], [tr 219, .int 0]), ([2, 29, 30], [219, 258, 247]), [], ([60002], []), (some (.arg 60002), some (.arg 60002)), [], ([], []))
theorem c_ison0_f : cfine zH 65536 c_ison0 = true := by decide +kernel
theorem e_ison0 : frun kR [] (cpl1 zH c_ison0 []) (cpl2 zH c_ison0 []) (cleaf kR zH c_ison0 []) 3000 65536 (isatP (c_ison0.2.2.2.1) c_ison0.2.2.2.2.2.2.2.1) c_ison0.2.2.2.2.2.2.2.1 (sin0 mt_all c_ison0.1.1 2 c_ison0.2.1.1 (foot zH c_ison0.2.2.1.1)) (sin0 mt_all c_ison0.1.2.1 2 c_ison0.2.1.2 (foot zH c_ison0.2.2.1.2)) = true := by decide +kernel
theorem s_ison0 {X : pX} : SREL X pF pdfl mt_all kR zH c_ison0 := SREL_QC kR_x kR_0 (Cs := []) (fun C hC => by cases hC) (d := 2) rfl c_ison0_f (Q := []) (fun ρ0 hv q hq => by cases hq) (QC_run 3000 e_ison0)
noncomputable def c_ison1 : sC := ((43, 247, 3), ([tr 2, .int 1], [tr 219, .int 1]), ([2, 29, 30], [219, 258, 247]), [], ([60002], []), (some (.arg 60002), some (.arg 60002)), [], ([], []))
theorem c_ison1_f : cfine zH 65536 c_ison1 = true := by decide +kernel
theorem e_ison1 : frun kR [] (cpl1 zH c_ison1 []) (cpl2 zH c_ison1 []) (cleaf kR zH c_ison1 []) 3000 65536 (isatP (c_ison1.2.2.2.1) c_ison1.2.2.2.2.2.2.2.1) c_ison1.2.2.2.2.2.2.2.1 (sin0 mt_all c_ison1.1.1 2 c_ison1.2.1.1 (foot zH c_ison1.2.2.1.1)) (sin0 mt_all c_ison1.1.2.1 2 c_ison1.2.1.2 (foot zH c_ison1.2.2.1.2)) = true := by decide +kernel
theorem s_ison1 {X : pX} : SREL X pF pdfl mt_all kR zH c_ison1 := SREL_QC kR_x kR_0 (Cs := []) (fun C hC => by cases hC) (d := 2) rfl c_ison1_f (Q := []) (fun ρ0 hv q hq => by cases hq) (QC_run 3000 e_ison1)
noncomputable def c_ison2 : sC := ((43, 247, 3), ([tr 2, .int 2], [tr 219, .int 2]), ([2, 29, 30], [219, 258, 247]), [], ([60002], []), (some (.arg 60002), some (.arg 60002)), [], ([], []))
theorem c_ison2_f : cfine zH 65536 c_ison2 = true := by decide +kernel
theorem e_ison2 : frun kR [] (cpl1 zH c_ison2 []) (cpl2 zH c_ison2 []) (cleaf kR zH c_ison2 []) 3000 65536 (isatP (c_ison2.2.2.2.1) c_ison2.2.2.2.2.2.2.2.1) c_ison2.2.2.2.2.2.2.2.1 (sin0 mt_all c_ison2.1.1 2 c_ison2.2.1.1 (foot zH c_ison2.2.2.1.1)) (sin0 mt_all c_ison2.1.2.1 2 c_ison2.2.1.2 (foot zH c_ison2.2.2.1.2)) = true := by decide +kernel
theorem s_ison2 {X : pX} : SREL X pF pdfl mt_all kR zH c_ison2 := SREL_QC kR_x kR_0 (Cs := []) (fun C hC => by cases hC) (d := 2) rfl c_ison2_f (Q := []) (fun ρ0 hv q hq => by cases hq) (QC_run 3000 e_ison2)
noncomputable def c_ison3 : sC := ((43, 247, 3), ([tr 2, .int 3], [tr 219, .int 3]), ([2, 29, 30], [219, 258, 247]), [], ([60002], []), (some (.arg 60002), some (.arg 60002)), [], ([], []))
theorem c_ison3_f : cfine zH 65536 c_ison3 = true := by decide +kernel
theorem e_ison3 : frun kR [] (cpl1 zH c_ison3 []) (cpl2 zH c_ison3 []) (cleaf kR zH c_ison3 []) 3000 65536 (isatP (c_ison3.2.2.2.1) c_ison3.2.2.2.2.2.2.2.1) c_ison3.2.2.2.2.2.2.2.1 (sin0 mt_all c_ison3.1.1 2 c_ison3.2.1.1 (foot zH c_ison3.2.2.1.1)) (sin0 mt_all c_ison3.1.2.1 2 c_ison3.2.1.2 (foot zH c_ison3.2.2.1.2)) = true := by decide +kernel
theorem s_ison3 {X : pX} : SREL X pF pdfl mt_all kR zH c_ison3 := SREL_QC kR_x kR_0 (Cs := []) (fun C hC => by cases hC) (d := 2) rfl c_ison3_f (Q := []) (fun ρ0 hv q hq => by cases hq) (QC_run 3000 e_ison3)
noncomputable def c_ison4 : sC := ((43, 247, 3), ([tr 2, .int 4], [tr 219, .int 4]), ([2, 29, 30], [219, 258, 247]), [], ([60002], []), (some (.arg 60002), some (.arg 60002)), [], ([], []))
theorem c_ison4_f : cfine zH 65536 c_ison4 = true := by decide +kernel
theorem e_ison4 : frun kR [] (cpl1 zH c_ison4 []) (cpl2 zH c_ison4 []) (cleaf kR zH c_ison4 []) 3000 65536 (isatP (c_ison4.2.2.2.1) c_ison4.2.2.2.2.2.2.2.1) c_ison4.2.2.2.2.2.2.2.1 (sin0 mt_all c_ison4.1.1 2 c_ison4.2.1.1 (foot zH c_ison4.2.2.1.1)) (sin0 mt_all c_ison4.1.2.1 2 c_ison4.2.1.2 (foot zH c_ison4.2.2.1.2)) = true := by decide +kernel
theorem s_ison4 {X : pX} : SREL X pF pdfl mt_all kR zH c_ison4 := SREL_QC kR_x kR_0 (Cs := []) (fun C hC => by cases hC) (d := 2) rfl c_ison4_f (Q := []) (fun ρ0 hv q hq => by cases hq) (QC_run 3000 e_ison4)
