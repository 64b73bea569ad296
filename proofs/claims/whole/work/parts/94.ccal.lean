/-! ===== a call: told ===== -/
noncomputable def c_told : sC := ((192, 419, 5), ([tr 0, .arg 60028], [tr 219, .arg 60028]), ([0, 203], [219]), [], ([19232, 60096], []), (some (.arg 60096), some (.arg 60096)), [((0, .arg 19232, .int 0), true)], ([], []))
theorem c_told_f : cfine zH 65536 c_told = true := by decide +kernel
theorem e_told_0 : frun kR [] (cpl1 zH c_told []) (cpl2 zH c_told []) (cleaf kR zH c_told []) 160 65536 (isatP (((0, .arg 60028, .int 0), true) :: c_told.2.2.2.1) c_told.2.2.2.2.2.2.2.1) c_told.2.2.2.2.2.2.2.1 (sin0 mt_all c_told.1.1 4 c_told.2.1.1 (foot zH c_told.2.2.1.1)) (sin0 mt_all c_told.1.2.1 4 c_told.2.1.2 (foot zH c_told.2.2.1.2)) = true := by decide +kernel
theorem e_told_1 : frun kR [] (cpl1 zH c_told []) (cpl2 zH c_told []) (cleaf kR zH c_told []) 160 65536 (isatP (((0, .arg 60028, .int 1), true) :: c_told.2.2.2.1) c_told.2.2.2.2.2.2.2.1) c_told.2.2.2.2.2.2.2.1 (sin0 mt_all c_told.1.1 4 c_told.2.1.1 (foot zH c_told.2.2.1.1)) (sin0 mt_all c_told.1.2.1 4 c_told.2.1.2 (foot zH c_told.2.2.1.2)) = true := by decide +kernel
theorem e_told_2 : frun kR [] (cpl1 zH c_told []) (cpl2 zH c_told []) (cleaf kR zH c_told []) 160 65536 (isatP (((0, .arg 60028, .int 2), true) :: c_told.2.2.2.1) c_told.2.2.2.2.2.2.2.1) c_told.2.2.2.2.2.2.2.1 (sin0 mt_all c_told.1.1 4 c_told.2.1.1 (foot zH c_told.2.2.1.1)) (sin0 mt_all c_told.1.2.1 4 c_told.2.1.2 (foot zH c_told.2.2.1.2)) = true := by decide +kernel
theorem e_told_3 : frun kR [] (cpl1 zH c_told []) (cpl2 zH c_told []) (cleaf kR zH c_told []) 160 65536 (isatP (((0, .arg 60028, .int 3), true) :: c_told.2.2.2.1) c_told.2.2.2.2.2.2.2.1) c_told.2.2.2.2.2.2.2.1 (sin0 mt_all c_told.1.1 4 c_told.2.1.1 (foot zH c_told.2.2.1.1)) (sin0 mt_all c_told.1.2.1 4 c_told.2.1.2 (foot zH c_told.2.2.1.2)) = true := by decide +kernel
theorem s_told {X : pX} : SREL X pF pdfl mt_all kR zH c_told := SREL_QC kR_x kR_0 (Cs := []) (fun C hC => by cases hC) (d := 4) rfl c_told_f (Q := []) (fun ρ0 hv q hq => by cases hq) (fun ρ hF hI => by
  have r60028 : 0 ≤ (ρ.1 60028).toInt ∧ (ρ.1 60028).toInt ≤ 3 := hF.1.1 60028 (0, 3) rfl
  rcases (show (ρ.1 60028).toInt = 0 ∨ (ρ.1 60028).toInt = 1 ∨ (ρ.1 60028).toInt = 2 ∨ (ρ.1 60028).toInt = 3 by omega) with g | g | g | g
  · have h60028 : ρ.1 60028 = 0 := Int32.toInt_inj.mp g
    exact QC_run 160 e_told_0 ρ ⟨hF.1, fcn (decide_eq_true h60028) (hF.2)⟩ hI
  · have h60028 : ρ.1 60028 = 1 := Int32.toInt_inj.mp g
    exact QC_run 160 e_told_1 ρ ⟨hF.1, fcn (decide_eq_true h60028) (hF.2)⟩ hI
  · have h60028 : ρ.1 60028 = 2 := Int32.toInt_inj.mp g
    exact QC_run 160 e_told_2 ρ ⟨hF.1, fcn (decide_eq_true h60028) (hF.2)⟩ hI
  · have h60028 : ρ.1 60028 = 3 := Int32.toInt_inj.mp g
    exact QC_run 160 e_told_3 ρ ⟨hF.1, fcn (decide_eq_true h60028) (hF.2)⟩ hI)
/-! ===== a call: putc ===== -/
noncomputable def c_putc : sC := ((189, 416, 5), ([tr 0, .arg 60004], [tr 219, .arg 60004]), ([0, 203, 204], [219, 335]), [((0, .arg 17728, .int 1), false), ((2, .arg 1292, .int 160), true)], ([19232, 60096, 1292], [2052]), (some (.arg 60096), some (.arg 60096)), [((0, .arg 19232, .int 0), true)], ([], []))
theorem c_putc_f : cfine zH 65536 c_putc = true := by decide +kernel
theorem e_putc : frun kR [] (cpl1 zH c_putc []) (cpl2 zH c_putc []) (cleaf kR zH c_putc []) 160 65536 (isatP (c_putc.2.2.2.1) c_putc.2.2.2.2.2.2.2.1) c_putc.2.2.2.2.2.2.2.1 (sin0 mt_all c_putc.1.1 4 c_putc.2.1.1 (foot zH c_putc.2.2.1.1)) (sin0 mt_all c_putc.1.2.1 4 c_putc.2.1.2 (foot zH c_putc.2.2.1.2)) = true := by decide +kernel
theorem s_putc {X : pX} : SREL X pF pdfl mt_all kR zH c_putc := SREL_QC kR_x kR_0 (Cs := []) (fun C hC => by cases hC) (d := 4) rfl c_putc_f (Q := []) (fun ρ0 hv q hq => by cases hq) (fun ρ hF hI => by
  exact QC_run 160 e_putc ρ ⟨hF.1, hF.2⟩ hI)
/-! ===== a call: clearc ===== -/
noncomputable def c_clearc : sC := ((190, 417, 5), ([tr 0], [tr 219]), ([0, 203], [219]), [((0, .arg 17728, .int 1), false)], ([19232, 60096, 1292], []), (some (.arg 60096), some (.arg 60096)), [((0, .arg 19232, .int 0), true)], ([], []))
theorem c_clearc_f : cfine zH 65536 c_clearc = true := by decide +kernel
theorem e_clearc : frun kR [] (cpl1 zH c_clearc []) (cpl2 zH c_clearc []) (cleaf kR zH c_clearc []) 160 65536 (isatP (c_clearc.2.2.2.1) c_clearc.2.2.2.2.2.2.2.1) c_clearc.2.2.2.2.2.2.2.1 (sin0 mt_all c_clearc.1.1 4 c_clearc.2.1.1 (foot zH c_clearc.2.2.1.1)) (sin0 mt_all c_clearc.1.2.1 4 c_clearc.2.1.2 (foot zH c_clearc.2.2.1.2)) = true := by decide +kernel
theorem s_clearc {X : pX} : SREL X pF pdfl mt_all kR zH c_clearc := SREL_QC kR_x kR_0 (Cs := []) (fun C hC => by cases hC) (d := 4) rfl c_clearc_f (Q := []) (fun ρ0 hv q hq => by cases hq) (fun ρ hF hI => by
  exact QC_run 160 e_clearc ρ ⟨hF.1, hF.2⟩ hI)
/-! ===== a call: bufc ===== -/
noncomputable def c_bufc : sC := ((193, 420, 5), ([tr 0, .arg 60032], [tr 219, .arg 60032]), ([0, 203, 204], [219, 335]), [], ([19232, 60096], []), (some (.arg 60096), some (.arg 60096)), [((0, .arg 19232, .int 0), true)], ([], []))
theorem c_bufc_f : cfine zH 65536 c_bufc = true := by decide +kernel
theorem e_bufc : frun kR [] (cpl1 zH c_bufc []) (cpl2 zH c_bufc []) (cleaf kR zH c_bufc []) 160 65536 (isatP (c_bufc.2.2.2.1) c_bufc.2.2.2.2.2.2.2.1) c_bufc.2.2.2.2.2.2.2.1 (sin0 mt_all c_bufc.1.1 4 c_bufc.2.1.1 (foot zH c_bufc.2.2.1.1)) (sin0 mt_all c_bufc.1.2.1 4 c_bufc.2.1.2 (foot zH c_bufc.2.2.1.2)) = true := by decide +kernel
theorem s_bufc {X : pX} : SREL X pF pdfl mt_all kR zH c_bufc := SREL_QC kR_x kR_0 (Cs := []) (fun C hC => by cases hC) (d := 4) rfl c_bufc_f (Q := []) (fun ρ0 hv q hq => by cases hq) (fun ρ hF hI => by
  exact QC_run 160 e_bufc ρ ⟨hF.1, hF.2⟩ hI)
/-! ===== a call: countc ===== -/
noncomputable def c_countc : sC := ((199, 423, 5), ([tr 0, .arg 60028], [tr 219, .arg 60028]), ([0, 2], [219]), [], ([19232, 60096], []), (some (.arg 60096), some (.arg 60096)), [((0, .arg 19232, .int 0), true)], ([], []))
theorem c_countc_f : cfine zH 65536 c_countc = true := by decide +kernel
theorem e_countc_0 : frun kR [] (cpl1 zH c_countc []) (cpl2 zH c_countc []) (cleaf kR zH c_countc []) 160 65536 (isatP (((0, .arg 60028, .int 0), true) :: c_countc.2.2.2.1) c_countc.2.2.2.2.2.2.2.1) c_countc.2.2.2.2.2.2.2.1 (sin0 mt_all c_countc.1.1 4 c_countc.2.1.1 (foot zH c_countc.2.2.1.1)) (sin0 mt_all c_countc.1.2.1 4 c_countc.2.1.2 (foot zH c_countc.2.2.1.2)) = true := by decide +kernel
theorem e_countc_1 : frun kR [] (cpl1 zH c_countc []) (cpl2 zH c_countc []) (cleaf kR zH c_countc []) 160 65536 (isatP (((0, .arg 60028, .int 1), true) :: c_countc.2.2.2.1) c_countc.2.2.2.2.2.2.2.1) c_countc.2.2.2.2.2.2.2.1 (sin0 mt_all c_countc.1.1 4 c_countc.2.1.1 (foot zH c_countc.2.2.1.1)) (sin0 mt_all c_countc.1.2.1 4 c_countc.2.1.2 (foot zH c_countc.2.2.1.2)) = true := by decide +kernel
theorem e_countc_2 : frun kR [] (cpl1 zH c_countc []) (cpl2 zH c_countc []) (cleaf kR zH c_countc []) 160 65536 (isatP (((0, .arg 60028, .int 2), true) :: c_countc.2.2.2.1) c_countc.2.2.2.2.2.2.2.1) c_countc.2.2.2.2.2.2.2.1 (sin0 mt_all c_countc.1.1 4 c_countc.2.1.1 (foot zH c_countc.2.2.1.1)) (sin0 mt_all c_countc.1.2.1 4 c_countc.2.1.2 (foot zH c_countc.2.2.1.2)) = true := by decide +kernel
theorem e_countc_3 : frun kR [] (cpl1 zH c_countc []) (cpl2 zH c_countc []) (cleaf kR zH c_countc []) 160 65536 (isatP (((0, .arg 60028, .int 3), true) :: c_countc.2.2.2.1) c_countc.2.2.2.2.2.2.2.1) c_countc.2.2.2.2.2.2.2.1 (sin0 mt_all c_countc.1.1 4 c_countc.2.1.1 (foot zH c_countc.2.2.1.1)) (sin0 mt_all c_countc.1.2.1 4 c_countc.2.1.2 (foot zH c_countc.2.2.1.2)) = true := by decide +kernel
theorem s_countc {X : pX} : SREL X pF pdfl mt_all kR zH c_countc := SREL_QC kR_x kR_0 (Cs := []) (fun C hC => by cases hC) (d := 4) rfl c_countc_f (Q := []) (fun ρ0 hv q hq => by cases hq) (fun ρ hF hI => by
  have r60028 : 0 ≤ (ρ.1 60028).toInt ∧ (ρ.1 60028).toInt ≤ 3 := hF.1.1 60028 (0, 3) rfl
  rcases (show (ρ.1 60028).toInt = 0 ∨ (ρ.1 60028).toInt = 1 ∨ (ρ.1 60028).toInt = 2 ∨ (ρ.1 60028).toInt = 3 by omega) with g | g | g | g
  · have h60028 : ρ.1 60028 = 0 := Int32.toInt_inj.mp g
    exact QC_run 160 e_countc_0 ρ ⟨hF.1, fcn (decide_eq_true h60028) (hF.2)⟩ hI
  · have h60028 : ρ.1 60028 = 1 := Int32.toInt_inj.mp g
    exact QC_run 160 e_countc_1 ρ ⟨hF.1, fcn (decide_eq_true h60028) (hF.2)⟩ hI
  · have h60028 : ρ.1 60028 = 2 := Int32.toInt_inj.mp g
    exact QC_run 160 e_countc_2 ρ ⟨hF.1, fcn (decide_eq_true h60028) (hF.2)⟩ hI
  · have h60028 : ρ.1 60028 = 3 := Int32.toInt_inj.mp g
    exact QC_run 160 e_countc_3 ρ ⟨hF.1, fcn (decide_eq_true h60028) (hF.2)⟩ hI)
/-! ===== a call: heardc ===== -/
noncomputable def c_heardc : sC := ((197, 421, 5), ([tr 0, .arg 60028, .arg 60002], [tr 219, .arg 60028, .arg 60002]), ([0, 205, 206, 207], [219, 346, 347]), [], ([19232, 60096], []), (some (.arg 60096), some (.arg 60096)), [((0, .arg 19232, .int 0), true)], ([], []))
theorem c_heardc_f : cfine zH 65536 c_heardc = true := by decide +kernel
theorem e_heardc_0_0 : frun kR [] (cpl1 zH c_heardc []) (cpl2 zH c_heardc []) (cleaf kR zH c_heardc []) 160 65536 (isatP (((0, .arg 60002, .int 0), true) :: ((0, .arg 60028, .int 0), true) :: c_heardc.2.2.2.1) c_heardc.2.2.2.2.2.2.2.1) c_heardc.2.2.2.2.2.2.2.1 (sin0 mt_all c_heardc.1.1 4 c_heardc.2.1.1 (foot zH c_heardc.2.2.1.1)) (sin0 mt_all c_heardc.1.2.1 4 c_heardc.2.1.2 (foot zH c_heardc.2.2.1.2)) = true := by decide +kernel
theorem e_heardc_0_1 : frun kR [] (cpl1 zH c_heardc []) (cpl2 zH c_heardc []) (cleaf kR zH c_heardc []) 160 65536 (isatP (((0, .arg 60002, .int 1), true) :: ((0, .arg 60028, .int 0), true) :: c_heardc.2.2.2.1) c_heardc.2.2.2.2.2.2.2.1) c_heardc.2.2.2.2.2.2.2.1 (sin0 mt_all c_heardc.1.1 4 c_heardc.2.1.1 (foot zH c_heardc.2.2.1.1)) (sin0 mt_all c_heardc.1.2.1 4 c_heardc.2.1.2 (foot zH c_heardc.2.2.1.2)) = true := by decide +kernel
theorem e_heardc_1_0 : frun kR [] (cpl1 zH c_heardc []) (cpl2 zH c_heardc []) (cleaf kR zH c_heardc []) 160 65536 (isatP (((0, .arg 60002, .int 0), true) :: ((0, .arg 60028, .int 1), true) :: c_heardc.2.2.2.1) c_heardc.2.2.2.2.2.2.2.1) c_heardc.2.2.2.2.2.2.2.1 (sin0 mt_all c_heardc.1.1 4 c_heardc.2.1.1 (foot zH c_heardc.2.2.1.1)) (sin0 mt_all c_heardc.1.2.1 4 c_heardc.2.1.2 (foot zH c_heardc.2.2.1.2)) = true := by decide +kernel
theorem e_heardc_1_1 : frun kR [] (cpl1 zH c_heardc []) (cpl2 zH c_heardc []) (cleaf kR zH c_heardc []) 160 65536 (isatP (((0, .arg 60002, .int 1), true) :: ((0, .arg 60028, .int 1), true) :: c_heardc.2.2.2.1) c_heardc.2.2.2.2.2.2.2.1) c_heardc.2.2.2.2.2.2.2.1 (sin0 mt_all c_heardc.1.1 4 c_heardc.2.1.1 (foot zH c_heardc.2.2.1.1)) (sin0 mt_all c_heardc.1.2.1 4 c_heardc.2.1.2 (foot zH c_heardc.2.2.1.2)) = true := by decide +kernel
theorem e_heardc_2_0 : frun kR [] (cpl1 zH c_heardc []) (cpl2 zH c_heardc []) (cleaf kR zH c_heardc []) 160 65536 (isatP (((0, .arg 60002, .int 0), true) :: ((0, .arg 60028, .int 2), true) :: c_heardc.2.2.2.1) c_heardc.2.2.2.2.2.2.2.1) c_heardc.2.2.2.2.2.2.2.1 (sin0 mt_all c_heardc.1.1 4 c_heardc.2.1.1 (foot zH c_heardc.2.2.1.1)) (sin0 mt_all c_heardc.1.2.1 4 c_heardc.2.1.2 (foot zH c_heardc.2.2.1.2)) = true := by decide +kernel
theorem e_heardc_2_1 : frun kR [] (cpl1 zH c_heardc []) (cpl2 zH c_heardc []) (cleaf kR zH c_heardc []) 160 65536 (isatP (((0, .arg 60002, .int 1), true) :: ((0, .arg 60028, .int 2), true) :: c_heardc.2.2.2.1) c_heardc.2.2.2.2.2.2.2.1) c_heardc.2.2.2.2.2.2.2.1 (sin0 mt_all c_heardc.1.1 4 c_heardc.2.1.1 (foot zH c_heardc.2.2.1.1)) (sin0 mt_all c_heardc.1.2.1 4 c_heardc.2.1.2 (foot zH c_heardc.2.2.1.2)) = true := by decide +kernel
theorem e_heardc_3_0 : frun kR [] (cpl1 zH c_heardc []) (cpl2 zH c_heardc []) (cleaf kR zH c_heardc []) 160 65536 (isatP (((0, .arg 60002, .int 0), true) :: ((0, .arg 60028, .int 3), true) :: c_heardc.2.2.2.1) c_heardc.2.2.2.2.2.2.2.1) c_heardc.2.2.2.2.2.2.2.1 (sin0 mt_all c_heardc.1.1 4 c_heardc.2.1.1 (foot zH c_heardc.2.2.1.1)) (sin0 mt_all c_heardc.1.2.1 4 c_heardc.2.1.2 (foot zH c_heardc.2.2.1.2)) = true := by decide +kernel
theorem e_heardc_3_1 : frun kR [] (cpl1 zH c_heardc []) (cpl2 zH c_heardc []) (cleaf kR zH c_heardc []) 160 65536 (isatP (((0, .arg 60002, .int 1), true) :: ((0, .arg 60028, .int 3), true) :: c_heardc.2.2.2.1) c_heardc.2.2.2.2.2.2.2.1) c_heardc.2.2.2.2.2.2.2.1 (sin0 mt_all c_heardc.1.1 4 c_heardc.2.1.1 (foot zH c_heardc.2.2.1.1)) (sin0 mt_all c_heardc.1.2.1 4 c_heardc.2.1.2 (foot zH c_heardc.2.2.1.2)) = true := by decide +kernel
theorem s_heardc {X : pX} : SREL X pF pdfl mt_all kR zH c_heardc := SREL_QC kR_x kR_0 (Cs := []) (fun C hC => by cases hC) (d := 4) rfl c_heardc_f (Q := []) (fun ρ0 hv q hq => by cases hq) (fun ρ hF hI => by
  have r60028 : 0 ≤ (ρ.1 60028).toInt ∧ (ρ.1 60028).toInt ≤ 3 := hF.1.1 60028 (0, 3) rfl
  rcases (show (ρ.1 60028).toInt = 0 ∨ (ρ.1 60028).toInt = 1 ∨ (ρ.1 60028).toInt = 2 ∨ (ρ.1 60028).toInt = 3 by omega) with g | g | g | g
  · have h60028 : ρ.1 60028 = 0 := Int32.toInt_inj.mp g
    have r60002 : 0 ≤ (ρ.1 60002).toInt ∧ (ρ.1 60002).toInt ≤ 1 := hF.1.1 60002 (0, 1) rfl
    rcases (show (ρ.1 60002).toInt = 0 ∨ (ρ.1 60002).toInt = 1 by omega) with g | g
    · have h60002 : ρ.1 60002 = 0 := Int32.toInt_inj.mp g
      exact QC_run 160 e_heardc_0_0 ρ ⟨hF.1, fcn (decide_eq_true h60002) (fcn (decide_eq_true h60028) (hF.2))⟩ hI
    · have h60002 : ρ.1 60002 = 1 := Int32.toInt_inj.mp g
      exact QC_run 160 e_heardc_0_1 ρ ⟨hF.1, fcn (decide_eq_true h60002) (fcn (decide_eq_true h60028) (hF.2))⟩ hI
  · have h60028 : ρ.1 60028 = 1 := Int32.toInt_inj.mp g
    have r60002 : 0 ≤ (ρ.1 60002).toInt ∧ (ρ.1 60002).toInt ≤ 1 := hF.1.1 60002 (0, 1) rfl
    rcases (show (ρ.1 60002).toInt = 0 ∨ (ρ.1 60002).toInt = 1 by omega) with g | g
    · have h60002 : ρ.1 60002 = 0 := Int32.toInt_inj.mp g
      exact QC_run 160 e_heardc_1_0 ρ ⟨hF.1, fcn (decide_eq_true h60002) (fcn (decide_eq_true h60028) (hF.2))⟩ hI
    · have h60002 : ρ.1 60002 = 1 := Int32.toInt_inj.mp g
      exact QC_run 160 e_heardc_1_1 ρ ⟨hF.1, fcn (decide_eq_true h60002) (fcn (decide_eq_true h60028) (hF.2))⟩ hI
  · have h60028 : ρ.1 60028 = 2 := Int32.toInt_inj.mp g
    have r60002 : 0 ≤ (ρ.1 60002).toInt ∧ (ρ.1 60002).toInt ≤ 1 := hF.1.1 60002 (0, 1) rfl
    rcases (show (ρ.1 60002).toInt = 0 ∨ (ρ.1 60002).toInt = 1 by omega) with g | g
    · have h60002 : ρ.1 60002 = 0 := Int32.toInt_inj.mp g
      exact QC_run 160 e_heardc_2_0 ρ ⟨hF.1, fcn (decide_eq_true h60002) (fcn (decide_eq_true h60028) (hF.2))⟩ hI
    · have h60002 : ρ.1 60002 = 1 := Int32.toInt_inj.mp g
      exact QC_run 160 e_heardc_2_1 ρ ⟨hF.1, fcn (decide_eq_true h60002) (fcn (decide_eq_true h60028) (hF.2))⟩ hI
  · have h60028 : ρ.1 60028 = 3 := Int32.toInt_inj.mp g
    have r60002 : 0 ≤ (ρ.1 60002).toInt ∧ (ρ.1 60002).toInt ≤ 1 := hF.1.1 60002 (0, 1) rfl
    rcases (show (ρ.1 60002).toInt = 0 ∨ (ρ.1 60002).toInt = 1 by omega) with g | g
    · have h60002 : ρ.1 60002 = 0 := Int32.toInt_inj.mp g
      exact QC_run 160 e_heardc_3_0 ρ ⟨hF.1, fcn (decide_eq_true h60002) (fcn (decide_eq_true h60028) (hF.2))⟩ hI
    · have h60002 : ρ.1 60002 = 1 := Int32.toInt_inj.mp g
      exact QC_run 160 e_heardc_3_1 ρ ⟨hF.1, fcn (decide_eq_true h60002) (fcn (decide_eq_true h60028) (hF.2))⟩ hI)
/-! ===== a call: plannedc ===== -/
noncomputable def c_plannedc : sC := ((196, 398, 5), ([tr 0, .arg 60028, .arg 60030], [tr 219, .arg 60028, .arg 60030]), ([0, 205, 209, 212, 213, 214], [219, 336, 339, 340, 341]), [], ([19232, 60096], []), (some (.arg 60096), some (.arg 60096)), [((0, .arg 19232, .int 0), true)], ([], []))
theorem c_plannedc_f : cfine zH 65536 c_plannedc = true := by decide +kernel
theorem e_plannedc_0_0 : frun kR [] (cpl1 zH c_plannedc []) (cpl2 zH c_plannedc []) (cleaf kR zH c_plannedc []) 160 65536 (isatP (((0, .arg 60030, .int 0), true) :: ((0, .arg 60028, .int 0), true) :: c_plannedc.2.2.2.1) c_plannedc.2.2.2.2.2.2.2.1) c_plannedc.2.2.2.2.2.2.2.1 (sin0 mt_all c_plannedc.1.1 4 c_plannedc.2.1.1 (foot zH c_plannedc.2.2.1.1)) (sin0 mt_all c_plannedc.1.2.1 4 c_plannedc.2.1.2 (foot zH c_plannedc.2.2.1.2)) = true := by decide +kernel
theorem e_plannedc_0_1 : frun kR [] (cpl1 zH c_plannedc []) (cpl2 zH c_plannedc []) (cleaf kR zH c_plannedc []) 160 65536 (isatP (((0, .arg 60030, .int 1), true) :: ((0, .arg 60028, .int 0), true) :: c_plannedc.2.2.2.1) c_plannedc.2.2.2.2.2.2.2.1) c_plannedc.2.2.2.2.2.2.2.1 (sin0 mt_all c_plannedc.1.1 4 c_plannedc.2.1.1 (foot zH c_plannedc.2.2.1.1)) (sin0 mt_all c_plannedc.1.2.1 4 c_plannedc.2.1.2 (foot zH c_plannedc.2.2.1.2)) = true := by decide +kernel
theorem e_plannedc_0_2 : frun kR [] (cpl1 zH c_plannedc []) (cpl2 zH c_plannedc []) (cleaf kR zH c_plannedc []) 160 65536 (isatP (((0, .arg 60030, .int 2), true) :: ((0, .arg 60028, .int 0), true) :: c_plannedc.2.2.2.1) c_plannedc.2.2.2.2.2.2.2.1) c_plannedc.2.2.2.2.2.2.2.1 (sin0 mt_all c_plannedc.1.1 4 c_plannedc.2.1.1 (foot zH c_plannedc.2.2.1.1)) (sin0 mt_all c_plannedc.1.2.1 4 c_plannedc.2.1.2 (foot zH c_plannedc.2.2.1.2)) = true := by decide +kernel
theorem e_plannedc_0_3 : frun kR [] (cpl1 zH c_plannedc []) (cpl2 zH c_plannedc []) (cleaf kR zH c_plannedc []) 160 65536 (isatP (((0, .arg 60030, .int 3), true) :: ((0, .arg 60028, .int 0), true) :: c_plannedc.2.2.2.1) c_plannedc.2.2.2.2.2.2.2.1) c_plannedc.2.2.2.2.2.2.2.1 (sin0 mt_all c_plannedc.1.1 4 c_plannedc.2.1.1 (foot zH c_plannedc.2.2.1.1)) (sin0 mt_all c_plannedc.1.2.1 4 c_plannedc.2.1.2 (foot zH c_plannedc.2.2.1.2)) = true := by decide +kernel
theorem e_plannedc_0_4 : frun kR [] (cpl1 zH c_plannedc []) (cpl2 zH c_plannedc []) (cleaf kR zH c_plannedc []) 160 65536 (isatP (((0, .arg 60030, .int 4), true) :: ((0, .arg 60028, .int 0), true) :: c_plannedc.2.2.2.1) c_plannedc.2.2.2.2.2.2.2.1) c_plannedc.2.2.2.2.2.2.2.1 (sin0 mt_all c_plannedc.1.1 4 c_plannedc.2.1.1 (foot zH c_plannedc.2.2.1.1)) (sin0 mt_all c_plannedc.1.2.1 4 c_plannedc.2.1.2 (foot zH c_plannedc.2.2.1.2)) = true := by decide +kernel
theorem e_plannedc_1_0 : frun kR [] (cpl1 zH c_plannedc []) (cpl2 zH c_plannedc []) (cleaf kR zH c_plannedc []) 160 65536 (isatP (((0, .arg 60030, .int 0), true) :: ((0, .arg 60028, .int 1), true) :: c_plannedc.2.2.2.1) c_plannedc.2.2.2.2.2.2.2.1) c_plannedc.2.2.2.2.2.2.2.1 (sin0 mt_all c_plannedc.1.1 4 c_plannedc.2.1.1 (foot zH c_plannedc.2.2.1.1)) (sin0 mt_all c_plannedc.1.2.1 4 c_plannedc.2.1.2 (foot zH c_plannedc.2.2.1.2)) = true := by decide +kernel
theorem e_plannedc_1_1 : frun kR [] (cpl1 zH c_plannedc []) (cpl2 zH c_plannedc []) (cleaf kR zH c_plannedc []) 160 65536 (isatP (((0, .arg 60030, .int 1), true) :: ((0, .arg 60028, .int 1), true) :: c_plannedc.2.2.2.1) c_plannedc.2.2.2.2.2.2.2.1) c_plannedc.2.2.2.2.2.2.2.1 (sin0 mt_all c_plannedc.1.1 4 c_plannedc.2.1.1 (foot zH c_plannedc.2.2.1.1)) (sin0 mt_all c_plannedc.1.2.1 4 c_plannedc.2.1.2 (foot zH c_plannedc.2.2.1.2)) = true := by decide +kernel
theorem e_plannedc_1_2 : frun kR [] (cpl1 zH c_plannedc []) (cpl2 zH c_plannedc []) (cleaf kR zH c_plannedc []) 160 65536 (isatP (((0, .arg 60030, .int 2), true) :: ((0, .arg 60028, .int 1), true) :: c_plannedc.2.2.2.1) c_plannedc.2.2.2.2.2.2.2.1) c_plannedc.2.2.2.2.2.2.2.1 (sin0 mt_all c_plannedc.1.1 4 c_plannedc.2.1.1 (foot zH c_plannedc.2.2.1.1)) (sin0 mt_all c_plannedc.1.2.1 4 c_plannedc.2.1.2 (foot zH c_plannedc.2.2.1.2)) = true := by decide +kernel
theorem e_plannedc_1_3 : frun kR [] (cpl1 zH c_plannedc []) (cpl2 zH c_plannedc []) (cleaf kR zH c_plannedc []) 160 65536 (isatP (((0, .arg 60030, .int 3), true) :: ((0, .arg 60028, .int 1), true) :: c_plannedc.2.2.2.1) c_plannedc.2.2.2.2.2.2.2.1) c_plannedc.2.2.2.2.2.2.2.1 (sin0 mt_all c_plannedc.1.1 4 c_plannedc.2.1.1 (foot zH c_plannedc.2.2.1.1)) (sin0 mt_all c_plannedc.1.2.1 4 c_plannedc.2.1.2 (foot zH c_plannedc.2.2.1.2)) = true := by decide +kernel
theorem e_plannedc_1_4 : frun kR [] (cpl1 zH c_plannedc []) (cpl2 zH c_plannedc []) (cleaf kR zH c_plannedc []) 160 65536 (isatP (((0, .arg 60030, .int 4), true) :: ((0, .arg 60028, .int 1), true) :: c_plannedc.2.2.2.1) c_plannedc.2.2.2.2.2.2.2.1) c_plannedc.2.2.2.2.2.2.2.1 (sin0 mt_all c_plannedc.1.1 4 c_plannedc.2.1.1 (foot zH c_plannedc.2.2.1.1)) (sin0 mt_all c_plannedc.1.2.1 4 c_plannedc.2.1.2 (foot zH c_plannedc.2.2.1.2)) = true := by decide +kernel
theorem e_plannedc_2_0 : frun kR [] (cpl1 zH c_plannedc []) (cpl2 zH c_plannedc []) (cleaf kR zH c_plannedc []) 160 65536 (isatP (((0, .arg 60030, .int 0), true) :: ((0, .arg 60028, .int 2), true) :: c_plannedc.2.2.2.1) c_plannedc.2.2.2.2.2.2.2.1) c_plannedc.2.2.2.2.2.2.2.1 (sin0 mt_all c_plannedc.1.1 4 c_plannedc.2.1.1 (foot zH c_plannedc.2.2.1.1)) (sin0 mt_all c_plannedc.1.2.1 4 c_plannedc.2.1.2 (foot zH c_plannedc.2.2.1.2)) = true := by decide +kernel
theorem e_plannedc_2_1 : frun kR [] (cpl1 zH c_plannedc []) (cpl2 zH c_plannedc []) (cleaf kR zH c_plannedc []) 160 65536 (isatP (((0, .arg 60030, .int 1), true) :: ((0, .arg 60028, .int 2), true) :: c_plannedc.2.2.2.1) c_plannedc.2.2.2.2.2.2.2.1) c_plannedc.2.2.2.2.2.2.2.1 (sin0 mt_all c_plannedc.1.1 4 c_plannedc.2.1.1 (foot zH c_plannedc.2.2.1.1)) (sin0 mt_all c_plannedc.1.2.1 4 c_plannedc.2.1.2 (foot zH c_plannedc.2.2.1.2)) = true := by decide +kernel
theorem e_plannedc_2_2 : frun kR [] (cpl1 zH c_plannedc []) (cpl2 zH c_plannedc []) (cleaf kR zH c_plannedc []) 160 65536 (isatP (((0, .arg 60030, .int 2), true) :: ((0, .arg 60028, .int 2), true) :: c_plannedc.2.2.2.1) c_plannedc.2.2.2.2.2.2.2.1) c_plannedc.2.2.2.2.2.2.2.1 (sin0 mt_all c_plannedc.1.1 4 c_plannedc.2.1.1 (foot zH c_plannedc.2.2.1.1)) (sin0 mt_all c_plannedc.1.2.1 4 c_plannedc.2.1.2 (foot zH c_plannedc.2.2.1.2)) = true := by decide +kernel
theorem e_plannedc_2_3 : frun kR [] (cpl1 zH c_plannedc []) (cpl2 zH c_plannedc []) (cleaf kR zH c_plannedc []) 160 65536 (isatP (((0, .arg 60030, .int 3), true) :: ((0, .arg 60028, .int 2), true) :: c_plannedc.2.2.2.1) c_plannedc.2.2.2.2.2.2.2.1) c_plannedc.2.2.2.2.2.2.2.1 (sin0 mt_all c_plannedc.1.1 4 c_plannedc.2.1.1 (foot zH c_plannedc.2.2.1.1)) (sin0 mt_all c_plannedc.1.2.1 4 c_plannedc.2.1.2 (foot zH c_plannedc.2.2.1.2)) = true := by decide +kernel
theorem e_plannedc_2_4 : frun kR [] (cpl1 zH c_plannedc []) (cpl2 zH c_plannedc []) (cleaf kR zH c_plannedc []) 160 65536 (isatP (((0, .arg 60030, .int 4), true) :: ((0, .arg 60028, .int 2), true) :: c_plannedc.2.2.2.1) c_plannedc.2.2.2.2.2.2.2.1) c_plannedc.2.2.2.2.2.2.2.1 (sin0 mt_all c_plannedc.1.1 4 c_plannedc.2.1.1 (foot zH c_plannedc.2.2.1.1)) (sin0 mt_all c_plannedc.1.2.1 4 c_plannedc.2.1.2 (foot zH c_plannedc.2.2.1.2)) = true := by decide +kernel
theorem e_plannedc_3_0 : frun kR [] (cpl1 zH c_plannedc []) (cpl2 zH c_plannedc []) (cleaf kR zH c_plannedc []) 160 65536 (isatP (((0, .arg 60030, .int 0), true) :: ((0, .arg 60028, .int 3), true) :: c_plannedc.2.2.2.1) c_plannedc.2.2.2.2.2.2.2.1) c_plannedc.2.2.2.2.2.2.2.1 (sin0 mt_all c_plannedc.1.1 4 c_plannedc.2.1.1 (foot zH c_plannedc.2.2.1.1)) (sin0 mt_all c_plannedc.1.2.1 4 c_plannedc.2.1.2 (foot zH c_plannedc.2.2.1.2)) = true := by decide +kernel
theorem e_plannedc_3_1 : frun kR [] (cpl1 zH c_plannedc []) (cpl2 zH c_plannedc []) (cleaf kR zH c_plannedc []) 160 65536 (isatP (((0, .arg 60030, .int 1), true) :: ((0, .arg 60028, .int 3), true) :: c_plannedc.2.2.2.1) c_plannedc.2.2.2.2.2.2.2.1) c_plannedc.2.2.2.2.2.2.2.1 (sin0 mt_all c_plannedc.1.1 4 c_plannedc.2.1.1 (foot zH c_plannedc.2.2.1.1)) (sin0 mt_all c_plannedc.1.2.1 4 c_plannedc.2.1.2 (foot zH c_plannedc.2.2.1.2)) = true := by decide +kernel
theorem e_plannedc_3_2 : frun kR [] (cpl1 zH c_plannedc []) (cpl2 zH c_plannedc []) (cleaf kR zH c_plannedc []) 160 65536 (isatP (((0, .arg 60030, .int 2), true) :: ((0, .arg 60028, .int 3), true) :: c_plannedc.2.2.2.1) c_plannedc.2.2.2.2.2.2.2.1) c_plannedc.2.2.2.2.2.2.2.1 (sin0 mt_all c_plannedc.1.1 4 c_plannedc.2.1.1 (foot zH c_plannedc.2.2.1.1)) (sin0 mt_all c_plannedc.1.2.1 4 c_plannedc.2.1.2 (foot zH c_plannedc.2.2.1.2)) = true := by decide +kernel
theorem e_plannedc_3_3 : frun kR [] (cpl1 zH c_plannedc []) (cpl2 zH c_plannedc []) (cleaf kR zH c_plannedc []) 160 65536 (isatP (((0, .arg 60030, .int 3), true) :: ((0, .arg 60028, .int 3), true) :: c_plannedc.2.2.2.1) c_plannedc.2.2.2.2.2.2.2.1) c_plannedc.2.2.2.2.2.2.2.1 (sin0 mt_all c_plannedc.1.1 4 c_plannedc.2.1.1 (foot zH c_plannedc.2.2.1.1)) (sin0 mt_all c_plannedc.1.2.1 4 c_plannedc.2.1.2 (foot zH c_plannedc.2.2.1.2)) = true := by decide +kernel
theorem e_plannedc_3_4 : frun kR [] (cpl1 zH c_plannedc []) (cpl2 zH c_plannedc []) (cleaf kR zH c_plannedc []) 160 65536 (isatP (((0, .arg 60030, .int 4), true) :: ((0, .arg 60028, .int 3), true) :: c_plannedc.2.2.2.1) c_plannedc.2.2.2.2.2.2.2.1) c_plannedc.2.2.2.2.2.2.2.1 (sin0 mt_all c_plannedc.1.1 4 c_plannedc.2.1.1 (foot zH c_plannedc.2.2.1.1)) (sin0 mt_all c_plannedc.1.2.1 4 c_plannedc.2.1.2 (foot zH c_plannedc.2.2.1.2)) = true := by decide +kernel
theorem s_plannedc {X : pX} : SREL X pF pdfl mt_all kR zH c_plannedc := SREL_QC kR_x kR_0 (Cs := []) (fun C hC => by cases hC) (d := 4) rfl c_plannedc_f (Q := []) (fun ρ0 hv q hq => by cases hq) (fun ρ hF hI => by
  have r60028 : 0 ≤ (ρ.1 60028).toInt ∧ (ρ.1 60028).toInt ≤ 3 := hF.1.1 60028 (0, 3) rfl
  rcases (show (ρ.1 60028).toInt = 0 ∨ (ρ.1 60028).toInt = 1 ∨ (ρ.1 60028).toInt = 2 ∨ (ρ.1 60028).toInt = 3 by omega) with g | g | g | g
  · have h60028 : ρ.1 60028 = 0 := Int32.toInt_inj.mp g
    have r60030 : 0 ≤ (ρ.1 60030).toInt ∧ (ρ.1 60030).toInt ≤ 4 := hF.1.1 60030 (0, 4) rfl
    rcases (show (ρ.1 60030).toInt = 0 ∨ (ρ.1 60030).toInt = 1 ∨ (ρ.1 60030).toInt = 2 ∨ (ρ.1 60030).toInt = 3 ∨ (ρ.1 60030).toInt = 4 by omega) with g | g | g | g | g
    · have h60030 : ρ.1 60030 = 0 := Int32.toInt_inj.mp g
      exact QC_run 160 e_plannedc_0_0 ρ ⟨hF.1, fcn (decide_eq_true h60030) (fcn (decide_eq_true h60028) (hF.2))⟩ hI
    · have h60030 : ρ.1 60030 = 1 := Int32.toInt_inj.mp g
      exact QC_run 160 e_plannedc_0_1 ρ ⟨hF.1, fcn (decide_eq_true h60030) (fcn (decide_eq_true h60028) (hF.2))⟩ hI
    · have h60030 : ρ.1 60030 = 2 := Int32.toInt_inj.mp g
      exact QC_run 160 e_plannedc_0_2 ρ ⟨hF.1, fcn (decide_eq_true h60030) (fcn (decide_eq_true h60028) (hF.2))⟩ hI
    · have h60030 : ρ.1 60030 = 3 := Int32.toInt_inj.mp g
      exact QC_run 160 e_plannedc_0_3 ρ ⟨hF.1, fcn (decide_eq_true h60030) (fcn (decide_eq_true h60028) (hF.2))⟩ hI
    · have h60030 : ρ.1 60030 = 4 := Int32.toInt_inj.mp g
      exact QC_run 160 e_plannedc_0_4 ρ ⟨hF.1, fcn (decide_eq_true h60030) (fcn (decide_eq_true h60028) (hF.2))⟩ hI
  · have h60028 : ρ.1 60028 = 1 := Int32.toInt_inj.mp g
    have r60030 : 0 ≤ (ρ.1 60030).toInt ∧ (ρ.1 60030).toInt ≤ 4 := hF.1.1 60030 (0, 4) rfl
    rcases (show (ρ.1 60030).toInt = 0 ∨ (ρ.1 60030).toInt = 1 ∨ (ρ.1 60030).toInt = 2 ∨ (ρ.1 60030).toInt = 3 ∨ (ρ.1 60030).toInt = 4 by omega) with g | g | g | g | g
    · have h60030 : ρ.1 60030 = 0 := Int32.toInt_inj.mp g
      exact QC_run 160 e_plannedc_1_0 ρ ⟨hF.1, fcn (decide_eq_true h60030) (fcn (decide_eq_true h60028) (hF.2))⟩ hI
    · have h60030 : ρ.1 60030 = 1 := Int32.toInt_inj.mp g
      exact QC_run 160 e_plannedc_1_1 ρ ⟨hF.1, fcn (decide_eq_true h60030) (fcn (decide_eq_true h60028) (hF.2))⟩ hI
    · have h60030 : ρ.1 60030 = 2 := Int32.toInt_inj.mp g
      exact QC_run 160 e_plannedc_1_2 ρ ⟨hF.1, fcn (decide_eq_true h60030) (fcn (decide_eq_true h60028) (hF.2))⟩ hI
    · have h60030 : ρ.1 60030 = 3 := Int32.toInt_inj.mp g
      exact QC_run 160 e_plannedc_1_3 ρ ⟨hF.1, fcn (decide_eq_true h60030) (fcn (decide_eq_true h60028) (hF.2))⟩ hI
    · have h60030 : ρ.1 60030 = 4 := Int32.toInt_inj.mp g
      exact QC_run 160 e_plannedc_1_4 ρ ⟨hF.1, fcn (decide_eq_true h60030) (fcn (decide_eq_true h60028) (hF.2))⟩ hI
  · have h60028 : ρ.1 60028 = 2 := Int32.toInt_inj.mp g
    have r60030 : 0 ≤ (ρ.1 60030).toInt ∧ (ρ.1 60030).toInt ≤ 4 := hF.1.1 60030 (0, 4) rfl
    rcases (show (ρ.1 60030).toInt = 0 ∨ (ρ.1 60030).toInt = 1 ∨ (ρ.1 60030).toInt = 2 ∨ (ρ.1 60030).toInt = 3 ∨ (ρ.1 60030).toInt = 4 by omega) with g | g | g | g | g
    · have h60030 : ρ.1 60030 = 0 := Int32.toInt_inj.mp g
      exact QC_run 160 e_plannedc_2_0 ρ ⟨hF.1, fcn (decide_eq_true h60030) (fcn (decide_eq_true h60028) (hF.2))⟩ hI
    · have h60030 : ρ.1 60030 = 1 := Int32.toInt_inj.mp g
      exact QC_run 160 e_plannedc_2_1 ρ ⟨hF.1, fcn (decide_eq_true h60030) (fcn (decide_eq_true h60028) (hF.2))⟩ hI
    · have h60030 : ρ.1 60030 = 2 := Int32.toInt_inj.mp g
      exact QC_run 160 e_plannedc_2_2 ρ ⟨hF.1, fcn (decide_eq_true h60030) (fcn (decide_eq_true h60028) (hF.2))⟩ hI
    · have h60030 : ρ.1 60030 = 3 := Int32.toInt_inj.mp g
      exact QC_run 160 e_plannedc_2_3 ρ ⟨hF.1, fcn (decide_eq_true h60030) (fcn (decide_eq_true h60028) (hF.2))⟩ hI
    · have h60030 : ρ.1 60030 = 4 := Int32.toInt_inj.mp g
      exact QC_run 160 e_plannedc_2_4 ρ ⟨hF.1, fcn (decide_eq_true h60030) (fcn (decide_eq_true h60028) (hF.2))⟩ hI
  · have h60028 : ρ.1 60028 = 3 := Int32.toInt_inj.mp g
    have r60030 : 0 ≤ (ρ.1 60030).toInt ∧ (ρ.1 60030).toInt ≤ 4 := hF.1.1 60030 (0, 4) rfl
    rcases (show (ρ.1 60030).toInt = 0 ∨ (ρ.1 60030).toInt = 1 ∨ (ρ.1 60030).toInt = 2 ∨ (ρ.1 60030).toInt = 3 ∨ (ρ.1 60030).toInt = 4 by omega) with g | g | g | g | g
    · have h60030 : ρ.1 60030 = 0 := Int32.toInt_inj.mp g
      exact QC_run 160 e_plannedc_3_0 ρ ⟨hF.1, fcn (decide_eq_true h60030) (fcn (decide_eq_true h60028) (hF.2))⟩ hI
    · have h60030 : ρ.1 60030 = 1 := Int32.toInt_inj.mp g
      exact QC_run 160 e_plannedc_3_1 ρ ⟨hF.1, fcn (decide_eq_true h60030) (fcn (decide_eq_true h60028) (hF.2))⟩ hI
    · have h60030 : ρ.1 60030 = 2 := Int32.toInt_inj.mp g
      exact QC_run 160 e_plannedc_3_2 ρ ⟨hF.1, fcn (decide_eq_true h60030) (fcn (decide_eq_true h60028) (hF.2))⟩ hI
    · have h60030 : ρ.1 60030 = 3 := Int32.toInt_inj.mp g
      exact QC_run 160 e_plannedc_3_3 ρ ⟨hF.1, fcn (decide_eq_true h60030) (fcn (decide_eq_true h60028) (hF.2))⟩ hI
    · have h60030 : ρ.1 60030 = 4 := Int32.toInt_inj.mp g
      exact QC_run 160 e_plannedc_3_4 ρ ⟨hF.1, fcn (decide_eq_true h60030) (fcn (decide_eq_true h60028) (hF.2))⟩ hI)
/-! ===== a call: disturbc ===== -/
noncomputable def c_disturbc : sC := ((179, 404, 5), ([tr 0, .arg 60030, .arg 60032], [tr 219, .arg 60030, .arg 60032]), ([0, 2, 34], [219, 251]), [((2, .arg 60032, .int 0), false), ((2, .int 1000, .arg 60032), false)], ([19232, 60096, 2368, 2400, 2432, 2464, 2496], []), (some (.arg 60096), some (.arg 60096)), [((0, .arg 19232, .int 0), true)], ([], []))
theorem c_disturbc_f : cfine zH 65536 c_disturbc = true := by decide +kernel
theorem e_disturbc_0 : frun kR [] (cpl1 zH c_disturbc []) (cpl2 zH c_disturbc []) (cleaf kR zH c_disturbc []) 160 65536 (isatP (((0, .arg 60030, .int 0), true) :: c_disturbc.2.2.2.1) c_disturbc.2.2.2.2.2.2.2.1) c_disturbc.2.2.2.2.2.2.2.1 (sin0 mt_all c_disturbc.1.1 4 c_disturbc.2.1.1 (foot zH c_disturbc.2.2.1.1)) (sin0 mt_all c_disturbc.1.2.1 4 c_disturbc.2.1.2 (foot zH c_disturbc.2.2.1.2)) = true := by decide +kernel
theorem e_disturbc_1 : frun kR [] (cpl1 zH c_disturbc []) (cpl2 zH c_disturbc []) (cleaf kR zH c_disturbc []) 160 65536 (isatP (((0, .arg 60030, .int 1), true) :: c_disturbc.2.2.2.1) c_disturbc.2.2.2.2.2.2.2.1) c_disturbc.2.2.2.2.2.2.2.1 (sin0 mt_all c_disturbc.1.1 4 c_disturbc.2.1.1 (foot zH c_disturbc.2.2.1.1)) (sin0 mt_all c_disturbc.1.2.1 4 c_disturbc.2.1.2 (foot zH c_disturbc.2.2.1.2)) = true := by decide +kernel
theorem e_disturbc_2 : frun kR [] (cpl1 zH c_disturbc []) (cpl2 zH c_disturbc []) (cleaf kR zH c_disturbc []) 160 65536 (isatP (((0, .arg 60030, .int 2), true) :: c_disturbc.2.2.2.1) c_disturbc.2.2.2.2.2.2.2.1) c_disturbc.2.2.2.2.2.2.2.1 (sin0 mt_all c_disturbc.1.1 4 c_disturbc.2.1.1 (foot zH c_disturbc.2.2.1.1)) (sin0 mt_all c_disturbc.1.2.1 4 c_disturbc.2.1.2 (foot zH c_disturbc.2.2.1.2)) = true := by decide +kernel
theorem e_disturbc_3 : frun kR [] (cpl1 zH c_disturbc []) (cpl2 zH c_disturbc []) (cleaf kR zH c_disturbc []) 160 65536 (isatP (((0, .arg 60030, .int 3), true) :: c_disturbc.2.2.2.1) c_disturbc.2.2.2.2.2.2.2.1) c_disturbc.2.2.2.2.2.2.2.1 (sin0 mt_all c_disturbc.1.1 4 c_disturbc.2.1.1 (foot zH c_disturbc.2.2.1.1)) (sin0 mt_all c_disturbc.1.2.1 4 c_disturbc.2.1.2 (foot zH c_disturbc.2.2.1.2)) = true := by decide +kernel
theorem e_disturbc_4 : frun kR [] (cpl1 zH c_disturbc []) (cpl2 zH c_disturbc []) (cleaf kR zH c_disturbc []) 160 65536 (isatP (((0, .arg 60030, .int 4), true) :: c_disturbc.2.2.2.1) c_disturbc.2.2.2.2.2.2.2.1) c_disturbc.2.2.2.2.2.2.2.1 (sin0 mt_all c_disturbc.1.1 4 c_disturbc.2.1.1 (foot zH c_disturbc.2.2.1.1)) (sin0 mt_all c_disturbc.1.2.1 4 c_disturbc.2.1.2 (foot zH c_disturbc.2.2.1.2)) = true := by decide +kernel
theorem s_disturbc {X : pX} : SREL X pF pdfl mt_all kR zH c_disturbc := SREL_QC kR_x kR_0 (Cs := []) (fun C hC => by cases hC) (d := 4) rfl c_disturbc_f (Q := []) (fun ρ0 hv q hq => by cases hq) (fun ρ hF hI => by
  have r60030 : 0 ≤ (ρ.1 60030).toInt ∧ (ρ.1 60030).toInt ≤ 4 := hF.1.1 60030 (0, 4) rfl
  rcases (show (ρ.1 60030).toInt = 0 ∨ (ρ.1 60030).toInt = 1 ∨ (ρ.1 60030).toInt = 2 ∨ (ρ.1 60030).toInt = 3 ∨ (ρ.1 60030).toInt = 4 by omega) with g | g | g | g | g
  · have h60030 : ρ.1 60030 = 0 := Int32.toInt_inj.mp g
    exact QC_run 160 e_disturbc_0 ρ ⟨hF.1, fcn (decide_eq_true h60030) (hF.2)⟩ hI
  · have h60030 : ρ.1 60030 = 1 := Int32.toInt_inj.mp g
    exact QC_run 160 e_disturbc_1 ρ ⟨hF.1, fcn (decide_eq_true h60030) (hF.2)⟩ hI
  · have h60030 : ρ.1 60030 = 2 := Int32.toInt_inj.mp g
    exact QC_run 160 e_disturbc_2 ρ ⟨hF.1, fcn (decide_eq_true h60030) (hF.2)⟩ hI
  · have h60030 : ρ.1 60030 = 3 := Int32.toInt_inj.mp g
    exact QC_run 160 e_disturbc_3 ρ ⟨hF.1, fcn (decide_eq_true h60030) (hF.2)⟩ hI
  · have h60030 : ρ.1 60030 = 4 := Int32.toInt_inj.mp g
    exact QC_run 160 e_disturbc_4 ρ ⟨hF.1, fcn (decide_eq_true h60030) (hF.2)⟩ hI)
/-! ===== a call: stationc ===== -/
noncomputable def c_stationc : sC := ((185, 411, 5), ([tr 0, .arg 60030, .arg 60062], [tr 219, .arg 60030, .arg 60062]), ([0, 2, 30, 32, 33, 15, 34], [219, 247, 249, 250, 241, 251]), [], ([19232, 60096], []), (some (.arg 60096), some (.arg 60096)), [((0, .arg 19232, .int 0), true)], ([], []))
theorem c_stationc_f : cfine zH 65536 c_stationc = true := by decide +kernel
theorem e_stationc_0_0 : frun kR [] (cpl1 zH c_stationc []) (cpl2 zH c_stationc []) (cleaf kR zH c_stationc []) 160 65536 (isatP (((0, .arg 60062, .int 0), true) :: ((0, .arg 60030, .int 0), true) :: c_stationc.2.2.2.1) c_stationc.2.2.2.2.2.2.2.1) c_stationc.2.2.2.2.2.2.2.1 (sin0 mt_all c_stationc.1.1 4 c_stationc.2.1.1 (foot zH c_stationc.2.2.1.1)) (sin0 mt_all c_stationc.1.2.1 4 c_stationc.2.1.2 (foot zH c_stationc.2.2.1.2)) = true := by decide +kernel
theorem e_stationc_0_1 : frun kR [] (cpl1 zH c_stationc []) (cpl2 zH c_stationc []) (cleaf kR zH c_stationc []) 160 65536 (isatP (((0, .arg 60062, .int 1), true) :: ((0, .arg 60030, .int 0), true) :: c_stationc.2.2.2.1) c_stationc.2.2.2.2.2.2.2.1) c_stationc.2.2.2.2.2.2.2.1 (sin0 mt_all c_stationc.1.1 4 c_stationc.2.1.1 (foot zH c_stationc.2.2.1.1)) (sin0 mt_all c_stationc.1.2.1 4 c_stationc.2.1.2 (foot zH c_stationc.2.2.1.2)) = true := by decide +kernel
theorem e_stationc_0_2 : frun kR [] (cpl1 zH c_stationc []) (cpl2 zH c_stationc []) (cleaf kR zH c_stationc []) 160 65536 (isatP (((0, .arg 60062, .int 2), true) :: ((0, .arg 60030, .int 0), true) :: c_stationc.2.2.2.1) c_stationc.2.2.2.2.2.2.2.1) c_stationc.2.2.2.2.2.2.2.1 (sin0 mt_all c_stationc.1.1 4 c_stationc.2.1.1 (foot zH c_stationc.2.2.1.1)) (sin0 mt_all c_stationc.1.2.1 4 c_stationc.2.1.2 (foot zH c_stationc.2.2.1.2)) = true := by decide +kernel
theorem e_stationc_0_3 : frun kR [] (cpl1 zH c_stationc []) (cpl2 zH c_stationc []) (cleaf kR zH c_stationc []) 160 65536 (isatP (((0, .arg 60062, .int 3), true) :: ((0, .arg 60030, .int 0), true) :: c_stationc.2.2.2.1) c_stationc.2.2.2.2.2.2.2.1) c_stationc.2.2.2.2.2.2.2.1 (sin0 mt_all c_stationc.1.1 4 c_stationc.2.1.1 (foot zH c_stationc.2.2.1.1)) (sin0 mt_all c_stationc.1.2.1 4 c_stationc.2.1.2 (foot zH c_stationc.2.2.1.2)) = true := by decide +kernel
theorem e_stationc_0_4 : frun kR [] (cpl1 zH c_stationc []) (cpl2 zH c_stationc []) (cleaf kR zH c_stationc []) 160 65536 (isatP (((0, .arg 60062, .int 4), true) :: ((0, .arg 60030, .int 0), true) :: c_stationc.2.2.2.1) c_stationc.2.2.2.2.2.2.2.1) c_stationc.2.2.2.2.2.2.2.1 (sin0 mt_all c_stationc.1.1 4 c_stationc.2.1.1 (foot zH c_stationc.2.2.1.1)) (sin0 mt_all c_stationc.1.2.1 4 c_stationc.2.1.2 (foot zH c_stationc.2.2.1.2)) = true := by decide +kernel
theorem e_stationc_1_0 : frun kR [] (cpl1 zH c_stationc []) (cpl2 zH c_stationc []) (cleaf kR zH c_stationc []) 160 65536 (isatP (((0, .arg 60062, .int 0), true) :: ((0, .arg 60030, .int 1), true) :: c_stationc.2.2.2.1) c_stationc.2.2.2.2.2.2.2.1) c_stationc.2.2.2.2.2.2.2.1 (sin0 mt_all c_stationc.1.1 4 c_stationc.2.1.1 (foot zH c_stationc.2.2.1.1)) (sin0 mt_all c_stationc.1.2.1 4 c_stationc.2.1.2 (foot zH c_stationc.2.2.1.2)) = true := by decide +kernel
theorem e_stationc_1_1 : frun kR [] (cpl1 zH c_stationc []) (cpl2 zH c_stationc []) (cleaf kR zH c_stationc []) 160 65536 (isatP (((0, .arg 60062, .int 1), true) :: ((0, .arg 60030, .int 1), true) :: c_stationc.2.2.2.1) c_stationc.2.2.2.2.2.2.2.1) c_stationc.2.2.2.2.2.2.2.1 (sin0 mt_all c_stationc.1.1 4 c_stationc.2.1.1 (foot zH c_stationc.2.2.1.1)) (sin0 mt_all c_stationc.1.2.1 4 c_stationc.2.1.2 (foot zH c_stationc.2.2.1.2)) = true := by decide +kernel
theorem e_stationc_1_2 : frun kR [] (cpl1 zH c_stationc []) (cpl2 zH c_stationc []) (cleaf kR zH c_stationc []) 160 65536 (isatP (((0, .arg 60062, .int 2), true) :: ((0, .arg 60030, .int 1), true) :: c_stationc.2.2.2.1) c_stationc.2.2.2.2.2.2.2.1) c_stationc.2.2.2.2.2.2.2.1 (sin0 mt_all c_stationc.1.1 4 c_stationc.2.1.1 (foot zH c_stationc.2.2.1.1)) (sin0 mt_all c_stationc.1.2.1 4 c_stationc.2.1.2 (foot zH c_stationc.2.2.1.2)) = true := by decide +kernel
theorem e_stationc_1_3 : frun kR [] (cpl1 zH c_stationc []) (cpl2 zH c_stationc []) (cleaf kR zH c_stationc []) 160 65536 (isatP (((0, .arg 60062, .int 3), true) :: ((0, .arg 60030, .int 1), true) :: c_stationc.2.2.2.1) c_stationc.2.2.2.2.2.2.2.1) c_stationc.2.2.2.2.2.2.2.1 (sin0 mt_all c_stationc.1.1 4 c_stationc.2.1.1 (foot zH c_stationc.2.2.1.1)) (sin0 mt_all c_stationc.1.2.1 4 c_stationc.2.1.2 (foot zH c_stationc.2.2.1.2)) = true := by decide +kernel
theorem e_stationc_1_4 : frun kR [] (cpl1 zH c_stationc []) (cpl2 zH c_stationc []) (cleaf kR zH c_stationc []) 160 65536 (isatP (((0, .arg 60062, .int 4), true) :: ((0, .arg 60030, .int 1), true) :: c_stationc.2.2.2.1) c_stationc.2.2.2.2.2.2.2.1) c_stationc.2.2.2.2.2.2.2.1 (sin0 mt_all c_stationc.1.1 4 c_stationc.2.1.1 (foot zH c_stationc.2.2.1.1)) (sin0 mt_all c_stationc.1.2.1 4 c_stationc.2.1.2 (foot zH c_stationc.2.2.1.2)) = true := by decide +kernel
theorem e_stationc_2_0 : frun kR [] (cpl1 zH c_stationc []) (cpl2 zH c_stationc []) (cleaf kR zH c_stationc []) 160 65536 (isatP (((0, .arg 60062, .int 0), true) :: ((0, .arg 60030, .int 2), true) :: c_stationc.2.2.2.1) c_stationc.2.2.2.2.2.2.2.1) c_stationc.2.2.2.2.2.2.2.1 (sin0 mt_all c_stationc.1.1 4 c_stationc.2.1.1 (foot zH c_stationc.2.2.1.1)) (sin0 mt_all c_stationc.1.2.1 4 c_stationc.2.1.2 (foot zH c_stationc.2.2.1.2)) = true := by decide +kernel
theorem e_stationc_2_1 : frun kR [] (cpl1 zH c_stationc []) (cpl2 zH c_stationc []) (cleaf kR zH c_stationc []) 160 65536 (isatP (((0, .arg 60062, .int 1), true) :: ((0, .arg 60030, .int 2), true) :: c_stationc.2.2.2.1) c_stationc.2.2.2.2.2.2.2.1) c_stationc.2.2.2.2.2.2.2.1 (sin0 mt_all c_stationc.1.1 4 c_stationc.2.1.1 (foot zH c_stationc.2.2.1.1)) (sin0 mt_all c_stationc.1.2.1 4 c_stationc.2.1.2 (foot zH c_stationc.2.2.1.2)) = true := by decide +kernel
theorem e_stationc_2_2 : frun kR [] (cpl1 zH c_stationc []) (cpl2 zH c_stationc []) (cleaf kR zH c_stationc []) 160 65536 (isatP (((0, .arg 60062, .int 2), true) :: ((0, .arg 60030, .int 2), true) :: c_stationc.2.2.2.1) c_stationc.2.2.2.2.2.2.2.1) c_stationc.2.2.2.2.2.2.2.1 (sin0 mt_all c_stationc.1.1 4 c_stationc.2.1.1 (foot zH c_stationc.2.2.1.1)) (sin0 mt_all c_stationc.1.2.1 4 c_stationc.2.1.2 (foot zH c_stationc.2.2.1.2)) = true := by decide +kernel
theorem e_stationc_2_3 : frun kR [] (cpl1 zH c_stationc []) (cpl2 zH c_stationc []) (cleaf kR zH c_stationc []) 160 65536 (isatP (((0, .arg 60062, .int 3), true) :: ((0, .arg 60030, .int 2), true) :: c_stationc.2.2.2.1) c_stationc.2.2.2.2.2.2.2.1) c_stationc.2.2.2.2.2.2.2.1 (sin0 mt_all c_stationc.1.1 4 c_stationc.2.1.1 (foot zH c_stationc.2.2.1.1)) (sin0 mt_all c_stationc.1.2.1 4 c_stationc.2.1.2 (foot zH c_stationc.2.2.1.2)) = true := by decide +kernel
theorem e_stationc_2_4 : frun kR [] (cpl1 zH c_stationc []) (cpl2 zH c_stationc []) (cleaf kR zH c_stationc []) 160 65536 (isatP (((0, .arg 60062, .int 4), true) :: ((0, .arg 60030, .int 2), true) :: c_stationc.2.2.2.1) c_stationc.2.2.2.2.2.2.2.1) c_stationc.2.2.2.2.2.2.2.1 (sin0 mt_all c_stationc.1.1 4 c_stationc.2.1.1 (foot zH c_stationc.2.2.1.1)) (sin0 mt_all c_stationc.1.2.1 4 c_stationc.2.1.2 (foot zH c_stationc.2.2.1.2)) = true := by decide +kernel
theorem e_stationc_3_0 : frun kR [] (cpl1 zH c_stationc []) (cpl2 zH c_stationc []) (cleaf kR zH c_stationc []) 160 65536 (isatP (((0, .arg 60062, .int 0), true) :: ((0, .arg 60030, .int 3), true) :: c_stationc.2.2.2.1) c_stationc.2.2.2.2.2.2.2.1) c_stationc.2.2.2.2.2.2.2.1 (sin0 mt_all c_stationc.1.1 4 c_stationc.2.1.1 (foot zH c_stationc.2.2.1.1)) (sin0 mt_all c_stationc.1.2.1 4 c_stationc.2.1.2 (foot zH c_stationc.2.2.1.2)) = true := by decide +kernel
theorem e_stationc_3_1 : frun kR [] (cpl1 zH c_stationc []) (cpl2 zH c_stationc []) (cleaf kR zH c_stationc []) 160 65536 (isatP (((0, .arg 60062, .int 1), true) :: ((0, .arg 60030, .int 3), true) :: c_stationc.2.2.2.1) c_stationc.2.2.2.2.2.2.2.1) c_stationc.2.2.2.2.2.2.2.1 (sin0 mt_all c_stationc.1.1 4 c_stationc.2.1.1 (foot zH c_stationc.2.2.1.1)) (sin0 mt_all c_stationc.1.2.1 4 c_stationc.2.1.2 (foot zH c_stationc.2.2.1.2)) = true := by decide +kernel
theorem e_stationc_3_2 : frun kR [] (cpl1 zH c_stationc []) (cpl2 zH c_stationc []) (cleaf kR zH c_stationc []) 160 65536 (isatP (((0, .arg 60062, .int 2), true) :: ((0, .arg 60030, .int 3), true) :: c_stationc.2.2.2.1) c_stationc.2.2.2.2.2.2.2.1) c_stationc.2.2.2.2.2.2.2.1 (sin0 mt_all c_stationc.1.1 4 c_stationc.2.1.1 (foot zH c_stationc.2.2.1.1)) (sin0 mt_all c_stationc.1.2.1 4 c_stationc.2.1.2 (foot zH c_stationc.2.2.1.2)) = true := by decide +kernel
theorem e_stationc_3_3 : frun kR [] (cpl1 zH c_stationc []) (cpl2 zH c_stationc []) (cleaf kR zH c_stationc []) 160 65536 (isatP (((0, .arg 60062, .int 3), true) :: ((0, .arg 60030, .int 3), true) :: c_stationc.2.2.2.1) c_stationc.2.2.2.2.2.2.2.1) c_stationc.2.2.2.2.2.2.2.1 (sin0 mt_all c_stationc.1.1 4 c_stationc.2.1.1 (foot zH c_stationc.2.2.1.1)) (sin0 mt_all c_stationc.1.2.1 4 c_stationc.2.1.2 (foot zH c_stationc.2.2.1.2)) = true := by decide +kernel
theorem e_stationc_3_4 : frun kR [] (cpl1 zH c_stationc []) (cpl2 zH c_stationc []) (cleaf kR zH c_stationc []) 160 65536 (isatP (((0, .arg 60062, .int 4), true) :: ((0, .arg 60030, .int 3), true) :: c_stationc.2.2.2.1) c_stationc.2.2.2.2.2.2.2.1) c_stationc.2.2.2.2.2.2.2.1 (sin0 mt_all c_stationc.1.1 4 c_stationc.2.1.1 (foot zH c_stationc.2.2.1.1)) (sin0 mt_all c_stationc.1.2.1 4 c_stationc.2.1.2 (foot zH c_stationc.2.2.1.2)) = true := by decide +kernel
theorem e_stationc_4_0 : frun kR [] (cpl1 zH c_stationc []) (cpl2 zH c_stationc []) (cleaf kR zH c_stationc []) 160 65536 (isatP (((0, .arg 60062, .int 0), true) :: ((0, .arg 60030, .int 4), true) :: c_stationc.2.2.2.1) c_stationc.2.2.2.2.2.2.2.1) c_stationc.2.2.2.2.2.2.2.1 (sin0 mt_all c_stationc.1.1 4 c_stationc.2.1.1 (foot zH c_stationc.2.2.1.1)) (sin0 mt_all c_stationc.1.2.1 4 c_stationc.2.1.2 (foot zH c_stationc.2.2.1.2)) = true := by decide +kernel
theorem e_stationc_4_1 : frun kR [] (cpl1 zH c_stationc []) (cpl2 zH c_stationc []) (cleaf kR zH c_stationc []) 160 65536 (isatP (((0, .arg 60062, .int 1), true) :: ((0, .arg 60030, .int 4), true) :: c_stationc.2.2.2.1) c_stationc.2.2.2.2.2.2.2.1) c_stationc.2.2.2.2.2.2.2.1 (sin0 mt_all c_stationc.1.1 4 c_stationc.2.1.1 (foot zH c_stationc.2.2.1.1)) (sin0 mt_all c_stationc.1.2.1 4 c_stationc.2.1.2 (foot zH c_stationc.2.2.1.2)) = true := by decide +kernel
theorem e_stationc_4_2 : frun kR [] (cpl1 zH c_stationc []) (cpl2 zH c_stationc []) (cleaf kR zH c_stationc []) 160 65536 (isatP (((0, .arg 60062, .int 2), true) :: ((0, .arg 60030, .int 4), true) :: c_stationc.2.2.2.1) c_stationc.2.2.2.2.2.2.2.1) c_stationc.2.2.2.2.2.2.2.1 (sin0 mt_all c_stationc.1.1 4 c_stationc.2.1.1 (foot zH c_stationc.2.2.1.1)) (sin0 mt_all c_stationc.1.2.1 4 c_stationc.2.1.2 (foot zH c_stationc.2.2.1.2)) = true := by decide +kernel
theorem e_stationc_4_3 : frun kR [] (cpl1 zH c_stationc []) (cpl2 zH c_stationc []) (cleaf kR zH c_stationc []) 160 65536 (isatP (((0, .arg 60062, .int 3), true) :: ((0, .arg 60030, .int 4), true) :: c_stationc.2.2.2.1) c_stationc.2.2.2.2.2.2.2.1) c_stationc.2.2.2.2.2.2.2.1 (sin0 mt_all c_stationc.1.1 4 c_stationc.2.1.1 (foot zH c_stationc.2.2.1.1)) (sin0 mt_all c_stationc.1.2.1 4 c_stationc.2.1.2 (foot zH c_stationc.2.2.1.2)) = true := by decide +kernel
theorem e_stationc_4_4 : frun kR [] (cpl1 zH c_stationc []) (cpl2 zH c_stationc []) (cleaf kR zH c_stationc []) 160 65536 (isatP (((0, .arg 60062, .int 4), true) :: ((0, .arg 60030, .int 4), true) :: c_stationc.2.2.2.1) c_stationc.2.2.2.2.2.2.2.1) c_stationc.2.2.2.2.2.2.2.1 (sin0 mt_all c_stationc.1.1 4 c_stationc.2.1.1 (foot zH c_stationc.2.2.1.1)) (sin0 mt_all c_stationc.1.2.1 4 c_stationc.2.1.2 (foot zH c_stationc.2.2.1.2)) = true := by decide +kernel
theorem s_stationc {X : pX} : SREL X pF pdfl mt_all kR zH c_stationc := SREL_QC kR_x kR_0 (Cs := []) (fun C hC => by cases hC) (d := 4) rfl c_stationc_f (Q := []) (fun ρ0 hv q hq => by cases hq) (fun ρ hF hI => by
  have r60030 : 0 ≤ (ρ.1 60030).toInt ∧ (ρ.1 60030).toInt ≤ 4 := hF.1.1 60030 (0, 4) rfl
  rcases (show (ρ.1 60030).toInt = 0 ∨ (ρ.1 60030).toInt = 1 ∨ (ρ.1 60030).toInt = 2 ∨ (ρ.1 60030).toInt = 3 ∨ (ρ.1 60030).toInt = 4 by omega) with g | g | g | g | g
  · have h60030 : ρ.1 60030 = 0 := Int32.toInt_inj.mp g
    have r60062 : 0 ≤ (ρ.1 60062).toInt ∧ (ρ.1 60062).toInt ≤ 4 := hF.1.1 60062 (0, 4) rfl
    rcases (show (ρ.1 60062).toInt = 0 ∨ (ρ.1 60062).toInt = 1 ∨ (ρ.1 60062).toInt = 2 ∨ (ρ.1 60062).toInt = 3 ∨ (ρ.1 60062).toInt = 4 by omega) with g | g | g | g | g
    · have h60062 : ρ.1 60062 = 0 := Int32.toInt_inj.mp g
      exact QC_run 160 e_stationc_0_0 ρ ⟨hF.1, fcn (decide_eq_true h60062) (fcn (decide_eq_true h60030) (hF.2))⟩ hI
    · have h60062 : ρ.1 60062 = 1 := Int32.toInt_inj.mp g
      exact QC_run 160 e_stationc_0_1 ρ ⟨hF.1, fcn (decide_eq_true h60062) (fcn (decide_eq_true h60030) (hF.2))⟩ hI
    · have h60062 : ρ.1 60062 = 2 := Int32.toInt_inj.mp g
      exact QC_run 160 e_stationc_0_2 ρ ⟨hF.1, fcn (decide_eq_true h60062) (fcn (decide_eq_true h60030) (hF.2))⟩ hI
    · have h60062 : ρ.1 60062 = 3 := Int32.toInt_inj.mp g
      exact QC_run 160 e_stationc_0_3 ρ ⟨hF.1, fcn (decide_eq_true h60062) (fcn (decide_eq_true h60030) (hF.2))⟩ hI
    · have h60062 : ρ.1 60062 = 4 := Int32.toInt_inj.mp g
      exact QC_run 160 e_stationc_0_4 ρ ⟨hF.1, fcn (decide_eq_true h60062) (fcn (decide_eq_true h60030) (hF.2))⟩ hI
  · have h60030 : ρ.1 60030 = 1 := Int32.toInt_inj.mp g
    have r60062 : 0 ≤ (ρ.1 60062).toInt ∧ (ρ.1 60062).toInt ≤ 4 := hF.1.1 60062 (0, 4) rfl
    rcases (show (ρ.1 60062).toInt = 0 ∨ (ρ.1 60062).toInt = 1 ∨ (ρ.1 60062).toInt = 2 ∨ (ρ.1 60062).toInt = 3 ∨ (ρ.1 60062).toInt = 4 by omega) with g | g | g | g | g
    · have h60062 : ρ.1 60062 = 0 := Int32.toInt_inj.mp g
      exact QC_run 160 e_stationc_1_0 ρ ⟨hF.1, fcn (decide_eq_true h60062) (fcn (decide_eq_true h60030) (hF.2))⟩ hI
    · have h60062 : ρ.1 60062 = 1 := Int32.toInt_inj.mp g
      exact QC_run 160 e_stationc_1_1 ρ ⟨hF.1, fcn (decide_eq_true h60062) (fcn (decide_eq_true h60030) (hF.2))⟩ hI
    · have h60062 : ρ.1 60062 = 2 := Int32.toInt_inj.mp g
      exact QC_run 160 e_stationc_1_2 ρ ⟨hF.1, fcn (decide_eq_true h60062) (fcn (decide_eq_true h60030) (hF.2))⟩ hI
    · have h60062 : ρ.1 60062 = 3 := Int32.toInt_inj.mp g
      exact QC_run 160 e_stationc_1_3 ρ ⟨hF.1, fcn (decide_eq_true h60062) (fcn (decide_eq_true h60030) (hF.2))⟩ hI
    · have h60062 : ρ.1 60062 = 4 := Int32.toInt_inj.mp g
      exact QC_run 160 e_stationc_1_4 ρ ⟨hF.1, fcn (decide_eq_true h60062) (fcn (decide_eq_true h60030) (hF.2))⟩ hI
  · have h60030 : ρ.1 60030 = 2 := Int32.toInt_inj.mp g
    have r60062 : 0 ≤ (ρ.1 60062).toInt ∧ (ρ.1 60062).toInt ≤ 4 := hF.1.1 60062 (0, 4) rfl
    rcases (show (ρ.1 60062).toInt = 0 ∨ (ρ.1 60062).toInt = 1 ∨ (ρ.1 60062).toInt = 2 ∨ (ρ.1 60062).toInt = 3 ∨ (ρ.1 60062).toInt = 4 by omega) with g | g | g | g | g
    · have h60062 : ρ.1 60062 = 0 := Int32.toInt_inj.mp g
      exact QC_run 160 e_stationc_2_0 ρ ⟨hF.1, fcn (decide_eq_true h60062) (fcn (decide_eq_true h60030) (hF.2))⟩ hI
    · have h60062 : ρ.1 60062 = 1 := Int32.toInt_inj.mp g
      exact QC_run 160 e_stationc_2_1 ρ ⟨hF.1, fcn (decide_eq_true h60062) (fcn (decide_eq_true h60030) (hF.2))⟩ hI
    · have h60062 : ρ.1 60062 = 2 := Int32.toInt_inj.mp g
      exact QC_run 160 e_stationc_2_2 ρ ⟨hF.1, fcn (decide_eq_true h60062) (fcn (decide_eq_true h60030) (hF.2))⟩ hI
    · have h60062 : ρ.1 60062 = 3 := Int32.toInt_inj.mp g
      exact QC_run 160 e_stationc_2_3 ρ ⟨hF.1, fcn (decide_eq_true h60062) (fcn (decide_eq_true h60030) (hF.2))⟩ hI
    · have h60062 : ρ.1 60062 = 4 := Int32.toInt_inj.mp g
      exact QC_run 160 e_stationc_2_4 ρ ⟨hF.1, fcn (decide_eq_true h60062) (fcn (decide_eq_true h60030) (hF.2))⟩ hI
  · have h60030 : ρ.1 60030 = 3 := Int32.toInt_inj.mp g
    have r60062 : 0 ≤ (ρ.1 60062).toInt ∧ (ρ.1 60062).toInt ≤ 4 := hF.1.1 60062 (0, 4) rfl
    rcases (show (ρ.1 60062).toInt = 0 ∨ (ρ.1 60062).toInt = 1 ∨ (ρ.1 60062).toInt = 2 ∨ (ρ.1 60062).toInt = 3 ∨ (ρ.1 60062).toInt = 4 by omega) with g | g | g | g | g
    · have h60062 : ρ.1 60062 = 0 := Int32.toInt_inj.mp g
      exact QC_run 160 e_stationc_3_0 ρ ⟨hF.1, fcn (decide_eq_true h60062) (fcn (decide_eq_true h60030) (hF.2))⟩ hI
    · have h60062 : ρ.1 60062 = 1 := Int32.toInt_inj.mp g
      exact QC_run 160 e_stationc_3_1 ρ ⟨hF.1, fcn (decide_eq_true h60062) (fcn (decide_eq_true h60030) (hF.2))⟩ hI
    · have h60062 : ρ.1 60062 = 2 := Int32.toInt_inj.mp g
      exact QC_run 160 e_stationc_3_2 ρ ⟨hF.1, fcn (decide_eq_true h60062) (fcn (decide_eq_true h60030) (hF.2))⟩ hI
    · have h60062 : ρ.1 60062 = 3 := Int32.toInt_inj.mp g
      exact QC_run 160 e_stationc_3_3 ρ ⟨hF.1, fcn (decide_eq_true h60062) (fcn (decide_eq_true h60030) (hF.2))⟩ hI
    · have h60062 : ρ.1 60062 = 4 := Int32.toInt_inj.mp g
      exact QC_run 160 e_stationc_3_4 ρ ⟨hF.1, fcn (decide_eq_true h60062) (fcn (decide_eq_true h60030) (hF.2))⟩ hI
  · have h60030 : ρ.1 60030 = 4 := Int32.toInt_inj.mp g
    have r60062 : 0 ≤ (ρ.1 60062).toInt ∧ (ρ.1 60062).toInt ≤ 4 := hF.1.1 60062 (0, 4) rfl
    rcases (show (ρ.1 60062).toInt = 0 ∨ (ρ.1 60062).toInt = 1 ∨ (ρ.1 60062).toInt = 2 ∨ (ρ.1 60062).toInt = 3 ∨ (ρ.1 60062).toInt = 4 by omega) with g | g | g | g | g
    · have h60062 : ρ.1 60062 = 0 := Int32.toInt_inj.mp g
      exact QC_run 160 e_stationc_4_0 ρ ⟨hF.1, fcn (decide_eq_true h60062) (fcn (decide_eq_true h60030) (hF.2))⟩ hI
    · have h60062 : ρ.1 60062 = 1 := Int32.toInt_inj.mp g
      exact QC_run 160 e_stationc_4_1 ρ ⟨hF.1, fcn (decide_eq_true h60062) (fcn (decide_eq_true h60030) (hF.2))⟩ hI
    · have h60062 : ρ.1 60062 = 2 := Int32.toInt_inj.mp g
      exact QC_run 160 e_stationc_4_2 ρ ⟨hF.1, fcn (decide_eq_true h60062) (fcn (decide_eq_true h60030) (hF.2))⟩ hI
    · have h60062 : ρ.1 60062 = 3 := Int32.toInt_inj.mp g
      exact QC_run 160 e_stationc_4_3 ρ ⟨hF.1, fcn (decide_eq_true h60062) (fcn (decide_eq_true h60030) (hF.2))⟩ hI
    · have h60062 : ρ.1 60062 = 4 := Int32.toInt_inj.mp g
      exact QC_run 160 e_stationc_4_4 ρ ⟨hF.1, fcn (decide_eq_true h60062) (fcn (decide_eq_true h60030) (hF.2))⟩ hI)
