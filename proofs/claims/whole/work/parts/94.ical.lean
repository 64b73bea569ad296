/-! ===== a call: bankc ===== -/
noncomputable def c_bankc : sC := ((187, 414, 5), ([tr 0, .arg 60028, .arg 60002, .arg 60032], [tr 219, .arg 60028, .arg 60002, .arg 60032]), ([0, 1, 39, 80, 121, 162, 75, 116, 157, 198, 76, 117, 158, 199, 77, 78, 118, 119, 159, 160, 200, 201], [219, 325]), [((2, .arg 60032, .int 0), false), ((2, .int 1023, .arg 60032), false)], ([19232, 60096], []), (some (.arg 60096), some (.arg 60096)), [((0, .arg 19232, .int 0), true)], ([], []))
theorem c_bankc_f : cfine zH 65536 c_bankc = true := by decide +kernel
theorem e_bankc_0_0 : frun kR [] (cpl1 zH c_bankc []) (cpl2 zH c_bankc []) (cleaf kR zH c_bankc []) 160 65536 (isatP (((0, .arg 60002, .int 0), true) :: ((0, .arg 60028, .int 0), true) :: c_bankc.2.2.2.1) c_bankc.2.2.2.2.2.2.2.1) c_bankc.2.2.2.2.2.2.2.1 (sin0 mt_all c_bankc.1.1 4 c_bankc.2.1.1 (foot zH c_bankc.2.2.1.1)) (sin0 mt_all c_bankc.1.2.1 4 c_bankc.2.1.2 (foot zH c_bankc.2.2.1.2)) = true := by decide +kernel
theorem e_bankc_0_1 : frun kR [] (cpl1 zH c_bankc []) (cpl2 zH c_bankc []) (cleaf kR zH c_bankc []) 160 65536 (isatP (((0, .arg 60002, .int 1), true) :: ((0, .arg 60028, .int 0), true) :: c_bankc.2.2.2.1) c_bankc.2.2.2.2.2.2.2.1) c_bankc.2.2.2.2.2.2.2.1 (sin0 mt_all c_bankc.1.1 4 c_bankc.2.1.1 (foot zH c_bankc.2.2.1.1)) (sin0 mt_all c_bankc.1.2.1 4 c_bankc.2.1.2 (foot zH c_bankc.2.2.1.2)) = true := by decide +kernel
theorem e_bankc_1_0 : frun kR [] (cpl1 zH c_bankc []) (cpl2 zH c_bankc []) (cleaf kR zH c_bankc []) 160 65536 (isatP (((0, .arg 60002, .int 0), true) :: ((0, .arg 60028, .int 1), true) :: c_bankc.2.2.2.1) c_bankc.2.2.2.2.2.2.2.1) c_bankc.2.2.2.2.2.2.2.1 (sin0 mt_all c_bankc.1.1 4 c_bankc.2.1.1 (foot zH c_bankc.2.2.1.1)) (sin0 mt_all c_bankc.1.2.1 4 c_bankc.2.1.2 (foot zH c_bankc.2.2.1.2)) = true := by decide +kernel
theorem e_bankc_1_1 : frun kR [] (cpl1 zH c_bankc []) (cpl2 zH c_bankc []) (cleaf kR zH c_bankc []) 160 65536 (isatP (((0, .arg 60002, .int 1), true) :: ((0, .arg 60028, .int 1), true) :: c_bankc.2.2.2.1) c_bankc.2.2.2.2.2.2.2.1) c_bankc.2.2.2.2.2.2.2.1 (sin0 mt_all c_bankc.1.1 4 c_bankc.2.1.1 (foot zH c_bankc.2.2.1.1)) (sin0 mt_all c_bankc.1.2.1 4 c_bankc.2.1.2 (foot zH c_bankc.2.2.1.2)) = true := by decide +kernel
theorem e_bankc_2_0 : frun kR [] (cpl1 zH c_bankc []) (cpl2 zH c_bankc []) (cleaf kR zH c_bankc []) 160 65536 (isatP (((0, .arg 60002, .int 0), true) :: ((0, .arg 60028, .int 2), true) :: c_bankc.2.2.2.1) c_bankc.2.2.2.2.2.2.2.1) c_bankc.2.2.2.2.2.2.2.1 (sin0 mt_all c_bankc.1.1 4 c_bankc.2.1.1 (foot zH c_bankc.2.2.1.1)) (sin0 mt_all c_bankc.1.2.1 4 c_bankc.2.1.2 (foot zH c_bankc.2.2.1.2)) = true := by decide +kernel
theorem e_bankc_2_1 : frun kR [] (cpl1 zH c_bankc []) (cpl2 zH c_bankc []) (cleaf kR zH c_bankc []) 160 65536 (isatP (((0, .arg 60002, .int 1), true) :: ((0, .arg 60028, .int 2), true) :: c_bankc.2.2.2.1) c_bankc.2.2.2.2.2.2.2.1) c_bankc.2.2.2.2.2.2.2.1 (sin0 mt_all c_bankc.1.1 4 c_bankc.2.1.1 (foot zH c_bankc.2.2.1.1)) (sin0 mt_all c_bankc.1.2.1 4 c_bankc.2.1.2 (foot zH c_bankc.2.2.1.2)) = true := by decide +kernel
theorem e_bankc_3_0 : frun kR [] (cpl1 zH c_bankc []) (cpl2 zH c_bankc []) (cleaf kR zH c_bankc []) 160 65536 (isatP (((0, .arg 60002, .int 0), true) :: ((0, .arg 60028, .int 3), true) :: c_bankc.2.2.2.1) c_bankc.2.2.2.2.2.2.2.1) c_bankc.2.2.2.2.2.2.2.1 (sin0 mt_all c_bankc.1.1 4 c_bankc.2.1.1 (foot zH c_bankc.2.2.1.1)) (sin0 mt_all c_bankc.1.2.1 4 c_bankc.2.1.2 (foot zH c_bankc.2.2.1.2)) = true := by decide +kernel
theorem e_bankc_3_1 : frun kR [] (cpl1 zH c_bankc []) (cpl2 zH c_bankc []) (cleaf kR zH c_bankc []) 160 65536 (isatP (((0, .arg 60002, .int 1), true) :: ((0, .arg 60028, .int 3), true) :: c_bankc.2.2.2.1) c_bankc.2.2.2.2.2.2.2.1) c_bankc.2.2.2.2.2.2.2.1 (sin0 mt_all c_bankc.1.1 4 c_bankc.2.1.1 (foot zH c_bankc.2.2.1.1)) (sin0 mt_all c_bankc.1.2.1 4 c_bankc.2.1.2 (foot zH c_bankc.2.2.1.2)) = true := by decide +kernel
theorem s_bankc {X : pX} : SREL X pF pdfl mt_all kR zH c_bankc := SREL_QC kR_x kR_0 (Cs := []) (fun C hC => by cases hC) (d := 4) rfl c_bankc_f (Q := []) (fun ρ0 hv q hq => by cases hq) (fun ρ hF hI => by
  have r60028 : 0 ≤ (ρ.1 60028).toInt ∧ (ρ.1 60028).toInt ≤ 3 := hF.1.1 60028 (0, 3) rfl
  rcases (show (ρ.1 60028).toInt = 0 ∨ (ρ.1 60028).toInt = 1 ∨ (ρ.1 60028).toInt = 2 ∨ (ρ.1 60028).toInt = 3 by omega) with g | g | g | g
  · have h60028 : ρ.1 60028 = 0 := Int32.toInt_inj.mp g
    have r60002 : 0 ≤ (ρ.1 60002).toInt ∧ (ρ.1 60002).toInt ≤ 1 := hF.1.1 60002 (0, 1) rfl
    rcases (show (ρ.1 60002).toInt = 0 ∨ (ρ.1 60002).toInt = 1 by omega) with g | g
    · have h60002 : ρ.1 60002 = 0 := Int32.toInt_inj.mp g
      exact QC_run 160 e_bankc_0_0 ρ ⟨hF.1, fcn (decide_eq_true h60002) (fcn (decide_eq_true h60028) (hF.2))⟩ hI
    · have h60002 : ρ.1 60002 = 1 := Int32.toInt_inj.mp g
      exact QC_run 160 e_bankc_0_1 ρ ⟨hF.1, fcn (decide_eq_true h60002) (fcn (decide_eq_true h60028) (hF.2))⟩ hI
  · have h60028 : ρ.1 60028 = 1 := Int32.toInt_inj.mp g
    have r60002 : 0 ≤ (ρ.1 60002).toInt ∧ (ρ.1 60002).toInt ≤ 1 := hF.1.1 60002 (0, 1) rfl
    rcases (show (ρ.1 60002).toInt = 0 ∨ (ρ.1 60002).toInt = 1 by omega) with g | g
    · have h60002 : ρ.1 60002 = 0 := Int32.toInt_inj.mp g
      exact QC_run 160 e_bankc_1_0 ρ ⟨hF.1, fcn (decide_eq_true h60002) (fcn (decide_eq_true h60028) (hF.2))⟩ hI
    · have h60002 : ρ.1 60002 = 1 := Int32.toInt_inj.mp g
      exact QC_run 160 e_bankc_1_1 ρ ⟨hF.1, fcn (decide_eq_true h60002) (fcn (decide_eq_true h60028) (hF.2))⟩ hI
  · have h60028 : ρ.1 60028 = 2 := Int32.toInt_inj.mp g
    have r60002 : 0 ≤ (ρ.1 60002).toInt ∧ (ρ.1 60002).toInt ≤ 1 := hF.1.1 60002 (0, 1) rfl
    rcases (show (ρ.1 60002).toInt = 0 ∨ (ρ.1 60002).toInt = 1 by omega) with g | g
    · have h60002 : ρ.1 60002 = 0 := Int32.toInt_inj.mp g
      exact QC_run 160 e_bankc_2_0 ρ ⟨hF.1, fcn (decide_eq_true h60002) (fcn (decide_eq_true h60028) (hF.2))⟩ hI
    · have h60002 : ρ.1 60002 = 1 := Int32.toInt_inj.mp g
      exact QC_run 160 e_bankc_2_1 ρ ⟨hF.1, fcn (decide_eq_true h60002) (fcn (decide_eq_true h60028) (hF.2))⟩ hI
  · have h60028 : ρ.1 60028 = 3 := Int32.toInt_inj.mp g
    have r60002 : 0 ≤ (ρ.1 60002).toInt ∧ (ρ.1 60002).toInt ≤ 1 := hF.1.1 60002 (0, 1) rfl
    rcases (show (ρ.1 60002).toInt = 0 ∨ (ρ.1 60002).toInt = 1 by omega) with g | g
    · have h60002 : ρ.1 60002 = 0 := Int32.toInt_inj.mp g
      exact QC_run 160 e_bankc_3_0 ρ ⟨hF.1, fcn (decide_eq_true h60002) (fcn (decide_eq_true h60028) (hF.2))⟩ hI
    · have h60002 : ρ.1 60002 = 1 := Int32.toInt_inj.mp g
      exact QC_run 160 e_bankc_3_1 ρ ⟨hF.1, fcn (decide_eq_true h60002) (fcn (decide_eq_true h60028) (hF.2))⟩ hI)
/-! ===== a call: scratchc ===== -/
noncomputable def c_scratchc : sC := ((188, 415, 5), ([tr 0, .arg 60028, .arg 60002, .arg 60032, .arg 60004], [tr 219, .arg 60028, .arg 60002, .arg 60032, .arg 60004]), ([0, 1, 39, 80, 121, 162, 75, 116, 157, 198, 76, 117, 158, 199, 77, 78, 118, 119, 159, 160, 200, 201], [219, 325]), [((2, .arg 60032, .int 0), false), ((2, .int 1023, .arg 60032), false)], ([19232, 60096], [1380, 1412, 1572, 1604, 1764, 1796, 1956, 1988]), (some (.arg 60096), some (.arg 60096)), [((0, .arg 19232, .int 0), true)], ([], []))
theorem c_scratchc_f : cfine zH 65536 c_scratchc = true := by decide +kernel
theorem e_scratchc_0_0 : frun kR [] (cpl1 zH c_scratchc []) (cpl2 zH c_scratchc []) (cleaf kR zH c_scratchc []) 160 65536 (isatP (((0, .arg 60002, .int 0), true) :: ((0, .arg 60028, .int 0), true) :: c_scratchc.2.2.2.1) c_scratchc.2.2.2.2.2.2.2.1) c_scratchc.2.2.2.2.2.2.2.1 (sin0 mt_all c_scratchc.1.1 4 c_scratchc.2.1.1 (foot zH c_scratchc.2.2.1.1)) (sin0 mt_all c_scratchc.1.2.1 4 c_scratchc.2.1.2 (foot zH c_scratchc.2.2.1.2)) = true := by decide +kernel
theorem e_scratchc_0_1 : frun kR [] (cpl1 zH c_scratchc []) (cpl2 zH c_scratchc []) (cleaf kR zH c_scratchc []) 160 65536 (isatP (((0, .arg 60002, .int 1), true) :: ((0, .arg 60028, .int 0), true) :: c_scratchc.2.2.2.1) c_scratchc.2.2.2.2.2.2.2.1) c_scratchc.2.2.2.2.2.2.2.1 (sin0 mt_all c_scratchc.1.1 4 c_scratchc.2.1.1 (foot zH c_scratchc.2.2.1.1)) (sin0 mt_all c_scratchc.1.2.1 4 c_scratchc.2.1.2 (foot zH c_scratchc.2.2.1.2)) = true := by decide +kernel
theorem e_scratchc_1_0 : frun kR [] (cpl1 zH c_scratchc []) (cpl2 zH c_scratchc []) (cleaf kR zH c_scratchc []) 160 65536 (isatP (((0, .arg 60002, .int 0), true) :: ((0, .arg 60028, .int 1), true) :: c_scratchc.2.2.2.1) c_scratchc.2.2.2.2.2.2.2.1) c_scratchc.2.2.2.2.2.2.2.1 (sin0 mt_all c_scratchc.1.1 4 c_scratchc.2.1.1 (foot zH c_scratchc.2.2.1.1)) (sin0 mt_all c_scratchc.1.2.1 4 c_scratchc.2.1.2 (foot zH c_scratchc.2.2.1.2)) = true := by decide +kernel
theorem e_scratchc_1_1 : frun kR [] (cpl1 zH c_scratchc []) (cpl2 zH c_scratchc []) (cleaf kR zH c_scratchc []) 160 65536 (isatP (((0, .arg 60002, .int 1), true) :: ((0, .arg 60028, .int 1), true) :: c_scratchc.2.2.2.1) c_scratchc.2.2.2.2.2.2.2.1) c_scratchc.2.2.2.2.2.2.2.1 (sin0 mt_all c_scratchc.1.1 4 c_scratchc.2.1.1 (foot zH c_scratchc.2.2.1.1)) (sin0 mt_all c_scratchc.1.2.1 4 c_scratchc.2.1.2 (foot zH c_scratchc.2.2.1.2)) = true := by decide +kernel
theorem e_scratchc_2_0 : frun kR [] (cpl1 zH c_scratchc []) (cpl2 zH c_scratchc []) (cleaf kR zH c_scratchc []) 160 65536 (isatP (((0, .arg 60002, .int 0), true) :: ((0, .arg 60028, .int 2), true) :: c_scratchc.2.2.2.1) c_scratchc.2.2.2.2.2.2.2.1) c_scratchc.2.2.2.2.2.2.2.1 (sin0 mt_all c_scratchc.1.1 4 c_scratchc.2.1.1 (foot zH c_scratchc.2.2.1.1)) (sin0 mt_all c_scratchc.1.2.1 4 c_scratchc.2.1.2 (foot zH c_scratchc.2.2.1.2)) = true := by decide +kernel
theorem e_scratchc_2_1 : frun kR [] (cpl1 zH c_scratchc []) (cpl2 zH c_scratchc []) (cleaf kR zH c_scratchc []) 160 65536 (isatP (((0, .arg 60002, .int 1), true) :: ((0, .arg 60028, .int 2), true) :: c_scratchc.2.2.2.1) c_scratchc.2.2.2.2.2.2.2.1) c_scratchc.2.2.2.2.2.2.2.1 (sin0 mt_all c_scratchc.1.1 4 c_scratchc.2.1.1 (foot zH c_scratchc.2.2.1.1)) (sin0 mt_all c_scratchc.1.2.1 4 c_scratchc.2.1.2 (foot zH c_scratchc.2.2.1.2)) = true := by decide +kernel
theorem e_scratchc_3_0 : frun kR [] (cpl1 zH c_scratchc []) (cpl2 zH c_scratchc []) (cleaf kR zH c_scratchc []) 160 65536 (isatP (((0, .arg 60002, .int 0), true) :: ((0, .arg 60028, .int 3), true) :: c_scratchc.2.2.2.1) c_scratchc.2.2.2.2.2.2.2.1) c_scratchc.2.2.2.2.2.2.2.1 (sin0 mt_all c_scratchc.1.1 4 c_scratchc.2.1.1 (foot zH c_scratchc.2.2.1.1)) (sin0 mt_all c_scratchc.1.2.1 4 c_scratchc.2.1.2 (foot zH c_scratchc.2.2.1.2)) = true := by decide +kernel
theorem e_scratchc_3_1 : frun kR [] (cpl1 zH c_scratchc []) (cpl2 zH c_scratchc []) (cleaf kR zH c_scratchc []) 160 65536 (isatP (((0, .arg 60002, .int 1), true) :: ((0, .arg 60028, .int 3), true) :: c_scratchc.2.2.2.1) c_scratchc.2.2.2.2.2.2.2.1) c_scratchc.2.2.2.2.2.2.2.1 (sin0 mt_all c_scratchc.1.1 4 c_scratchc.2.1.1 (foot zH c_scratchc.2.2.1.1)) (sin0 mt_all c_scratchc.1.2.1 4 c_scratchc.2.1.2 (foot zH c_scratchc.2.2.1.2)) = true := by decide +kernel
theorem s_scratchc {X : pX} : SREL X pF pdfl mt_all kR zH c_scratchc := SREL_QC kR_x kR_0 (Cs := []) (fun C hC => by cases hC) (d := 4) rfl c_scratchc_f (Q := []) (fun ρ0 hv q hq => by cases hq) (fun ρ hF hI => by
  have r60028 : 0 ≤ (ρ.1 60028).toInt ∧ (ρ.1 60028).toInt ≤ 3 := hF.1.1 60028 (0, 3) rfl
  rcases (show (ρ.1 60028).toInt = 0 ∨ (ρ.1 60028).toInt = 1 ∨ (ρ.1 60028).toInt = 2 ∨ (ρ.1 60028).toInt = 3 by omega) with g | g | g | g
  · have h60028 : ρ.1 60028 = 0 := Int32.toInt_inj.mp g
    have r60002 : 0 ≤ (ρ.1 60002).toInt ∧ (ρ.1 60002).toInt ≤ 1 := hF.1.1 60002 (0, 1) rfl
    rcases (show (ρ.1 60002).toInt = 0 ∨ (ρ.1 60002).toInt = 1 by omega) with g | g
    · have h60002 : ρ.1 60002 = 0 := Int32.toInt_inj.mp g
      exact QC_run 160 e_scratchc_0_0 ρ ⟨hF.1, fcn (decide_eq_true h60002) (fcn (decide_eq_true h60028) (hF.2))⟩ hI
    · have h60002 : ρ.1 60002 = 1 := Int32.toInt_inj.mp g
      exact QC_run 160 e_scratchc_0_1 ρ ⟨hF.1, fcn (decide_eq_true h60002) (fcn (decide_eq_true h60028) (hF.2))⟩ hI
  · have h60028 : ρ.1 60028 = 1 := Int32.toInt_inj.mp g
    have r60002 : 0 ≤ (ρ.1 60002).toInt ∧ (ρ.1 60002).toInt ≤ 1 := hF.1.1 60002 (0, 1) rfl
    rcases (show (ρ.1 60002).toInt = 0 ∨ (ρ.1 60002).toInt = 1 by omega) with g | g
    · have h60002 : ρ.1 60002 = 0 := Int32.toInt_inj.mp g
      exact QC_run 160 e_scratchc_1_0 ρ ⟨hF.1, fcn (decide_eq_true h60002) (fcn (decide_eq_true h60028) (hF.2))⟩ hI
    · have h60002 : ρ.1 60002 = 1 := Int32.toInt_inj.mp g
      exact QC_run 160 e_scratchc_1_1 ρ ⟨hF.1, fcn (decide_eq_true h60002) (fcn (decide_eq_true h60028) (hF.2))⟩ hI
  · have h60028 : ρ.1 60028 = 2 := Int32.toInt_inj.mp g
    have r60002 : 0 ≤ (ρ.1 60002).toInt ∧ (ρ.1 60002).toInt ≤ 1 := hF.1.1 60002 (0, 1) rfl
    rcases (show (ρ.1 60002).toInt = 0 ∨ (ρ.1 60002).toInt = 1 by omega) with g | g
    · have h60002 : ρ.1 60002 = 0 := Int32.toInt_inj.mp g
      exact QC_run 160 e_scratchc_2_0 ρ ⟨hF.1, fcn (decide_eq_true h60002) (fcn (decide_eq_true h60028) (hF.2))⟩ hI
    · have h60002 : ρ.1 60002 = 1 := Int32.toInt_inj.mp g
      exact QC_run 160 e_scratchc_2_1 ρ ⟨hF.1, fcn (decide_eq_true h60002) (fcn (decide_eq_true h60028) (hF.2))⟩ hI
  · have h60028 : ρ.1 60028 = 3 := Int32.toInt_inj.mp g
    have r60002 : 0 ≤ (ρ.1 60002).toInt ∧ (ρ.1 60002).toInt ≤ 1 := hF.1.1 60002 (0, 1) rfl
    rcases (show (ρ.1 60002).toInt = 0 ∨ (ρ.1 60002).toInt = 1 by omega) with g | g
    · have h60002 : ρ.1 60002 = 0 := Int32.toInt_inj.mp g
      exact QC_run 160 e_scratchc_3_0 ρ ⟨hF.1, fcn (decide_eq_true h60002) (fcn (decide_eq_true h60028) (hF.2))⟩ hI
    · have h60002 : ρ.1 60002 = 1 := Int32.toInt_inj.mp g
      exact QC_run 160 e_scratchc_3_1 ρ ⟨hF.1, fcn (decide_eq_true h60002) (fcn (decide_eq_true h60028) (hF.2))⟩ hI)
