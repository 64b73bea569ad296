/-! ===== a call: state4 ===== -/
noncomputable def c_state4 : sC := ((184, 410, 5), ([tr 0, .arg 60028, .int 4], [tr 219, .arg 60028, .int 4]), ([0, 2, 29, 1, 39, 80, 121, 162, 42, 75, 83, 116, 124, 157, 165, 198], [219, 258, 327, 329, 330]), [], ([19232, 60096], []), (some (.arg 60096), some (.arg 60096)), [((0, .arg 19232, .int 0), true)], ([], []))
theorem c_state4_f : cfine zH 65536 c_state4 = true := by decide +kernel
theorem e_state4_0 : frun kR [] (cpl1 zH c_state4 []) (cpl2 zH c_state4 []) (cleaf kR zH c_state4 []) 160 65536 (isatP (((0, .arg 60028, .int 0), true) :: c_state4.2.2.2.1) c_state4.2.2.2.2.2.2.2.1) c_state4.2.2.2.2.2.2.2.1 (sin0 mt_all c_state4.1.1 4 c_state4.2.1.1 (foot zH c_state4.2.2.1.1)) (sin0 mt_all c_state4.1.2.1 4 c_state4.2.1.2 (foot zH c_state4.2.2.1.2)) = true := by decide +kernel
theorem e_state4_1 : frun kR [] (cpl1 zH c_state4 []) (cpl2 zH c_state4 []) (cleaf kR zH c_state4 []) 160 65536 (isatP (((0, .arg 60028, .int 1), true) :: c_state4.2.2.2.1) c_state4.2.2.2.2.2.2.2.1) c_state4.2.2.2.2.2.2.2.1 (sin0 mt_all c_state4.1.1 4 c_state4.2.1.1 (foot zH c_state4.2.2.1.1)) (sin0 mt_all c_state4.1.2.1 4 c_state4.2.1.2 (foot zH c_state4.2.2.1.2)) = true := by decide +kernel
theorem e_state4_2 : frun kR [] (cpl1 zH c_state4 []) (cpl2 zH c_state4 []) (cleaf kR zH c_state4 []) 160 65536 (isatP (((0, .arg 60028, .int 2), true) :: c_state4.2.2.2.1) c_state4.2.2.2.2.2.2.2.1) c_state4.2.2.2.2.2.2.2.1 (sin0 mt_all c_state4.1.1 4 c_state4.2.1.1 (foot zH c_state4.2.2.1.1)) (sin0 mt_all c_state4.1.2.1 4 c_state4.2.1.2 (foot zH c_state4.2.2.1.2)) = true := by decide +kernel
theorem e_state4_3 : frun kR [] (cpl1 zH c_state4 []) (cpl2 zH c_state4 []) (cleaf kR zH c_state4 []) 160 65536 (isatP (((0, .arg 60028, .int 3), true) :: c_state4.2.2.2.1) c_state4.2.2.2.2.2.2.2.1) c_state4.2.2.2.2.2.2.2.1 (sin0 mt_all c_state4.1.1 4 c_state4.2.1.1 (foot zH c_state4.2.2.1.1)) (sin0 mt_all c_state4.1.2.1 4 c_state4.2.1.2 (foot zH c_state4.2.2.1.2)) = true := by decide +kernel
theorem s_state4 {X : pX} : SREL X pF pdfl mt_all kR zH c_state4 := SREL_QC kR_x kR_0 (Cs := []) (fun C hC => by cases hC) (d := 4) rfl c_state4_f (Q := []) (fun ρ0 hv q hq => by cases hq) (fun ρ hF hI => by
  have r60028 : 0 ≤ (ρ.1 60028).toInt ∧ (ρ.1 60028).toInt ≤ 3 := hF.1.1 60028 (0, 3) rfl
  rcases (show (ρ.1 60028).toInt = 0 ∨ (ρ.1 60028).toInt = 1 ∨ (ρ.1 60028).toInt = 2 ∨ (ρ.1 60028).toInt = 3 by omega) with g | g | g | g
  · have h60028 : ρ.1 60028 = 0 := Int32.toInt_inj.mp g
    exact QC_run 160 e_state4_0 ρ ⟨hF.1, fcn (decide_eq_true h60028) (hF.2)⟩ hI
  · have h60028 : ρ.1 60028 = 1 := Int32.toInt_inj.mp g
    exact QC_run 160 e_state4_1 ρ ⟨hF.1, fcn (decide_eq_true h60028) (hF.2)⟩ hI
  · have h60028 : ρ.1 60028 = 2 := Int32.toInt_inj.mp g
    exact QC_run 160 e_state4_2 ρ ⟨hF.1, fcn (decide_eq_true h60028) (hF.2)⟩ hI
  · have h60028 : ρ.1 60028 = 3 := Int32.toInt_inj.mp g
    exact QC_run 160 e_state4_3 ρ ⟨hF.1, fcn (decide_eq_true h60028) (hF.2)⟩ hI)
