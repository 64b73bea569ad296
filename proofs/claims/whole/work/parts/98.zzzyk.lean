set_option maxRecDepth 20000
noncomputable def c_busU : sC := (c_busT.1, c_busT.2.1, c_busT.2.2.1, ((2, .arg 1376, .arg 60160), false) :: ((2, .arg 60160, .arg 1376), false) :: c_busT.2.2.2.1.tail, c_busT.2.2.2.2)
theorem s_busU {X : pX} : SREL X pF pdfl mt_all kR zT c_busU := fun ρ hK hF hI => s_busT ρ hK ⟨hF.1, fcn (decide_eq_true (show ρ.1 1376 = ρ.1 60160 from by
  have h1 : ¬ ρ.1 1376 < ρ.1 60160 := of_decide_eq_false (hF.2 _ List.mem_cons_self)
  have h2 : ¬ ρ.1 60160 < ρ.1 1376 := of_decide_eq_false (hF.2 _ (List.mem_cons_of_mem _ List.mem_cons_self))
  rw [Int32.lt_iff_toInt_lt] at h1 h2
  exact Int32.toInt.inj (by omega))) (fun f hf => hF.2 f (List.mem_cons_of_mem _ (List.mem_cons_of_mem _ hf)))⟩ hI
noncomputable def cD_bus : sC := ((175, 400, 20), ([tr 0, .arg 59968], [tr 219, .arg 59968]), (fT1, fT2), [], (c_busT.2.2.2.2.1.1, c_busT.2.2.2.2.1.2), (none, none), [], ([], []))
theorem cD_bus_f : cfine zT 65536 cD_bus = true := by decide +kernel
noncomputable def q_tbus : sCut := (tA.1, tA.2, ((2, .arg 59936, .arg 59968), true) :: c_busU.2.2.2.1, c_busT.2.2.2.2.2.2.2.1)
noncomputable def p_tbus : sCut := (tC0.1, tC0.2, c_busT.2.2.2.2.2.2.1, c_busT.2.2.2.2.2.2.2.2)
theorem k_tbus : cbody kR [(zT, c_busU)] (cpl1 zT cD_bus [p_tbus]) (cpl2 zT cD_bus [p_tbus]) (cleafN kR zT cD_bus [p_tbus]) 400 true true q_tbus.2.2.1 q_tbus.2.2.2 (cst zT cD_bus.2.2.1.1 q_tbus.1) (cst zT cD_bus.2.2.1.2 q_tbus.2.1) = true := by decide +kernel
theorem r_tbus {X : pX} {J : sR → List Value → List Value → Prop} {ρ : sR} (k1 : kok X ρ kR) (k2 : fok X ρ q_tbus.2.2.1) (k3 : iok X ρ q_tbus.2.2.2) (hQ : ∀ ρ3 : sR, kok X ρ3 kR → fok X ρ3 p_tbus.2.2.1 → iok X ρ3 p_tbus.2.2.2 → agrM 65536 cD_bus.2.2.2.2.1.1 cD_bus.2.2.2.2.1.2 ρ3 ρ → RPt X J ρ3 tC0) : RPt X J ρ tA := CUT_P kR_x kR_0 (Cs := [(zT, c_busU)]) (fun C hC => by rw [List.mem_singleton.mp hC]; exact s_busU) cD_bus_f (Q := [p_tbus]) 400 k_tbus k1 k2 k3 (fun p hp => by rw [List.mem_singleton.mp hp]; exact hQ)
noncomputable def cD_ma : sC := ((175, 400, 20), ([tr 0, .arg 59968], [tr 219, .arg 59968]), (fT1, fT2), [], (c_mastT.2.2.2.2.1.1, c_mastT.2.2.2.2.1.2), (none, none), [], ([], []))
theorem cD_ma_f : cfine zT 65536 cD_ma = true := by decide +kernel
noncomputable def q_tma : sCut := (tC4.1, tC4.2, c_mastT.2.2.2.1, c_mastT.2.2.2.2.2.2.2.1)
noncomputable def p_tma : sCut := (tG0.1, tG0.2, c_mastT.2.2.2.2.2.2.1, c_mastT.2.2.2.2.2.2.2.2)
theorem k_tma : cbody kR [(zT, c_mastT)] (cpl1 zT cD_ma [p_tma]) (cpl2 zT cD_ma [p_tma]) (cleafN kR zT cD_ma [p_tma]) 400 true true q_tma.2.2.1 q_tma.2.2.2 (cst zT cD_ma.2.2.1.1 q_tma.1) (cst zT cD_ma.2.2.1.2 q_tma.2.1) = true := by decide +kernel
theorem r_tma {X : pX} {J : sR → List Value → List Value → Prop} {ρ : sR} (k1 : kok X ρ kR) (k2 : fok X ρ q_tma.2.2.1) (k3 : iok X ρ q_tma.2.2.2) (hQ : ∀ ρ3 : sR, kok X ρ3 kR → fok X ρ3 p_tma.2.2.1 → iok X ρ3 p_tma.2.2.2 → agrM 65536 cD_ma.2.2.2.2.1.1 cD_ma.2.2.2.2.1.2 ρ3 ρ → RPt X J ρ3 tG0) : RPt X J ρ tC4 := CUT_P kR_x kR_0 (Cs := [(zT, c_mastT)]) (fun C hC => by rw [List.mem_singleton.mp hC]; exact s_mastT) cD_ma_f (Q := [p_tma]) 400 k_tma k1 k2 k3 (fun p hp => by rw [List.mem_singleton.mp hp]; exact hQ)
noncomputable def cD_gb0 : sC := ((175, 400, 20), ([tr 0, .arg 59968], [tr 219, .arg 59968]), (fT1, fT2), [], ([1410, 2048, 2208] ++ c_rat0.2.2.2.2.1.1, c_rat0.2.2.2.2.1.2), (none, none), [], ([], []))
theorem cD_gb0_f : cfine zT 65536 cD_gb0 = true := by decide +kernel
noncomputable def q_tgb0 : sCut := (tG0.1, tG0.2, ((0, .arg 1410, .int 0), false) :: ((2, .sub (.arg 1280) (.arg 1888), .int 128), false) :: c_rat0.2.2.2.1, c_rat0.2.2.2.2.2.2.2.1)
noncomputable def p_tgb0 : sCut := (tG1.1, tG1.2, c_rat0.2.2.2.2.2.2.1, c_rat0.2.2.2.2.2.2.2.2)
theorem k_tgb0 : cbody kR [(zT, c_rat0)] (cpl1 zT cD_gb0 [p_tgb0]) (cpl2 zT cD_gb0 [p_tgb0]) (cleafN kR zT cD_gb0 [p_tgb0]) 200 true true q_tgb0.2.2.1 q_tgb0.2.2.2 (cst zT cD_gb0.2.2.1.1 q_tgb0.1) (cst zT cD_gb0.2.2.1.2 q_tgb0.2.1) = true := by decide +kernel
theorem r_tgb0 {X : pX} {J : sR → List Value → List Value → Prop} {ρ : sR} (k1 : kok X ρ kR) (k2 : fok X ρ q_tgb0.2.2.1) (k3 : iok X ρ q_tgb0.2.2.2) (hQ : ∀ ρ3 : sR, kok X ρ3 kR → fok X ρ3 p_tgb0.2.2.1 → iok X ρ3 p_tgb0.2.2.2 → agrM 65536 cD_gb0.2.2.2.2.1.1 cD_gb0.2.2.2.2.1.2 ρ3 ρ → RPt X J ρ3 tG1) : RPt X J ρ tG0 := CUT_P kR_x kR_0 (Cs := [(zT, c_rat0)]) (fun C hC => by rw [List.mem_singleton.mp hC]; exact s_rat0) cD_gb0_f (Q := [p_tgb0]) 200 k_tgb0 k1 k2 k3 (fun p hp => by rw [List.mem_singleton.mp hp]; exact hQ)
noncomputable def cD_gb1 : sC := ((175, 400, 20), ([tr 0, .arg 59968], [tr 219, .arg 59968]), (fT1, fT2), [], ([1442, 2080, 2240] ++ c_rat1.2.2.2.2.1.1, c_rat1.2.2.2.2.1.2), (none, none), [], ([], []))
theorem cD_gb1_f : cfine zT 65536 cD_gb1 = true := by decide +kernel
noncomputable def q_tgb1 : sCut := (tG1.1, tG1.2, ((0, .arg 1442, .int 0), false) :: ((2, .sub (.arg 1280) (.arg 1920), .int 128), false) :: c_rat1.2.2.2.1, c_rat1.2.2.2.2.2.2.2.1)
noncomputable def p_tgb1 : sCut := (tG2.1, tG2.2, c_rat1.2.2.2.2.2.2.1, c_rat1.2.2.2.2.2.2.2.2)
theorem k_tgb1 : cbody kR [(zT, c_rat1)] (cpl1 zT cD_gb1 [p_tgb1]) (cpl2 zT cD_gb1 [p_tgb1]) (cleafN kR zT cD_gb1 [p_tgb1]) 200 true true q_tgb1.2.2.1 q_tgb1.2.2.2 (cst zT cD_gb1.2.2.1.1 q_tgb1.1) (cst zT cD_gb1.2.2.1.2 q_tgb1.2.1) = true := by decide +kernel
theorem r_tgb1 {X : pX} {J : sR → List Value → List Value → Prop} {ρ : sR} (k1 : kok X ρ kR) (k2 : fok X ρ q_tgb1.2.2.1) (k3 : iok X ρ q_tgb1.2.2.2) (hQ : ∀ ρ3 : sR, kok X ρ3 kR → fok X ρ3 p_tgb1.2.2.1 → iok X ρ3 p_tgb1.2.2.2 → agrM 65536 cD_gb1.2.2.2.2.1.1 cD_gb1.2.2.2.2.1.2 ρ3 ρ → RPt X J ρ3 tG2) : RPt X J ρ tG1 := CUT_P kR_x kR_0 (Cs := [(zT, c_rat1)]) (fun C hC => by rw [List.mem_singleton.mp hC]; exact s_rat1) cD_gb1_f (Q := [p_tgb1]) 200 k_tgb1 k1 k2 k3 (fun p hp => by rw [List.mem_singleton.mp hp]; exact hQ)
noncomputable def cD_gb2 : sC := ((175, 400, 20), ([tr 0, .arg 59968], [tr 219, .arg 59968]), (fT1, fT2), [], ([1474, 2112, 2272] ++ c_rat2.2.2.2.2.1.1, c_rat2.2.2.2.2.1.2), (none, none), [], ([], []))
theorem cD_gb2_f : cfine zT 65536 cD_gb2 = true := by decide +kernel
noncomputable def q_tgb2 : sCut := (tG2.1, tG2.2, ((0, .arg 1474, .int 0), false) :: ((2, .sub (.arg 1280) (.arg 1952), .int 128), false) :: c_rat2.2.2.2.1, c_rat2.2.2.2.2.2.2.2.1)
noncomputable def p_tgb2 : sCut := (tG3.1, tG3.2, c_rat2.2.2.2.2.2.2.1, c_rat2.2.2.2.2.2.2.2.2)
theorem k_tgb2 : cbody kR [(zT, c_rat2)] (cpl1 zT cD_gb2 [p_tgb2]) (cpl2 zT cD_gb2 [p_tgb2]) (cleafN kR zT cD_gb2 [p_tgb2]) 200 true true q_tgb2.2.2.1 q_tgb2.2.2.2 (cst zT cD_gb2.2.2.1.1 q_tgb2.1) (cst zT cD_gb2.2.2.1.2 q_tgb2.2.1) = true := by decide +kernel
theorem r_tgb2 {X : pX} {J : sR → List Value → List Value → Prop} {ρ : sR} (k1 : kok X ρ kR) (k2 : fok X ρ q_tgb2.2.2.1) (k3 : iok X ρ q_tgb2.2.2.2) (hQ : ∀ ρ3 : sR, kok X ρ3 kR → fok X ρ3 p_tgb2.2.2.1 → iok X ρ3 p_tgb2.2.2.2 → agrM 65536 cD_gb2.2.2.2.2.1.1 cD_gb2.2.2.2.2.1.2 ρ3 ρ → RPt X J ρ3 tG3) : RPt X J ρ tG2 := CUT_P kR_x kR_0 (Cs := [(zT, c_rat2)]) (fun C hC => by rw [List.mem_singleton.mp hC]; exact s_rat2) cD_gb2_f (Q := [p_tgb2]) 200 k_tgb2 k1 k2 k3 (fun p hp => by rw [List.mem_singleton.mp hp]; exact hQ)
noncomputable def cD_gb3 : sC := ((175, 400, 20), ([tr 0, .arg 59968], [tr 219, .arg 59968]), (fT1, fT2), [], ([1506, 2144, 2304] ++ c_rat3.2.2.2.2.1.1, c_rat3.2.2.2.2.1.2), (none, none), [], ([], []))
theorem cD_gb3_f : cfine zT 65536 cD_gb3 = true := by decide +kernel
noncomputable def q_tgb3 : sCut := (tG3.1, tG3.2, ((0, .arg 1506, .int 0), false) :: ((2, .sub (.arg 1280) (.arg 1984), .int 128), false) :: c_rat3.2.2.2.1, c_rat3.2.2.2.2.2.2.2.1)
noncomputable def p_tgb3 : sCut := (tG4.1, tG4.2, c_rat3.2.2.2.2.2.2.1, c_rat3.2.2.2.2.2.2.2.2)
theorem k_tgb3 : cbody kR [(zT, c_rat3)] (cpl1 zT cD_gb3 [p_tgb3]) (cpl2 zT cD_gb3 [p_tgb3]) (cleafN kR zT cD_gb3 [p_tgb3]) 200 true true q_tgb3.2.2.1 q_tgb3.2.2.2 (cst zT cD_gb3.2.2.1.1 q_tgb3.1) (cst zT cD_gb3.2.2.1.2 q_tgb3.2.1) = true := by decide +kernel
theorem r_tgb3 {X : pX} {J : sR → List Value → List Value → Prop} {ρ : sR} (k1 : kok X ρ kR) (k2 : fok X ρ q_tgb3.2.2.1) (k3 : iok X ρ q_tgb3.2.2.2) (hQ : ∀ ρ3 : sR, kok X ρ3 kR → fok X ρ3 p_tgb3.2.2.1 → iok X ρ3 p_tgb3.2.2.2 → agrM 65536 cD_gb3.2.2.2.2.1.1 cD_gb3.2.2.2.2.1.2 ρ3 ρ → RPt X J ρ3 tG4) : RPt X J ρ tG3 := CUT_P kR_x kR_0 (Cs := [(zT, c_rat3)]) (fun C hC => by rw [List.mem_singleton.mp hC]; exact s_rat3) cD_gb3_f (Q := [p_tgb3]) 200 k_tgb3 k1 k2 k3 (fun p hp => by rw [List.mem_singleton.mp hp]; exact hQ)
