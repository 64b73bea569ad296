set_option maxRecDepth 20000
/-! ===== power on and off ===== -/
noncomputable def tPw : (sF × List sF × Nat) × (sF × List sF × Nat) := ((fr 0 177 31 [] [], [fBot], 18), (fr 0 402 76 [] [], [fBot], 19))
noncomputable def tPs : (sF × List sF × Nat) × (sF × List sF × Nat) := ((fr 0 177 9 [] [], [fBot], 18), (fr 0 402 17 [] [], [fBot], 19))
noncomputable def q_tePw : sCut := (tPw.1, tPw.2, [], [])
theorem k_tePw : cbody kR [] [] [] (lendP kR zT cD_en.2.2.1.1 cD_en.2.2.1.2 [.int 1] [.int 1]) 100 true true q_tePw.2.2.1 q_tePw.2.2.2 (cst zT cD_en.2.2.1.1 q_tePw.1) (cst zT cD_en.2.2.1.2 q_tePw.2.1) = true := by decide +kernel
theorem c_EPw {X : pX} {J : sR → List Value → List Value → Prop} {ρ : sR} (hk : kok X ρ kR) (hv : vok X ρ) (hJ : J ρ (dS X ρ [.int 1]) (dS X ρ [.int 1])) : RPt X J ρ tPw := END_P kR_x kR_0 (Cs := []) (fun C hC => by cases hC) cD_en_f 100 (q := q_tePw) k_tePw hk ⟨hv, fun f hf => by cases hf⟩ (fun c hc => by cases hc) hJ
noncomputable def q_tePs : sCut := (tPs.1, tPs.2, [], [])
theorem k_tePs : cbody kR [] [] [] (lendP kR zT cD_en.2.2.1.1 cD_en.2.2.1.2 [.int 0] [.int 0]) 100 true true q_tePs.2.2.1 q_tePs.2.2.2 (cst zT cD_en.2.2.1.1 q_tePs.1) (cst zT cD_en.2.2.1.2 q_tePs.2.1) = true := by decide +kernel
theorem c_EPs {X : pX} {J : sR → List Value → List Value → Prop} {ρ : sR} (hk : kok X ρ kR) (hv : vok X ρ) (hJ : J ρ (dS X ρ [.int 0]) (dS X ρ [.int 0])) : RPt X J ρ tPs := END_P kR_x kR_0 (Cs := []) (fun C hC => by cases hC) cD_en_f 100 (q := q_tePs) k_tePs hk ⟨hv, fun f hf => by cases hf⟩ (fun c hc => by cases hc) hJ
noncomputable def fpf_0 : sFs := [((0, .arg 1282, .int 0), true), ((0, .arg 19232, .int 0), true), ((0, .arg 19904, .int 0), true), ((0, .arg 1728, .int 0), true), ((0, .arg 20064, .int 0), true), ((0, .arg 20192, .int 0), true), ((0, .arg 21728, .int 0), true), ((0, .arg 1574, .int 0), true), ((0, .arg 1702, .int 0), true), ((6, .arg 5313, .arg 1697), true), ((6, .arg 1665, .long 0), true), ((6, .arg 1729, .long 0), true), ((0, .arg 1410, .int 0), true)]
noncomputable def cD_pf0 : sC := ((177, 402, 20), ([tr 0, .int 0, .int 0], [tr 219, .int 0, .int 0]), (fT1, fT2), [], ([1282, 1290, 1298, 1300, 1302, 1318, 1330, 1350, 1410, 1574, 1633, 1665, 1698, 1702, 1728, 1729, 1730, 1826, 1858, 1890, 1922, 1954, 1986, 2018, 2048, 2050, 2081, 2113, 2208, 2368, 2688, 2784, 2816, 2848, 3008, 3168, 3232, 3264, 3296, 3328, 3360, 5313, 19232, 19904, 20064, 20192, 21728], []), (none, none), [], ([], []))
theorem cD_pf0_f : cfine zT 65536 cD_pf0 = true := by decide +kernel
noncomputable def f_pf0 : sFs := [((0, .arg 1282, .int 0), false)]
noncomputable def p_pf0 : sCut := (tPw.1, tPw.2, fpf_0, [])
theorem e_pf0 : frun kR [] (cpl1 zT cD_pf0 [p_pf0]) (cpl2 zT cD_pf0 [p_pf0]) (cleafN kR zT cD_pf0 [p_pf0]) 400 65536 (isatP f_pf0 []) [] (sin0 mt_all cD_pf0.1.1 18 cD_pf0.2.1.1 (foot zT cD_pf0.2.2.1.1)) (sin0 mt_all cD_pf0.1.2.1 19 cD_pf0.2.1.2 (foot zT cD_pf0.2.2.1.2)) = true := by decide +kernel
theorem r_pf0 {X : pX} {J : sR → List Value → List Value → Prop} {ρ : sR} (k1 : kok X ρ kR) (k2 : fok X ρ f_pf0) (hQ : ∀ ρ3 : sR, kok X ρ3 kR → fok X ρ3 p_pf0.2.2.1 → agrM 65536 cD_pf0.2.2.2.2.1.1 cD_pf0.2.2.2.2.1.2 ρ3 ρ → RPt X J ρ3 tPw) : RelP X pF pdfl mt_all 19 20 (foot zT fT1) (foot zT fT2) J ρ (sin0 mt_all 177 18 cD_pf0.2.1.1 (foot zT fT1)) (sin0 mt_all 402 19 cD_pf0.2.1.2 (foot zT fT2)) := START_P kR_x kR_0 (Cs := []) (fun C hC => by cases hC) cD_pf0_f (Q := [p_pf0]) 400 e_pf0 k1 k2 (fun c hc => by cases hc) (fun p hp => by
  rw [List.mem_singleton.mp hp]
  exact fun ρ3 k3 f3 _ am => hQ ρ3 k3 f3 am)
noncomputable def fpf_1 : sFs := [((0, .arg 1314, .int 0), true), ((0, .arg 19232, .int 0), true), ((0, .arg 19936, .int 0), true), ((0, .arg 1760, .int 0), true), ((0, .arg 20096, .int 0), true), ((0, .arg 20224, .int 0), true), ((0, .arg 21760, .int 0), true), ((0, .arg 1606, .int 0), true), ((0, .arg 1734, .int 0), true), ((6, .arg 5345, .arg 2561), true), ((6, .arg 2529, .long 0), true), ((6, .arg 2593, .long 0), true), ((0, .arg 1442, .int 0), true)]
noncomputable def cD_pf1 : sC := ((177, 402, 20), ([tr 0, .int 1, .int 0], [tr 219, .int 1, .int 0]), (fT1, fT2), [], ([1314, 1322, 1332, 1334, 1362, 1382, 1394, 1414, 1442, 1606, 1734, 1760, 2080, 2240, 2400, 2497, 2529, 2593, 2626, 2658, 2754, 2786, 2818, 2850, 2882, 2914, 2945, 2946, 2977, 2978, 5345, 6464, 6560, 6592, 6624, 6784, 6944, 7008, 7040, 7072, 7104, 7136, 19232, 19936, 20096, 20224, 21760], []), (none, none), [], ([], []))
theorem cD_pf1_f : cfine zT 65536 cD_pf1 = true := by decide +kernel
noncomputable def f_pf1 : sFs := [((0, .arg 1314, .int 0), false)]
noncomputable def p_pf1 : sCut := (tPw.1, tPw.2, fpf_1, [])
theorem e_pf1 : frun kR [] (cpl1 zT cD_pf1 [p_pf1]) (cpl2 zT cD_pf1 [p_pf1]) (cleafN kR zT cD_pf1 [p_pf1]) 400 65536 (isatP f_pf1 []) [] (sin0 mt_all cD_pf1.1.1 18 cD_pf1.2.1.1 (foot zT cD_pf1.2.2.1.1)) (sin0 mt_all cD_pf1.1.2.1 19 cD_pf1.2.1.2 (foot zT cD_pf1.2.2.1.2)) = true := by decide +kernel
theorem r_pf1 {X : pX} {J : sR → List Value → List Value → Prop} {ρ : sR} (k1 : kok X ρ kR) (k2 : fok X ρ f_pf1) (hQ : ∀ ρ3 : sR, kok X ρ3 kR → fok X ρ3 p_pf1.2.2.1 → agrM 65536 cD_pf1.2.2.2.2.1.1 cD_pf1.2.2.2.2.1.2 ρ3 ρ → RPt X J ρ3 tPw) : RelP X pF pdfl mt_all 19 20 (foot zT fT1) (foot zT fT2) J ρ (sin0 mt_all 177 18 cD_pf1.2.1.1 (foot zT fT1)) (sin0 mt_all 402 19 cD_pf1.2.1.2 (foot zT fT2)) := START_P kR_x kR_0 (Cs := []) (fun C hC => by cases hC) cD_pf1_f (Q := [p_pf1]) 400 e_pf1 k1 k2 (fun c hc => by cases hc) (fun p hp => by
  rw [List.mem_singleton.mp hp]
  exact fun ρ3 k3 f3 _ am => hQ ρ3 k3 f3 am)
noncomputable def fpf_2 : sFs := [((0, .arg 1346, .int 0), true), ((0, .arg 19232, .int 0), true), ((0, .arg 19968, .int 0), true), ((0, .arg 1792, .int 0), true), ((0, .arg 20128, .int 0), true), ((0, .arg 20256, .int 0), true), ((0, .arg 21792, .int 0), true), ((0, .arg 1638, .int 0), true), ((0, .arg 1766, .int 0), true), ((6, .arg 5377, .arg 3425), true), ((6, .arg 3393, .long 0), true), ((6, .arg 3457, .long 0), true), ((0, .arg 1474, .int 0), true)]
noncomputable def cD_pf2 : sC := ((177, 402, 20), ([tr 0, .int 2, .int 0], [tr 219, .int 2, .int 0]), (fT1, fT2), [], ([1346, 1354, 1364, 1366, 1426, 1446, 1458, 1474, 1478, 1638, 1766, 1792, 2112, 2272, 2432, 3361, 3393, 3457, 3554, 3586, 3682, 3714, 3746, 3778, 3809, 3810, 3841, 3842, 3874, 3906, 5377, 10240, 10336, 10368, 10400, 10560, 10720, 10784, 10816, 10848, 10880, 10912, 19232, 19968, 20128, 20256, 21792], []), (none, none), [], ([], []))
theorem cD_pf2_f : cfine zT 65536 cD_pf2 = true := by decide +kernel
noncomputable def f_pf2 : sFs := [((0, .arg 1346, .int 0), false)]
noncomputable def p_pf2 : sCut := (tPw.1, tPw.2, fpf_2, [])
theorem e_pf2 : frun kR [] (cpl1 zT cD_pf2 [p_pf2]) (cpl2 zT cD_pf2 [p_pf2]) (cleafN kR zT cD_pf2 [p_pf2]) 400 65536 (isatP f_pf2 []) [] (sin0 mt_all cD_pf2.1.1 18 cD_pf2.2.1.1 (foot zT cD_pf2.2.2.1.1)) (sin0 mt_all cD_pf2.1.2.1 19 cD_pf2.2.1.2 (foot zT cD_pf2.2.2.1.2)) = true := by decide +kernel
theorem r_pf2 {X : pX} {J : sR → List Value → List Value → Prop} {ρ : sR} (k1 : kok X ρ kR) (k2 : fok X ρ f_pf2) (hQ : ∀ ρ3 : sR, kok X ρ3 kR → fok X ρ3 p_pf2.2.2.1 → agrM 65536 cD_pf2.2.2.2.2.1.1 cD_pf2.2.2.2.2.1.2 ρ3 ρ → RPt X J ρ3 tPw) : RelP X pF pdfl mt_all 19 20 (foot zT fT1) (foot zT fT2) J ρ (sin0 mt_all 177 18 cD_pf2.2.1.1 (foot zT fT1)) (sin0 mt_all 402 19 cD_pf2.2.1.2 (foot zT fT2)) := START_P kR_x kR_0 (Cs := []) (fun C hC => by cases hC) cD_pf2_f (Q := [p_pf2]) 400 e_pf2 k1 k2 (fun c hc => by cases hc) (fun p hp => by
  rw [List.mem_singleton.mp hp]
  exact fun ρ3 k3 f3 _ am => hQ ρ3 k3 f3 am)
noncomputable def fpf_3 : sFs := [((0, .arg 1378, .int 0), true), ((0, .arg 19232, .int 0), true), ((0, .arg 20000, .int 0), true), ((0, .arg 1824, .int 0), true), ((0, .arg 20160, .int 0), true), ((0, .arg 20288, .int 0), true), ((0, .arg 21824, .int 0), true), ((0, .arg 1670, .int 0), true), ((0, .arg 1798, .int 0), true), ((6, .arg 5409, .arg 4289), true), ((6, .arg 4257, .long 0), true), ((6, .arg 4321, .long 0), true), ((0, .arg 1506, .int 0), true)]
noncomputable def cD_pf3 : sC := ((177, 402, 20), ([tr 0, .int 3, .int 0], [tr 219, .int 3, .int 0]), (fT1, fT2), [], ([1378, 1386, 1396, 1398, 1490, 1506, 1510, 1522, 1542, 1670, 1798, 1824, 2144, 2304, 2464, 4225, 4257, 4321, 4482, 4514, 4610, 4642, 4673, 4674, 4705, 4706, 4738, 4770, 4802, 4834, 5409, 14016, 14112, 14144, 14176, 14336, 14496, 14560, 14592, 14624, 14656, 14688, 19232, 20000, 20160, 20288, 21824], []), (none, none), [], ([], []))
theorem cD_pf3_f : cfine zT 65536 cD_pf3 = true := by decide +kernel
noncomputable def f_pf3 : sFs := [((0, .arg 1378, .int 0), false)]
noncomputable def p_pf3 : sCut := (tPw.1, tPw.2, fpf_3, [])
theorem e_pf3 : frun kR [] (cpl1 zT cD_pf3 [p_pf3]) (cpl2 zT cD_pf3 [p_pf3]) (cleafN kR zT cD_pf3 [p_pf3]) 400 65536 (isatP f_pf3 []) [] (sin0 mt_all cD_pf3.1.1 18 cD_pf3.2.1.1 (foot zT cD_pf3.2.2.1.1)) (sin0 mt_all cD_pf3.1.2.1 19 cD_pf3.2.1.2 (foot zT cD_pf3.2.2.1.2)) = true := by decide +kernel
theorem r_pf3 {X : pX} {J : sR → List Value → List Value → Prop} {ρ : sR} (k1 : kok X ρ kR) (k2 : fok X ρ f_pf3) (hQ : ∀ ρ3 : sR, kok X ρ3 kR → fok X ρ3 p_pf3.2.2.1 → agrM 65536 cD_pf3.2.2.2.2.1.1 cD_pf3.2.2.2.2.1.2 ρ3 ρ → RPt X J ρ3 tPw) : RelP X pF pdfl mt_all 19 20 (foot zT fT1) (foot zT fT2) J ρ (sin0 mt_all 177 18 cD_pf3.2.1.1 (foot zT fT1)) (sin0 mt_all 402 19 cD_pf3.2.1.2 (foot zT fT2)) := START_P kR_x kR_0 (Cs := []) (fun C hC => by cases hC) cD_pf3_f (Q := [p_pf3]) 400 e_pf3 k1 k2 (fun c hc => by cases hc) (fun p hp => by
  rw [List.mem_singleton.mp hp]
  exact fun ρ3 k3 f3 _ am => hQ ρ3 k3 f3 am)
noncomputable def cD_ps00 : sC := ((177, 402, 20), ([tr 0, .int 0, .int 0], [tr 219, .int 0, .int 0]), (fT1, fT2), [], ([19232], []), (none, none), [], ([], []))
theorem cD_ps00_f : cfine zT 65536 cD_ps00 = true := by decide +kernel
noncomputable def f_ps00 : sFs := [((0, .arg 1282, .int 0), true)]
noncomputable def p_ps00 : sCut := (tPs.1, tPs.2, [((0, .arg 19232, .int 0), true)], [])
theorem e_ps00 : frun kR [] (cpl1 zT cD_ps00 [p_ps00]) (cpl2 zT cD_ps00 [p_ps00]) (cleafN kR zT cD_ps00 [p_ps00]) 400 65536 (isatP f_ps00 []) [] (sin0 mt_all cD_ps00.1.1 18 cD_ps00.2.1.1 (foot zT cD_ps00.2.2.1.1)) (sin0 mt_all cD_ps00.1.2.1 19 cD_ps00.2.1.2 (foot zT cD_ps00.2.2.1.2)) = true := by decide +kernel
theorem r_ps00 {X : pX} {J : sR → List Value → List Value → Prop} {ρ : sR} (k1 : kok X ρ kR) (k2 : fok X ρ f_ps00) (hQ : ∀ ρ3 : sR, kok X ρ3 kR → fok X ρ3 p_ps00.2.2.1 → agrM 65536 cD_ps00.2.2.2.2.1.1 cD_ps00.2.2.2.2.1.2 ρ3 ρ → RPt X J ρ3 tPs) : RelP X pF pdfl mt_all 19 20 (foot zT fT1) (foot zT fT2) J ρ (sin0 mt_all 177 18 cD_ps00.2.1.1 (foot zT fT1)) (sin0 mt_all 402 19 cD_ps00.2.1.2 (foot zT fT2)) := START_P kR_x kR_0 (Cs := []) (fun C hC => by cases hC) cD_ps00_f (Q := [p_ps00]) 400 e_ps00 k1 k2 (fun c hc => by cases hc) (fun p hp => by
  rw [List.mem_singleton.mp hp]
  exact fun ρ3 k3 f3 _ am => hQ ρ3 k3 f3 am)
noncomputable def cD_ps01 : sC := ((177, 402, 20), ([tr 0, .int 0, .int 1], [tr 219, .int 0, .int 1]), (fT1, fT2), [], ([19232], []), (none, none), [], ([], []))
theorem cD_ps01_f : cfine zT 65536 cD_ps01 = true := by decide +kernel
noncomputable def f_ps01 : sFs := [((0, .arg 1282, .int 0), false)]
noncomputable def p_ps01 : sCut := (tPs.1, tPs.2, [((0, .arg 19232, .int 0), true)], [])
theorem e_ps01 : frun kR [] (cpl1 zT cD_ps01 [p_ps01]) (cpl2 zT cD_ps01 [p_ps01]) (cleafN kR zT cD_ps01 [p_ps01]) 400 65536 (isatP f_ps01 []) [] (sin0 mt_all cD_ps01.1.1 18 cD_ps01.2.1.1 (foot zT cD_ps01.2.2.1.1)) (sin0 mt_all cD_ps01.1.2.1 19 cD_ps01.2.1.2 (foot zT cD_ps01.2.2.1.2)) = true := by decide +kernel
theorem r_ps01 {X : pX} {J : sR → List Value → List Value → Prop} {ρ : sR} (k1 : kok X ρ kR) (k2 : fok X ρ f_ps01) (hQ : ∀ ρ3 : sR, kok X ρ3 kR → fok X ρ3 p_ps01.2.2.1 → agrM 65536 cD_ps01.2.2.2.2.1.1 cD_ps01.2.2.2.2.1.2 ρ3 ρ → RPt X J ρ3 tPs) : RelP X pF pdfl mt_all 19 20 (foot zT fT1) (foot zT fT2) J ρ (sin0 mt_all 177 18 cD_ps01.2.1.1 (foot zT fT1)) (sin0 mt_all 402 19 cD_ps01.2.1.2 (foot zT fT2)) := START_P kR_x kR_0 (Cs := []) (fun C hC => by cases hC) cD_ps01_f (Q := [p_ps01]) 400 e_ps01 k1 k2 (fun c hc => by cases hc) (fun p hp => by
  rw [List.mem_singleton.mp hp]
  exact fun ρ3 k3 f3 _ am => hQ ρ3 k3 f3 am)
noncomputable def cD_ps10 : sC := ((177, 402, 20), ([tr 0, .int 1, .int 0], [tr 219, .int 1, .int 0]), (fT1, fT2), [], ([19232], []), (none, none), [], ([], []))
theorem cD_ps10_f : cfine zT 65536 cD_ps10 = true := by decide +kernel
noncomputable def f_ps10 : sFs := [((0, .arg 1314, .int 0), true)]
noncomputable def p_ps10 : sCut := (tPs.1, tPs.2, [((0, .arg 19232, .int 0), true)], [])
theorem e_ps10 : frun kR [] (cpl1 zT cD_ps10 [p_ps10]) (cpl2 zT cD_ps10 [p_ps10]) (cleafN kR zT cD_ps10 [p_ps10]) 400 65536 (isatP f_ps10 []) [] (sin0 mt_all cD_ps10.1.1 18 cD_ps10.2.1.1 (foot zT cD_ps10.2.2.1.1)) (sin0 mt_all cD_ps10.1.2.1 19 cD_ps10.2.1.2 (foot zT cD_ps10.2.2.1.2)) = true := by decide +kernel
theorem r_ps10 {X : pX} {J : sR → List Value → List Value → Prop} {ρ : sR} (k1 : kok X ρ kR) (k2 : fok X ρ f_ps10) (hQ : ∀ ρ3 : sR, kok X ρ3 kR → fok X ρ3 p_ps10.2.2.1 → agrM 65536 cD_ps10.2.2.2.2.1.1 cD_ps10.2.2.2.2.1.2 ρ3 ρ → RPt X J ρ3 tPs) : RelP X pF pdfl mt_all 19 20 (foot zT fT1) (foot zT fT2) J ρ (sin0 mt_all 177 18 cD_ps10.2.1.1 (foot zT fT1)) (sin0 mt_all 402 19 cD_ps10.2.1.2 (foot zT fT2)) := START_P kR_x kR_0 (Cs := []) (fun C hC => by cases hC) cD_ps10_f (Q := [p_ps10]) 400 e_ps10 k1 k2 (fun c hc => by cases hc) (fun p hp => by
  rw [List.mem_singleton.mp hp]
  exact fun ρ3 k3 f3 _ am => hQ ρ3 k3 f3 am)
noncomputable def cD_ps11 : sC := ((177, 402, 20), ([tr 0, .int 1, .int 1], [tr 219, .int 1, .int 1]), (fT1, fT2), [], ([19232], []), (none, none), [], ([], []))
theorem cD_ps11_f : cfine zT 65536 cD_ps11 = true := by decide +kernel
noncomputable def f_ps11 : sFs := [((0, .arg 1314, .int 0), false)]
noncomputable def p_ps11 : sCut := (tPs.1, tPs.2, [((0, .arg 19232, .int 0), true)], [])
theorem e_ps11 : frun kR [] (cpl1 zT cD_ps11 [p_ps11]) (cpl2 zT cD_ps11 [p_ps11]) (cleafN kR zT cD_ps11 [p_ps11]) 400 65536 (isatP f_ps11 []) [] (sin0 mt_all cD_ps11.1.1 18 cD_ps11.2.1.1 (foot zT cD_ps11.2.2.1.1)) (sin0 mt_all cD_ps11.1.2.1 19 cD_ps11.2.1.2 (foot zT cD_ps11.2.2.1.2)) = true := by decide +kernel
theorem r_ps11 {X : pX} {J : sR → List Value → List Value → Prop} {ρ : sR} (k1 : kok X ρ kR) (k2 : fok X ρ f_ps11) (hQ : ∀ ρ3 : sR, kok X ρ3 kR → fok X ρ3 p_ps11.2.2.1 → agrM 65536 cD_ps11.2.2.2.2.1.1 cD_ps11.2.2.2.2.1.2 ρ3 ρ → RPt X J ρ3 tPs) : RelP X pF pdfl mt_all 19 20 (foot zT fT1) (foot zT fT2) J ρ (sin0 mt_all 177 18 cD_ps11.2.1.1 (foot zT fT1)) (sin0 mt_all 402 19 cD_ps11.2.1.2 (foot zT fT2)) := START_P kR_x kR_0 (Cs := []) (fun C hC => by cases hC) cD_ps11_f (Q := [p_ps11]) 400 e_ps11 k1 k2 (fun c hc => by cases hc) (fun p hp => by
  rw [List.mem_singleton.mp hp]
  exact fun ρ3 k3 f3 _ am => hQ ρ3 k3 f3 am)
noncomputable def cD_ps20 : sC := ((177, 402, 20), ([tr 0, .int 2, .int 0], [tr 219, .int 2, .int 0]), (fT1, fT2), [], ([19232], []), (none, none), [], ([], []))
theorem cD_ps20_f : cfine zT 65536 cD_ps20 = true := by decide +kernel
noncomputable def f_ps20 : sFs := [((0, .arg 1346, .int 0), true)]
noncomputable def p_ps20 : sCut := (tPs.1, tPs.2, [((0, .arg 19232, .int 0), true)], [])
theorem e_ps20 : frun kR [] (cpl1 zT cD_ps20 [p_ps20]) (cpl2 zT cD_ps20 [p_ps20]) (cleafN kR zT cD_ps20 [p_ps20]) 400 65536 (isatP f_ps20 []) [] (sin0 mt_all cD_ps20.1.1 18 cD_ps20.2.1.1 (foot zT cD_ps20.2.2.1.1)) (sin0 mt_all cD_ps20.1.2.1 19 cD_ps20.2.1.2 (foot zT cD_ps20.2.2.1.2)) = true := by decide +kernel
theorem r_ps20 {X : pX} {J : sR → List Value → List Value → Prop} {ρ : sR} (k1 : kok X ρ kR) (k2 : fok X ρ f_ps20) (hQ : ∀ ρ3 : sR, kok X ρ3 kR → fok X ρ3 p_ps20.2.2.1 → agrM 65536 cD_ps20.2.2.2.2.1.1 cD_ps20.2.2.2.2.1.2 ρ3 ρ → RPt X J ρ3 tPs) : RelP X pF pdfl mt_all 19 20 (foot zT fT1) (foot zT fT2) J ρ (sin0 mt_all 177 18 cD_ps20.2.1.1 (foot zT fT1)) (sin0 mt_all 402 19 cD_ps20.2.1.2 (foot zT fT2)) := START_P kR_x kR_0 (Cs := []) (fun C hC => by cases hC) cD_ps20_f (Q := [p_ps20]) 400 e_ps20 k1 k2 (fun c hc => by cases hc) (fun p hp => by
  rw [List.mem_singleton.mp hp]
  exact fun ρ3 k3 f3 _ am => hQ ρ3 k3 f3 am)
noncomputable def cD_ps21 : sC := ((177, 402, 20), ([tr 0, .int 2, .int 1], [tr 219, .int 2, .int 1]), (fT1, fT2), [], ([19232], []), (none, none), [], ([], []))
theorem cD_ps21_f : cfine zT 65536 cD_ps21 = true := by decide +kernel
noncomputable def f_ps21 : sFs := [((0, .arg 1346, .int 0), false)]
noncomputable def p_ps21 : sCut := (tPs.1, tPs.2, [((0, .arg 19232, .int 0), true)], [])
theorem e_ps21 : frun kR [] (cpl1 zT cD_ps21 [p_ps21]) (cpl2 zT cD_ps21 [p_ps21]) (cleafN kR zT cD_ps21 [p_ps21]) 400 65536 (isatP f_ps21 []) [] (sin0 mt_all cD_ps21.1.1 18 cD_ps21.2.1.1 (foot zT cD_ps21.2.2.1.1)) (sin0 mt_all cD_ps21.1.2.1 19 cD_ps21.2.1.2 (foot zT cD_ps21.2.2.1.2)) = true := by decide +kernel
theorem r_ps21 {X : pX} {J : sR → List Value → List Value → Prop} {ρ : sR} (k1 : kok X ρ kR) (k2 : fok X ρ f_ps21) (hQ : ∀ ρ3 : sR, kok X ρ3 kR → fok X ρ3 p_ps21.2.2.1 → agrM 65536 cD_ps21.2.2.2.2.1.1 cD_ps21.2.2.2.2.1.2 ρ3 ρ → RPt X J ρ3 tPs) : RelP X pF pdfl mt_all 19 20 (foot zT fT1) (foot zT fT2) J ρ (sin0 mt_all 177 18 cD_ps21.2.1.1 (foot zT fT1)) (sin0 mt_all 402 19 cD_ps21.2.1.2 (foot zT fT2)) := START_P kR_x kR_0 (Cs := []) (fun C hC => by cases hC) cD_ps21_f (Q := [p_ps21]) 400 e_ps21 k1 k2 (fun c hc => by cases hc) (fun p hp => by
  rw [List.mem_singleton.mp hp]
  exact fun ρ3 k3 f3 _ am => hQ ρ3 k3 f3 am)
noncomputable def cD_ps30 : sC := ((177, 402, 20), ([tr 0, .int 3, .int 0], [tr 219, .int 3, .int 0]), (fT1, fT2), [], ([19232], []), (none, none), [], ([], []))
theorem cD_ps30_f : cfine zT 65536 cD_ps30 = true := by decide +kernel
noncomputable def f_ps30 : sFs := [((0, .arg 1378, .int 0), true)]
noncomputable def p_ps30 : sCut := (tPs.1, tPs.2, [((0, .arg 19232, .int 0), true)], [])
theorem e_ps30 : frun kR [] (cpl1 zT cD_ps30 [p_ps30]) (cpl2 zT cD_ps30 [p_ps30]) (cleafN kR zT cD_ps30 [p_ps30]) 400 65536 (isatP f_ps30 []) [] (sin0 mt_all cD_ps30.1.1 18 cD_ps30.2.1.1 (foot zT cD_ps30.2.2.1.1)) (sin0 mt_all cD_ps30.1.2.1 19 cD_ps30.2.1.2 (foot zT cD_ps30.2.2.1.2)) = true := by decide +kernel
theorem r_ps30 {X : pX} {J : sR → List Value → List Value → Prop} {ρ : sR} (k1 : kok X ρ kR) (k2 : fok X ρ f_ps30) (hQ : ∀ ρ3 : sR, kok X ρ3 kR → fok X ρ3 p_ps30.2.2.1 → agrM 65536 cD_ps30.2.2.2.2.1.1 cD_ps30.2.2.2.2.1.2 ρ3 ρ → RPt X J ρ3 tPs) : RelP X pF pdfl mt_all 19 20 (foot zT fT1) (foot zT fT2) J ρ (sin0 mt_all 177 18 cD_ps30.2.1.1 (foot zT fT1)) (sin0 mt_all 402 19 cD_ps30.2.1.2 (foot zT fT2)) := START_P kR_x kR_0 (Cs := []) (fun C hC => by cases hC) cD_ps30_f (Q := [p_ps30]) 400 e_ps30 k1 k2 (fun c hc => by cases hc) (fun p hp => by
  rw [List.mem_singleton.mp hp]
  exact fun ρ3 k3 f3 _ am => hQ ρ3 k3 f3 am)
noncomputable def cD_ps31 : sC := ((177, 402, 20), ([tr 0, .int 3, .int 1], [tr 219, .int 3, .int 1]), (fT1, fT2), [], ([19232], []), (none, none), [], ([], []))
theorem cD_ps31_f : cfine zT 65536 cD_ps31 = true := by decide +kernel
noncomputable def f_ps31 : sFs := [((0, .arg 1378, .int 0), false)]
noncomputable def p_ps31 : sCut := (tPs.1, tPs.2, [((0, .arg 19232, .int 0), true)], [])
theorem e_ps31 : frun kR [] (cpl1 zT cD_ps31 [p_ps31]) (cpl2 zT cD_ps31 [p_ps31]) (cleafN kR zT cD_ps31 [p_ps31]) 400 65536 (isatP f_ps31 []) [] (sin0 mt_all cD_ps31.1.1 18 cD_ps31.2.1.1 (foot zT cD_ps31.2.2.1.1)) (sin0 mt_all cD_ps31.1.2.1 19 cD_ps31.2.1.2 (foot zT cD_ps31.2.2.1.2)) = true := by decide +kernel
theorem r_ps31 {X : pX} {J : sR → List Value → List Value → Prop} {ρ : sR} (k1 : kok X ρ kR) (k2 : fok X ρ f_ps31) (hQ : ∀ ρ3 : sR, kok X ρ3 kR → fok X ρ3 p_ps31.2.2.1 → agrM 65536 cD_ps31.2.2.2.2.1.1 cD_ps31.2.2.2.2.1.2 ρ3 ρ → RPt X J ρ3 tPs) : RelP X pF pdfl mt_all 19 20 (foot zT fT1) (foot zT fT2) J ρ (sin0 mt_all 177 18 cD_ps31.2.1.1 (foot zT fT1)) (sin0 mt_all 402 19 cD_ps31.2.1.2 (foot zT fT2)) := START_P kR_x kR_0 (Cs := []) (fun C hC => by cases hC) cD_ps31_f (Q := [p_ps31]) 400 e_ps31 k1 k2 (fun c hc => by cases hc) (fun p hp => by
  rw [List.mem_singleton.mp hp]
  exact fun ρ3 k3 f3 _ am => hQ ρ3 k3 f3 am)
