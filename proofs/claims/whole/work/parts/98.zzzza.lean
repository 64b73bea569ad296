set_option maxRecDepth 20000
/-! ===== state(k, 6): the bank that counts ===== -/
noncomputable def c_btx : sC := (c_btc.1, c_btc.2.1, (c_btc.2.2.1.1 ++ [79], c_btc.2.2.1.2), c_btc.2.2.2)
theorem g_btx : cgood 65536 c_btc = true := by decide +kernel
theorem c_btx_f : cfine zWP 65536 c_btx = true := by decide +kernel
theorem k_btx : ruse kR zWP c_btc zWP c_btx = true := by decide +kernel
theorem s_btx {X : pX} : SREL X pF pdfl mt_all kR zWP c_btx := SREL_use kR_x kR_0 s_btc g_btx c_btx_f k_btx
noncomputable def c_bty : sC := (c_btm.1, c_btm.2.1, (c_btm.2.2.1.1 ++ [79], c_btm.2.2.1.2), c_btm.2.2.2)
theorem g_bty : cgood 65536 c_btm = true := by decide +kernel
theorem c_bty_f : cfine zWP 65536 c_bty = true := by decide +kernel
theorem k_bty : ruse kR zWP c_btm zWP c_bty = true := by decide +kernel
theorem s_bty {X : pX} : SREL X pF pdfl mt_all kR zWP c_bty := SREL_use kR_x kR_0 s_btm g_bty c_bty_f k_bty
noncomputable def cv_bkc0 : sC := ((90, 284, 8), ([tr 75], [.int 0]), ([75, 76, 77, 78, 79], []), [((0, .arg 1308, .int 0), true), ((150, .add (.elem (.arg 1380) (.int 0)) (.elem (.arg 1412) (.int 0)), .arg 60064), true)], ([60096, 60002, 60000, 60032], []), (some (.arg 60064), some (.int 0)), [], ([], []))
theorem g_bkc0 : cgood 65536 c_btx = true := by decide +kernel
theorem cv_bkc0_f : cfine zL0 65536 cv_bkc0 = true := by decide +kernel
noncomputable def σ_bkc0 : sM := ([], [])
noncomputable def τ_bkc0 : sM := ([(60096, .arg 125632), (60002, .arg 125538), (60000, .arg 125536), (60032, .arg 125568)], [])
theorem k_bkc0 : ruseT 65536 kR zWP c_btx zL0 cv_bkc0 (isatP cv_bkc0.2.2.2.1 cv_bkc0.2.2.2.2.2.2.2.1) cv_bkc0.2.2.2.2.2.2.2.1 σ_bkc0 (sig2 65536 c_btx.2.2.2.2.1.1 c_btx.2.2.2.2.1.2 σ_bkc0) τ_bkc0 = true := by decide +kernel
theorem sv_bkc0 {X : pX} : SREL X pF pdfl mt_all kR zL0 cv_bkc0 := SREL_useT kR_x kR_0 (s_btx) g_bkc0 cv_bkc0_f k_bkc0
noncomputable def cw_bkc0 : sC := (cv_bkc0.1, (cv_bkc0.2.1.1, [.int 0]), cv_bkc0.2.2)
theorem sw_bkc0 {X : pX} : SREL X pF pdfl mt_all kR zL0 cw_bkc0 := SREL_args (C := cv_bkc0) (fun ρ hF => ⟨rfl, by
    have h : ρ.1 1308 = 0 := of_decide_eq_true (hF.2 _ List.mem_cons_self)
    show dS X ρ [.int 0] = dS X ρ [.int 0]
    simp only [dS, List.map_cons, List.map_nil, sv_Dk h]⟩) sv_bkc0
noncomputable def c_bkc0 : sC := (cw_bkc0.1, cw_bkc0.2.1, cw_bkc0.2.2.1, cw_bkc0.2.2.2.1.tail, (1308 :: cw_bkc0.2.2.2.2.1.1, rl_k.map (fun p => p.1) ++ cw_bkc0.2.2.2.2.1.2), cw_bkc0.2.2.2.2.2)
theorem h_bkc0 : (cw_bkc0.2.2.1.1 ++ cw_bkc0.2.2.1.2).all (fcelW 1308 0 rl_k cw_bkc0.2.2.2.2.1.1 cw_bkc0.2.2.2.2.1.2 zT zL0) = true := by decide +kernel
theorem s_bkc0 {X : pX} : SREL X pF pdfl mt_all kR zT c_bkc0 := SREL_drvW (k := 0) kR_x kR_0 (pre1 := cw_bkc0.2.2.2.1.tail) rfl (fun q hq => by cases hq; exact ⟨by decide, by decide⟩) rfl (by decide +kernel) rl_rT (by decide +kernel) (by decide +kernel) (by decide +kernel) (by decide +kernel) h_bkc0 sw_bkc0
noncomputable def cv_bkm0 : sC := ((425, 292, 8), ([.long 0], [tr 219, .arg 1308]), ([], [219, 325, 223, 222]), [((0, .arg 1308, .int 0), true), ((150, .add (.elem (.arg 1380) (.int 0)) (.elem (.arg 1412) (.int 0)), .arg 60064), true)], ([60096, 60002, 60000, 60032], []), (some (.long 0), some (.arg 60064)), [], ([], []))
theorem g_bkm0 : cgood 65536 c_btm = true := by decide +kernel
theorem cv_bkm0_f : cfine zL0 65536 cv_bkm0 = true := by decide +kernel
noncomputable def σ_bkm0 : sM := ([], [])
noncomputable def τ_bkm0 : sM := ([(60096, .arg 125632), (60002, .arg 125538), (60000, .arg 125536), (60032, .arg 125568)], [])
theorem k_bkm0 : ruseT 65536 kR zWP c_btm zL0 cv_bkm0 (isatP cv_bkm0.2.2.2.1 cv_bkm0.2.2.2.2.2.2.2.1) cv_bkm0.2.2.2.2.2.2.2.1 σ_bkm0 (sig2 65536 c_btm.2.2.2.2.1.1 c_btm.2.2.2.2.1.2 σ_bkm0) τ_bkm0 = true := by decide +kernel
theorem sv_bkm0 {X : pX} : SREL X pF pdfl mt_all kR zL0 cv_bkm0 := SREL_useT kR_x kR_0 (s_btm) g_bkm0 cv_bkm0_f k_bkm0
noncomputable def cw_bkm0 : sC := (cv_bkm0.1, (cv_bkm0.2.1.1, [tr 219, .int 0]), cv_bkm0.2.2)
theorem sw_bkm0 {X : pX} : SREL X pF pdfl mt_all kR zL0 cw_bkm0 := SREL_args (C := cv_bkm0) (fun ρ hF => ⟨rfl, by
    have h : ρ.1 1308 = 0 := of_decide_eq_true (hF.2 _ List.mem_cons_self)
    show dS X ρ [tr 219, .int 0] = dS X ρ [tr 219, .arg 1308]
    simp only [dS, List.map_cons, List.map_nil, sv_Dk h]⟩) sv_bkm0
noncomputable def c_bkm0 : sC := (cw_bkm0.1, cw_bkm0.2.1, cw_bkm0.2.2.1, cw_bkm0.2.2.2.1.tail, (1308 :: cw_bkm0.2.2.2.2.1.1, rl_k.map (fun p => p.1) ++ cw_bkm0.2.2.2.2.1.2), cw_bkm0.2.2.2.2.2)
theorem h_bkm0 : (cw_bkm0.2.2.1.1 ++ cw_bkm0.2.2.1.2).all (fcelW 1308 0 rl_k cw_bkm0.2.2.2.2.1.1 cw_bkm0.2.2.2.2.1.2 zT zL0) = true := by decide +kernel
theorem s_bkm0 {X : pX} : SREL X pF pdfl mt_all kR zT c_bkm0 := SREL_drvW (k := 0) kR_x kR_0 (pre1 := cw_bkm0.2.2.2.1.tail) rfl (fun q hq => by cases hq; exact ⟨by decide, by decide⟩) rfl (by decide +kernel) rl_rT (by decide +kernel) (by decide +kernel) (by decide +kernel) (by decide +kernel) h_bkm0 sw_bkm0
theorem r_bkc1 : renok (pk 1) 121 zWP zWP_1 c_btx = true := by decide +kernel
theorem sr_bkc1 {X : pX} : SREL X pF pdfl mt_all kR zWP_1 (conren (pk 1) c_btx) := SREL_ren (pk_inv 1 (by decide)) (pdfl_ren 1) r_bkc1 s_btx
noncomputable def cv_bkc1 : sC := ((90, 284, 8), ([tr 116], [.int 0]), ([116, 117, 118, 119, 120], []), [((0, .arg 1308, .int 1), true), ((150, .add (.elem (.arg 1572) (.int 0)) (.elem (.arg 1604) (.int 0)), .arg 60064), true)], ([60096, 60002, 60000, 60032], []), (some (.arg 60064), some (.int 0)), [], ([], []))
theorem g_bkc1 : cgood 65536 (conren (pk 1) c_btx) = true := by decide +kernel
theorem cv_bkc1_f : cfine zL1 65536 cv_bkc1 = true := by decide +kernel
noncomputable def σ_bkc1 : sM := ([(1338, .arg 1434), (1370, .arg 1466), (2466, .arg 3394), (6368, .arg 10144)], [(1380, .arg 1572, []), (1412, .arg 1604, []), (1444, .arg 1636, [])])
noncomputable def τ_bkc1 : sM := ([(60096, .arg 125632), (60002, .arg 125538), (60000, .arg 125536), (60032, .arg 125568)], [])
theorem k_bkc1 : ruseT 65536 kR zWP_1 (conren (pk 1) c_btx) zL1 cv_bkc1 (isatP cv_bkc1.2.2.2.1 cv_bkc1.2.2.2.2.2.2.2.1) cv_bkc1.2.2.2.2.2.2.2.1 σ_bkc1 (sig2 65536 (conren (pk 1) c_btx).2.2.2.2.1.1 (conren (pk 1) c_btx).2.2.2.2.1.2 σ_bkc1) τ_bkc1 = true := by decide +kernel
theorem sv_bkc1 {X : pX} : SREL X pF pdfl mt_all kR zL1 cv_bkc1 := SREL_useT kR_x kR_0 (sr_bkc1) g_bkc1 cv_bkc1_f k_bkc1
noncomputable def cw_bkc1 : sC := (cv_bkc1.1, (cv_bkc1.2.1.1, [.int 0]), cv_bkc1.2.2)
theorem sw_bkc1 {X : pX} : SREL X pF pdfl mt_all kR zL1 cw_bkc1 := SREL_args (C := cv_bkc1) (fun ρ hF => ⟨rfl, by
    have h : ρ.1 1308 = 1 := of_decide_eq_true (hF.2 _ List.mem_cons_self)
    show dS X ρ [.int 0] = dS X ρ [.int 0]
    simp only [dS, List.map_cons, List.map_nil, sv_Dk h]⟩) sv_bkc1
noncomputable def c_bkc1 : sC := (cw_bkc1.1, cw_bkc1.2.1, cw_bkc1.2.2.1, cw_bkc1.2.2.2.1.tail, (1308 :: cw_bkc1.2.2.2.2.1.1, rl_k.map (fun p => p.1) ++ cw_bkc1.2.2.2.2.1.2), cw_bkc1.2.2.2.2.2)
theorem h_bkc1 : (cw_bkc1.2.2.1.1 ++ cw_bkc1.2.2.1.2).all (fcelW 1308 1 rl_k cw_bkc1.2.2.2.2.1.1 cw_bkc1.2.2.2.2.1.2 zT zL1) = true := by decide +kernel
theorem s_bkc1 {X : pX} : SREL X pF pdfl mt_all kR zT c_bkc1 := SREL_drvW (k := 1) kR_x kR_0 (pre1 := cw_bkc1.2.2.2.1.tail) rfl (fun q hq => by cases hq; exact ⟨by decide, by decide⟩) rfl (by decide +kernel) rl_rT (by decide +kernel) (by decide +kernel) (by decide +kernel) (by decide +kernel) h_bkc1 sw_bkc1
noncomputable def cv_bkm1 : sC := ((425, 292, 8), ([.long 0], [tr 219, .arg 1308]), ([], [219, 325, 223, 222]), [((0, .arg 1308, .int 1), true), ((150, .add (.elem (.arg 1572) (.int 0)) (.elem (.arg 1604) (.int 0)), .arg 60064), true)], ([60096, 60002, 60000, 60032], []), (some (.long 0), some (.arg 60064)), [], ([], []))
theorem g_bkm1 : cgood 65536 c_btm = true := by decide +kernel
theorem cv_bkm1_f : cfine zL1 65536 cv_bkm1 = true := by decide +kernel
noncomputable def σ_bkm1 : sM := ([], [(1380, .arg 1572, []), (1412, .arg 1604, []), (1444, .arg 1636, [])])
noncomputable def τ_bkm1 : sM := ([(60096, .arg 125632), (60002, .arg 125538), (60000, .arg 125536), (60032, .arg 125568)], [])
theorem k_bkm1 : ruseT 65536 kR zWP c_btm zL1 cv_bkm1 (isatP cv_bkm1.2.2.2.1 cv_bkm1.2.2.2.2.2.2.2.1) cv_bkm1.2.2.2.2.2.2.2.1 σ_bkm1 (sig2 65536 c_btm.2.2.2.2.1.1 c_btm.2.2.2.2.1.2 σ_bkm1) τ_bkm1 = true := by decide +kernel
theorem sv_bkm1 {X : pX} : SREL X pF pdfl mt_all kR zL1 cv_bkm1 := SREL_useT kR_x kR_0 s_btm g_bkm1 cv_bkm1_f k_bkm1
noncomputable def cw_bkm1 : sC := (cv_bkm1.1, (cv_bkm1.2.1.1, [tr 219, .int 1]), cv_bkm1.2.2)
theorem sw_bkm1 {X : pX} : SREL X pF pdfl mt_all kR zL1 cw_bkm1 := SREL_args (C := cv_bkm1) (fun ρ hF => ⟨rfl, by
    have h : ρ.1 1308 = 1 := of_decide_eq_true (hF.2 _ List.mem_cons_self)
    show dS X ρ [tr 219, .int 1] = dS X ρ [tr 219, .arg 1308]
    simp only [dS, List.map_cons, List.map_nil, sv_Dk h]⟩) sv_bkm1
noncomputable def c_bkm1 : sC := (cw_bkm1.1, cw_bkm1.2.1, cw_bkm1.2.2.1, cw_bkm1.2.2.2.1.tail, (1308 :: cw_bkm1.2.2.2.2.1.1, rl_k.map (fun p => p.1) ++ cw_bkm1.2.2.2.2.1.2), cw_bkm1.2.2.2.2.2)
theorem h_bkm1 : (cw_bkm1.2.2.1.1 ++ cw_bkm1.2.2.1.2).all (fcelW 1308 1 rl_k cw_bkm1.2.2.2.2.1.1 cw_bkm1.2.2.2.2.1.2 zT zL1) = true := by decide +kernel
theorem s_bkm1 {X : pX} : SREL X pF pdfl mt_all kR zT c_bkm1 := SREL_drvW (k := 1) kR_x kR_0 (pre1 := cw_bkm1.2.2.2.1.tail) rfl (fun q hq => by cases hq; exact ⟨by decide, by decide⟩) rfl (by decide +kernel) rl_rT (by decide +kernel) (by decide +kernel) (by decide +kernel) (by decide +kernel) h_bkm1 sw_bkm1
theorem r_bkc2 : renok (pk 2) 162 zWP zWP_2 c_btx = true := by decide +kernel
theorem sr_bkc2 {X : pX} : SREL X pF pdfl mt_all kR zWP_2 (conren (pk 2) c_btx) := SREL_ren (pk_inv 2 (by decide)) (pdfl_ren 2) r_bkc2 s_btx
noncomputable def cv_bkc2 : sC := ((90, 284, 8), ([tr 157], [.int 0]), ([157, 158, 159, 160, 161], []), [((0, .arg 1308, .int 2), true), ((150, .add (.elem (.arg 1764) (.int 0)) (.elem (.arg 1796) (.int 0)), .arg 60064), true)], ([60096, 60002, 60000, 60032], []), (some (.arg 60064), some (.int 0)), [], ([], []))
theorem g_bkc2 : cgood 65536 (conren (pk 2) c_btx) = true := by decide +kernel
theorem cv_bkc2_f : cfine zL2 65536 cv_bkc2 = true := by decide +kernel
noncomputable def σ_bkc2 : sM := ([(1338, .arg 1530), (1370, .arg 1562), (2466, .arg 4322), (6368, .arg 13920)], [(1380, .arg 1764, []), (1412, .arg 1796, []), (1444, .arg 1828, [])])
noncomputable def τ_bkc2 : sM := ([(60096, .arg 125632), (60002, .arg 125538), (60000, .arg 125536), (60032, .arg 125568)], [])
theorem k_bkc2 : ruseT 65536 kR zWP_2 (conren (pk 2) c_btx) zL2 cv_bkc2 (isatP cv_bkc2.2.2.2.1 cv_bkc2.2.2.2.2.2.2.2.1) cv_bkc2.2.2.2.2.2.2.2.1 σ_bkc2 (sig2 65536 (conren (pk 2) c_btx).2.2.2.2.1.1 (conren (pk 2) c_btx).2.2.2.2.1.2 σ_bkc2) τ_bkc2 = true := by decide +kernel
theorem sv_bkc2 {X : pX} : SREL X pF pdfl mt_all kR zL2 cv_bkc2 := SREL_useT kR_x kR_0 (sr_bkc2) g_bkc2 cv_bkc2_f k_bkc2
noncomputable def cw_bkc2 : sC := (cv_bkc2.1, (cv_bkc2.2.1.1, [.int 0]), cv_bkc2.2.2)
theorem sw_bkc2 {X : pX} : SREL X pF pdfl mt_all kR zL2 cw_bkc2 := SREL_args (C := cv_bkc2) (fun ρ hF => ⟨rfl, by
    have h : ρ.1 1308 = 2 := of_decide_eq_true (hF.2 _ List.mem_cons_self)
    show dS X ρ [.int 0] = dS X ρ [.int 0]
    simp only [dS, List.map_cons, List.map_nil, sv_Dk h]⟩) sv_bkc2
noncomputable def c_bkc2 : sC := (cw_bkc2.1, cw_bkc2.2.1, cw_bkc2.2.2.1, cw_bkc2.2.2.2.1.tail, (1308 :: cw_bkc2.2.2.2.2.1.1, rl_k.map (fun p => p.1) ++ cw_bkc2.2.2.2.2.1.2), cw_bkc2.2.2.2.2.2)
theorem h_bkc2 : (cw_bkc2.2.2.1.1 ++ cw_bkc2.2.2.1.2).all (fcelW 1308 2 rl_k cw_bkc2.2.2.2.2.1.1 cw_bkc2.2.2.2.2.1.2 zT zL2) = true := by decide +kernel
theorem s_bkc2 {X : pX} : SREL X pF pdfl mt_all kR zT c_bkc2 := SREL_drvW (k := 2) kR_x kR_0 (pre1 := cw_bkc2.2.2.2.1.tail) rfl (fun q hq => by cases hq; exact ⟨by decide, by decide⟩) rfl (by decide +kernel) rl_rT (by decide +kernel) (by decide +kernel) (by decide +kernel) (by decide +kernel) h_bkc2 sw_bkc2
noncomputable def cv_bkm2 : sC := ((425, 292, 8), ([.long 0], [tr 219, .arg 1308]), ([], [219, 325, 223, 222]), [((0, .arg 1308, .int 2), true), ((150, .add (.elem (.arg 1764) (.int 0)) (.elem (.arg 1796) (.int 0)), .arg 60064), true)], ([60096, 60002, 60000, 60032], []), (some (.long 0), some (.arg 60064)), [], ([], []))
theorem g_bkm2 : cgood 65536 c_btm = true := by decide +kernel
theorem cv_bkm2_f : cfine zL2 65536 cv_bkm2 = true := by decide +kernel
noncomputable def σ_bkm2 : sM := ([], [(1380, .arg 1764, []), (1412, .arg 1796, []), (1444, .arg 1828, [])])
noncomputable def τ_bkm2 : sM := ([(60096, .arg 125632), (60002, .arg 125538), (60000, .arg 125536), (60032, .arg 125568)], [])
theorem k_bkm2 : ruseT 65536 kR zWP c_btm zL2 cv_bkm2 (isatP cv_bkm2.2.2.2.1 cv_bkm2.2.2.2.2.2.2.2.1) cv_bkm2.2.2.2.2.2.2.2.1 σ_bkm2 (sig2 65536 c_btm.2.2.2.2.1.1 c_btm.2.2.2.2.1.2 σ_bkm2) τ_bkm2 = true := by decide +kernel
theorem sv_bkm2 {X : pX} : SREL X pF pdfl mt_all kR zL2 cv_bkm2 := SREL_useT kR_x kR_0 s_btm g_bkm2 cv_bkm2_f k_bkm2
noncomputable def cw_bkm2 : sC := (cv_bkm2.1, (cv_bkm2.2.1.1, [tr 219, .int 2]), cv_bkm2.2.2)
theorem sw_bkm2 {X : pX} : SREL X pF pdfl mt_all kR zL2 cw_bkm2 := SREL_args (C := cv_bkm2) (fun ρ hF => ⟨rfl, by
    have h : ρ.1 1308 = 2 := of_decide_eq_true (hF.2 _ List.mem_cons_self)
    show dS X ρ [tr 219, .int 2] = dS X ρ [tr 219, .arg 1308]
    simp only [dS, List.map_cons, List.map_nil, sv_Dk h]⟩) sv_bkm2
noncomputable def c_bkm2 : sC := (cw_bkm2.1, cw_bkm2.2.1, cw_bkm2.2.2.1, cw_bkm2.2.2.2.1.tail, (1308 :: cw_bkm2.2.2.2.2.1.1, rl_k.map (fun p => p.1) ++ cw_bkm2.2.2.2.2.1.2), cw_bkm2.2.2.2.2.2)
theorem h_bkm2 : (cw_bkm2.2.2.1.1 ++ cw_bkm2.2.2.1.2).all (fcelW 1308 2 rl_k cw_bkm2.2.2.2.2.1.1 cw_bkm2.2.2.2.2.1.2 zT zL2) = true := by decide +kernel
theorem s_bkm2 {X : pX} : SREL X pF pdfl mt_all kR zT c_bkm2 := SREL_drvW (k := 2) kR_x kR_0 (pre1 := cw_bkm2.2.2.2.1.tail) rfl (fun q hq => by cases hq; exact ⟨by decide, by decide⟩) rfl (by decide +kernel) rl_rT (by decide +kernel) (by decide +kernel) (by decide +kernel) (by decide +kernel) h_bkm2 sw_bkm2
theorem r_bkc3 : renok (pk 3) 203 zWP zWP_3 c_btx = true := by decide +kernel
theorem sr_bkc3 {X : pX} : SREL X pF pdfl mt_all kR zWP_3 (conren (pk 3) c_btx) := SREL_ren (pk_inv 3 (by decide)) (pdfl_ren 3) r_bkc3 s_btx
noncomputable def cv_bkc3 : sC := ((90, 284, 8), ([tr 198], [.int 0]), ([198, 199, 200, 201, 202], []), [((0, .arg 1308, .int 3), true), ((150, .add (.elem (.arg 1956) (.int 0)) (.elem (.arg 1988) (.int 0)), .arg 60064), true)], ([60096, 60002, 60000, 60032], []), (some (.arg 60064), some (.int 0)), [], ([], []))
theorem g_bkc3 : cgood 65536 (conren (pk 3) c_btx) = true := by decide +kernel
theorem cv_bkc3_f : cfine zL3 65536 cv_bkc3 = true := by decide +kernel
noncomputable def σ_bkc3 : sM := ([(1338, .arg 1626), (1370, .arg 1658), (2466, .arg 5250), (6368, .arg 17696)], [(1380, .arg 1956, []), (1412, .arg 1988, []), (1444, .arg 2020, [])])
noncomputable def τ_bkc3 : sM := ([(60096, .arg 125632), (60002, .arg 125538), (60000, .arg 125536), (60032, .arg 125568)], [])
theorem k_bkc3 : ruseT 65536 kR zWP_3 (conren (pk 3) c_btx) zL3 cv_bkc3 (isatP cv_bkc3.2.2.2.1 cv_bkc3.2.2.2.2.2.2.2.1) cv_bkc3.2.2.2.2.2.2.2.1 σ_bkc3 (sig2 65536 (conren (pk 3) c_btx).2.2.2.2.1.1 (conren (pk 3) c_btx).2.2.2.2.1.2 σ_bkc3) τ_bkc3 = true := by decide +kernel
theorem sv_bkc3 {X : pX} : SREL X pF pdfl mt_all kR zL3 cv_bkc3 := SREL_useT kR_x kR_0 (sr_bkc3) g_bkc3 cv_bkc3_f k_bkc3
noncomputable def cw_bkc3 : sC := (cv_bkc3.1, (cv_bkc3.2.1.1, [.int 0]), cv_bkc3.2.2)
theorem sw_bkc3 {X : pX} : SREL X pF pdfl mt_all kR zL3 cw_bkc3 := SREL_args (C := cv_bkc3) (fun ρ hF => ⟨rfl, by
    have h : ρ.1 1308 = 3 := of_decide_eq_true (hF.2 _ List.mem_cons_self)
    show dS X ρ [.int 0] = dS X ρ [.int 0]
    simp only [dS, List.map_cons, List.map_nil, sv_Dk h]⟩) sv_bkc3
noncomputable def c_bkc3 : sC := (cw_bkc3.1, cw_bkc3.2.1, cw_bkc3.2.2.1, cw_bkc3.2.2.2.1.tail, (1308 :: cw_bkc3.2.2.2.2.1.1, rl_k.map (fun p => p.1) ++ cw_bkc3.2.2.2.2.1.2), cw_bkc3.2.2.2.2.2)
theorem h_bkc3 : (cw_bkc3.2.2.1.1 ++ cw_bkc3.2.2.1.2).all (fcelW 1308 3 rl_k cw_bkc3.2.2.2.2.1.1 cw_bkc3.2.2.2.2.1.2 zT zL3) = true := by decide +kernel
theorem s_bkc3 {X : pX} : SREL X pF pdfl mt_all kR zT c_bkc3 := SREL_drvW (k := 3) kR_x kR_0 (pre1 := cw_bkc3.2.2.2.1.tail) rfl (fun q hq => by cases hq; exact ⟨by decide, by decide⟩) rfl (by decide +kernel) rl_rT (by decide +kernel) (by decide +kernel) (by decide +kernel) (by decide +kernel) h_bkc3 sw_bkc3
noncomputable def cv_bkm3 : sC := ((425, 292, 8), ([.long 0], [tr 219, .arg 1308]), ([], [219, 325, 223, 222]), [((0, .arg 1308, .int 3), true), ((150, .add (.elem (.arg 1956) (.int 0)) (.elem (.arg 1988) (.int 0)), .arg 60064), true)], ([60096, 60002, 60000, 60032], []), (some (.long 0), some (.arg 60064)), [], ([], []))
theorem g_bkm3 : cgood 65536 c_btm = true := by decide +kernel
theorem cv_bkm3_f : cfine zL3 65536 cv_bkm3 = true := by decide +kernel
noncomputable def σ_bkm3 : sM := ([], [(1380, .arg 1956, []), (1412, .arg 1988, []), (1444, .arg 2020, [])])
noncomputable def τ_bkm3 : sM := ([(60096, .arg 125632), (60002, .arg 125538), (60000, .arg 125536), (60032, .arg 125568)], [])
theorem k_bkm3 : ruseT 65536 kR zWP c_btm zL3 cv_bkm3 (isatP cv_bkm3.2.2.2.1 cv_bkm3.2.2.2.2.2.2.2.1) cv_bkm3.2.2.2.2.2.2.2.1 σ_bkm3 (sig2 65536 c_btm.2.2.2.2.1.1 c_btm.2.2.2.2.1.2 σ_bkm3) τ_bkm3 = true := by decide +kernel
theorem sv_bkm3 {X : pX} : SREL X pF pdfl mt_all kR zL3 cv_bkm3 := SREL_useT kR_x kR_0 s_btm g_bkm3 cv_bkm3_f k_bkm3
noncomputable def cw_bkm3 : sC := (cv_bkm3.1, (cv_bkm3.2.1.1, [tr 219, .int 3]), cv_bkm3.2.2)
theorem sw_bkm3 {X : pX} : SREL X pF pdfl mt_all kR zL3 cw_bkm3 := SREL_args (C := cv_bkm3) (fun ρ hF => ⟨rfl, by
    have h : ρ.1 1308 = 3 := of_decide_eq_true (hF.2 _ List.mem_cons_self)
    show dS X ρ [tr 219, .int 3] = dS X ρ [tr 219, .arg 1308]
    simp only [dS, List.map_cons, List.map_nil, sv_Dk h]⟩) sv_bkm3
noncomputable def c_bkm3 : sC := (cw_bkm3.1, cw_bkm3.2.1, cw_bkm3.2.2.1, cw_bkm3.2.2.2.1.tail, (1308 :: cw_bkm3.2.2.2.2.1.1, rl_k.map (fun p => p.1) ++ cw_bkm3.2.2.2.2.1.2), cw_bkm3.2.2.2.2.2)
theorem h_bkm3 : (cw_bkm3.2.2.1.1 ++ cw_bkm3.2.2.1.2).all (fcelW 1308 3 rl_k cw_bkm3.2.2.2.2.1.1 cw_bkm3.2.2.2.2.1.2 zT zL3) = true := by decide +kernel
theorem s_bkm3 {X : pX} : SREL X pF pdfl mt_all kR zT c_bkm3 := SREL_drvW (k := 3) kR_x kR_0 (pre1 := cw_bkm3.2.2.2.1.tail) rfl (fun q hq => by cases hq; exact ⟨by decide, by decide⟩) rfl (by decide +kernel) rl_rT (by decide +kernel) (by decide +kernel) (by decide +kernel) (by decide +kernel) h_bkm3 sw_bkm3
theorem ab_toInt {g h : Nat → Int32} : (Int32.ofInt (abest g h)).toInt = abest g h := by
  have q : -1 ≤ abest g h ∧ abest g h ≤ 1 := by
    unfold abest
    split <;> (try split) <;> (try split) <;> (try split) <;> omega
  rcases (show abest g h = -1 ∨ abest g h = 0 ∨ abest g h = 1 by omega) with e | e | e <;> (rw [e]; rfl)
noncomputable def tS6 : (sF × List sF × Nat) × (sF × List sF × Nat) := ((fr 0 184 63 [] [.arg 60064], [fBot], 18), (fr 0 410 73 [] [.arg 60064], [fBot], 19))
noncomputable def q_teS6 : sCut := (tS6.1, tS6.2, [], [])
theorem k_teS6 : cbody kR [] [] [] (lendP kR zT cD_en.2.2.1.1 cD_en.2.2.1.2 [.arg 60064] [.arg 60064]) 100 true true q_teS6.2.2.1 q_teS6.2.2.2 (cst zT cD_en.2.2.1.1 q_teS6.1) (cst zT cD_en.2.2.1.2 q_teS6.2.1) = true := by decide +kernel
theorem c_ES6 {X : pX} {J : sR → List Value → List Value → Prop} {ρ : sR} (hk : kok X ρ kR) (hv : vok X ρ) (hJ : J ρ (dS X ρ [.arg 60064]) (dS X ρ [.arg 60064])) : RPt X J ρ tS6 := END_P kR_x kR_0 (Cs := []) (fun C hC => by cases hC) cD_en_f 100 (q := q_teS6) k_teS6 hk ⟨hv, fun f hf => by cases hf⟩ (fun c hc => by cases hc) hJ
noncomputable def tS60 : (sF × List sF × Nat) × (sF × List sF × Nat) := ((fr 0 184 63 [] [.arg 60064], [fBot], 18), (fr 0 410 72 [] [.int 0, tr 219], [fBot], 19))
noncomputable def cD_s60 : sC := ((184, 410, 20), ([tr 0, .int 0, .int 6], [tr 219, .int 0, .int 6]), (fT1, fT2), [], ([19232] ++ c_bkc0.2.2.2.2.1.1, c_bkc0.2.2.2.2.1.2), (none, none), [], ([], []))
theorem cD_s60_f : cfine zT 65536 cD_s60 = true := by decide +kernel
noncomputable def f_s60 : sFs := c_bkc0.2.2.2.1
noncomputable def p_s60 : sCut := (tS60.1, tS60.2, (((0, .arg 19232, .int 0), true) :: c_bkc0.2.2.2.1), [])
theorem e_s60 : frun kR [(zT, c_bkc0)] (cpl1 zT cD_s60 [p_s60]) (cpl2 zT cD_s60 [p_s60]) (cleafN kR zT cD_s60 [p_s60]) 400 65536 (isatP f_s60 []) [] (sin0 mt_all cD_s60.1.1 18 cD_s60.2.1.1 (foot zT cD_s60.2.2.1.1)) (sin0 mt_all cD_s60.1.2.1 19 cD_s60.2.1.2 (foot zT cD_s60.2.2.1.2)) = true := by decide +kernel
theorem r_s60 {X : pX} {J : sR → List Value → List Value → Prop} {ρ : sR} (k1 : kok X ρ kR) (k2 : fok X ρ f_s60) (hQ : ∀ ρ3 : sR, kok X ρ3 kR → fok X ρ3 p_s60.2.2.1 → agrM 65536 cD_s60.2.2.2.2.1.1 cD_s60.2.2.2.2.1.2 ρ3 ρ → RPt X J ρ3 tS60) : RelP X pF pdfl mt_all 19 20 (foot zT fT1) (foot zT fT2) J ρ (sin0 mt_all 184 18 cD_s60.2.1.1 (foot zT fT1)) (sin0 mt_all 410 19 cD_s60.2.1.2 (foot zT fT2)) := START_P kR_x kR_0 (Cs := [(zT, c_bkc0)]) (fun C hC => by rw [List.mem_singleton.mp hC]; exact s_bkc0) cD_s60_f (Q := [p_s60]) 400 e_s60 k1 k2 (fun c hc => by cases hc) (fun p hp => by
  rw [List.mem_singleton.mp hp]
  exact fun ρ3 k3 f3 _ am => hQ ρ3 k3 f3 am)
noncomputable def cD_s6m0 : sC := ((175, 400, 20), ([tr 0, .arg 59968], [tr 219, .arg 59968]), (fT1, fT2), [], (c_bkm0.2.2.2.2.1.1, c_bkm0.2.2.2.2.1.2), (none, none), [], ([], []))
theorem cD_s6m0_f : cfine zT 65536 cD_s6m0 = true := by decide +kernel
noncomputable def q_ts6m0 : sCut := (tS60.1, tS60.2, (((0, .arg 19232, .int 0), true) :: c_bkm0.2.2.2.1), [])
noncomputable def p_ts6m0 : sCut := (tS6.1, tS6.2, [((0, .arg 19232, .int 0), true)], [])
theorem k_ts6m0 : cbody kR [(zT, c_bkm0)] (cpl1 zT cD_s6m0 [p_ts6m0]) (cpl2 zT cD_s6m0 [p_ts6m0]) (cleafN kR zT cD_s6m0 [p_ts6m0]) 400 false false q_ts6m0.2.2.1 q_ts6m0.2.2.2 (cst zT cD_s6m0.2.2.1.1 q_ts6m0.1) (cst zT cD_s6m0.2.2.1.2 q_ts6m0.2.1) = true := by decide +kernel
theorem r_ts6m0 {X : pX} {J : sR → List Value → List Value → Prop} {ρ : sR} (k1 : kok X ρ kR) (k2 : fok X ρ q_ts6m0.2.2.1) (k3 : iok X ρ q_ts6m0.2.2.2) (hQ : ∀ ρ3 : sR, kok X ρ3 kR → fok X ρ3 p_ts6m0.2.2.1 → iok X ρ3 p_ts6m0.2.2.2 → agrM 65536 cD_s6m0.2.2.2.2.1.1 cD_s6m0.2.2.2.2.1.2 ρ3 ρ → RPt X J ρ3 tS6) : RPt X J ρ tS60 := CUT_P kR_x kR_0 (Cs := [(zT, c_bkm0)]) (fun C hC => by rw [List.mem_singleton.mp hC]; exact s_bkm0) cD_s6m0_f (Q := [p_ts6m0]) 400 k_ts6m0 k1 k2 k3 (fun p hp => by rw [List.mem_singleton.mp hp]; exact hQ)
theorem s_st60 {X : pX} {t : Int} : SRELP X kR zT cD_s60 19 20 (PT X t) (fun ρ ρ' v1 v2 => ∃ r : Int32, v1 = some (.int r) ∧ v2 = some (.int r) ∧ kok X ρ' kR ∧ vok X ρ' ∧ ρ'.1 19232 = 0 ∧ PT X t ρ') := SRELP_in cD_s60_f (fun ρ hk hf _ hp => by
  have e : ((Int32.ofInt (abest (ρ.2.2.1 1380) (ρ.2.2.1 1412))) : Int32).toInt = abest (ρ.2.2.1 1380) (ρ.2.2.1 1412) := ab_toInt
  have ag : agr 60000 (rset [(60064, (Int32.ofInt (abest (ρ.2.2.1 1380) (ρ.2.2.1 1412))))] ρ) ρ := rset_agr (fun p hp => by rw [List.mem_singleton.mp hp]; show 60000 ≤ 60064; decide)
  have av : vok X (rset [(60064, (Int32.ofInt (abest (ρ.2.2.1 1380) (ρ.2.2.1 1412))))] ρ) := rset_vok (fun p hp r hr => by rw [List.mem_singleton.mp hp, show vrng 60064 = none from rfl] at hr; cases hr) (fun p hp => by rw [List.mem_singleton.mp hp]; show (60064 : Nat) % 2 = 0; decide) hf.1
  have hq : sc X (rset [(60064, (Int32.ofInt (abest (ρ.2.2.1 1380) (ρ.2.2.1 1412))))] ρ) (150, .add (.elem (.arg 1380) (.int 0)) (.elem (.arg 1412) (.int 0)), .arg 60064) = true := decide_eq_true (show ((rset [(60064, (Int32.ofInt (abest (ρ.2.2.1 1380) (ρ.2.2.1 1412))))] ρ).1 60064).toInt = abest (ρ.2.2.1 1380) (ρ.2.2.1 1412) from e)
  have pA : PT X t (rset [(60064, (Int32.ofInt (abest (ρ.2.2.1 1380) (ρ.2.2.1 1412))))] ρ) := PT_ag (agr_le (by decide) ag) hp
  exact RelP_agq (n := 60000) (ρ2 := rset [(60064, (Int32.ofInt (abest (ρ.2.2.1 1380) (ρ.2.2.1 1412))))] ρ) (ρ := ρ) ag (by decide +kernel) (by decide +kernel) (by decide +kernel) (by decide +kernel) (r_s60 (rset_kok hk) ⟨av, fcn hq (fun f hf => by cases hf)⟩ (fun ρ2 k2 f2 am2 => r_ts6m0 k2 f2 (fun c hc => by cases hc) (fun ρ3 k3 f3 _ am => c_ES6 k3 f3.1 ⟨some (.int (ρ3.1 60064)), some (.int (ρ3.1 60064)), rfl, rfl, ⟨ρ3.1 60064, rfl, rfl, k3, f3.1, of_decide_eq_true (f3.2 _ List.mem_cons_self), PT_keep am (by decide +kernel) (PT_keep am2 (by decide +kernel) pA)⟩⟩))))
noncomputable def tS61 : (sF × List sF × Nat) × (sF × List sF × Nat) := ((fr 0 184 63 [] [.arg 60064], [fBot], 18), (fr 0 410 72 [] [.int 1, tr 219], [fBot], 19))
noncomputable def cD_s61 : sC := ((184, 410, 20), ([tr 0, .int 1, .int 6], [tr 219, .int 1, .int 6]), (fT1, fT2), [], ([19232] ++ c_bkc1.2.2.2.2.1.1, c_bkc1.2.2.2.2.1.2), (none, none), [], ([], []))
theorem cD_s61_f : cfine zT 65536 cD_s61 = true := by decide +kernel
noncomputable def f_s61 : sFs := c_bkc1.2.2.2.1
noncomputable def p_s61 : sCut := (tS61.1, tS61.2, (((0, .arg 19232, .int 0), true) :: c_bkc1.2.2.2.1), [])
theorem e_s61 : frun kR [(zT, c_bkc1)] (cpl1 zT cD_s61 [p_s61]) (cpl2 zT cD_s61 [p_s61]) (cleafN kR zT cD_s61 [p_s61]) 400 65536 (isatP f_s61 []) [] (sin0 mt_all cD_s61.1.1 18 cD_s61.2.1.1 (foot zT cD_s61.2.2.1.1)) (sin0 mt_all cD_s61.1.2.1 19 cD_s61.2.1.2 (foot zT cD_s61.2.2.1.2)) = true := by decide +kernel
theorem r_s61 {X : pX} {J : sR → List Value → List Value → Prop} {ρ : sR} (k1 : kok X ρ kR) (k2 : fok X ρ f_s61) (hQ : ∀ ρ3 : sR, kok X ρ3 kR → fok X ρ3 p_s61.2.2.1 → agrM 65536 cD_s61.2.2.2.2.1.1 cD_s61.2.2.2.2.1.2 ρ3 ρ → RPt X J ρ3 tS61) : RelP X pF pdfl mt_all 19 20 (foot zT fT1) (foot zT fT2) J ρ (sin0 mt_all 184 18 cD_s61.2.1.1 (foot zT fT1)) (sin0 mt_all 410 19 cD_s61.2.1.2 (foot zT fT2)) := START_P kR_x kR_0 (Cs := [(zT, c_bkc1)]) (fun C hC => by rw [List.mem_singleton.mp hC]; exact s_bkc1) cD_s61_f (Q := [p_s61]) 400 e_s61 k1 k2 (fun c hc => by cases hc) (fun p hp => by
  rw [List.mem_singleton.mp hp]
  exact fun ρ3 k3 f3 _ am => hQ ρ3 k3 f3 am)
noncomputable def cD_s6m1 : sC := ((175, 400, 20), ([tr 0, .arg 59968], [tr 219, .arg 59968]), (fT1, fT2), [], (c_bkm1.2.2.2.2.1.1, c_bkm1.2.2.2.2.1.2), (none, none), [], ([], []))
theorem cD_s6m1_f : cfine zT 65536 cD_s6m1 = true := by decide +kernel
noncomputable def q_ts6m1 : sCut := (tS61.1, tS61.2, (((0, .arg 19232, .int 0), true) :: c_bkm1.2.2.2.1), [])
noncomputable def p_ts6m1 : sCut := (tS6.1, tS6.2, [((0, .arg 19232, .int 0), true)], [])
theorem k_ts6m1 : cbody kR [(zT, c_bkm1)] (cpl1 zT cD_s6m1 [p_ts6m1]) (cpl2 zT cD_s6m1 [p_ts6m1]) (cleafN kR zT cD_s6m1 [p_ts6m1]) 400 false false q_ts6m1.2.2.1 q_ts6m1.2.2.2 (cst zT cD_s6m1.2.2.1.1 q_ts6m1.1) (cst zT cD_s6m1.2.2.1.2 q_ts6m1.2.1) = true := by decide +kernel
theorem r_ts6m1 {X : pX} {J : sR → List Value → List Value → Prop} {ρ : sR} (k1 : kok X ρ kR) (k2 : fok X ρ q_ts6m1.2.2.1) (k3 : iok X ρ q_ts6m1.2.2.2) (hQ : ∀ ρ3 : sR, kok X ρ3 kR → fok X ρ3 p_ts6m1.2.2.1 → iok X ρ3 p_ts6m1.2.2.2 → agrM 65536 cD_s6m1.2.2.2.2.1.1 cD_s6m1.2.2.2.2.1.2 ρ3 ρ → RPt X J ρ3 tS6) : RPt X J ρ tS61 := CUT_P kR_x kR_0 (Cs := [(zT, c_bkm1)]) (fun C hC => by rw [List.mem_singleton.mp hC]; exact s_bkm1) cD_s6m1_f (Q := [p_ts6m1]) 400 k_ts6m1 k1 k2 k3 (fun p hp => by rw [List.mem_singleton.mp hp]; exact hQ)
theorem s_st61 {X : pX} {t : Int} : SRELP X kR zT cD_s61 19 20 (PT X t) (fun ρ ρ' v1 v2 => ∃ r : Int32, v1 = some (.int r) ∧ v2 = some (.int r) ∧ kok X ρ' kR ∧ vok X ρ' ∧ ρ'.1 19232 = 0 ∧ PT X t ρ') := SRELP_in cD_s61_f (fun ρ hk hf _ hp => by
  have e : ((Int32.ofInt (abest (ρ.2.2.1 1572) (ρ.2.2.1 1604))) : Int32).toInt = abest (ρ.2.2.1 1572) (ρ.2.2.1 1604) := ab_toInt
  have ag : agr 60000 (rset [(60064, (Int32.ofInt (abest (ρ.2.2.1 1572) (ρ.2.2.1 1604))))] ρ) ρ := rset_agr (fun p hp => by rw [List.mem_singleton.mp hp]; show 60000 ≤ 60064; decide)
  have av : vok X (rset [(60064, (Int32.ofInt (abest (ρ.2.2.1 1572) (ρ.2.2.1 1604))))] ρ) := rset_vok (fun p hp r hr => by rw [List.mem_singleton.mp hp, show vrng 60064 = none from rfl] at hr; cases hr) (fun p hp => by rw [List.mem_singleton.mp hp]; show (60064 : Nat) % 2 = 0; decide) hf.1
  have hq : sc X (rset [(60064, (Int32.ofInt (abest (ρ.2.2.1 1572) (ρ.2.2.1 1604))))] ρ) (150, .add (.elem (.arg 1572) (.int 0)) (.elem (.arg 1604) (.int 0)), .arg 60064) = true := decide_eq_true (show ((rset [(60064, (Int32.ofInt (abest (ρ.2.2.1 1572) (ρ.2.2.1 1604))))] ρ).1 60064).toInt = abest (ρ.2.2.1 1572) (ρ.2.2.1 1604) from e)
  have pA : PT X t (rset [(60064, (Int32.ofInt (abest (ρ.2.2.1 1572) (ρ.2.2.1 1604))))] ρ) := PT_ag (agr_le (by decide) ag) hp
  exact RelP_agq (n := 60000) (ρ2 := rset [(60064, (Int32.ofInt (abest (ρ.2.2.1 1572) (ρ.2.2.1 1604))))] ρ) (ρ := ρ) ag (by decide +kernel) (by decide +kernel) (by decide +kernel) (by decide +kernel) (r_s61 (rset_kok hk) ⟨av, fcn hq (fun f hf => by cases hf)⟩ (fun ρ2 k2 f2 am2 => r_ts6m1 k2 f2 (fun c hc => by cases hc) (fun ρ3 k3 f3 _ am => c_ES6 k3 f3.1 ⟨some (.int (ρ3.1 60064)), some (.int (ρ3.1 60064)), rfl, rfl, ⟨ρ3.1 60064, rfl, rfl, k3, f3.1, of_decide_eq_true (f3.2 _ List.mem_cons_self), PT_keep am (by decide +kernel) (PT_keep am2 (by decide +kernel) pA)⟩⟩))))
noncomputable def tS62 : (sF × List sF × Nat) × (sF × List sF × Nat) := ((fr 0 184 63 [] [.arg 60064], [fBot], 18), (fr 0 410 72 [] [.int 2, tr 219], [fBot], 19))
noncomputable def cD_s62 : sC := ((184, 410, 20), ([tr 0, .int 2, .int 6], [tr 219, .int 2, .int 6]), (fT1, fT2), [], ([19232] ++ c_bkc2.2.2.2.2.1.1, c_bkc2.2.2.2.2.1.2), (none, none), [], ([], []))
theorem cD_s62_f : cfine zT 65536 cD_s62 = true := by decide +kernel
noncomputable def f_s62 : sFs := c_bkc2.2.2.2.1
noncomputable def p_s62 : sCut := (tS62.1, tS62.2, (((0, .arg 19232, .int 0), true) :: c_bkc2.2.2.2.1), [])
theorem e_s62 : frun kR [(zT, c_bkc2)] (cpl1 zT cD_s62 [p_s62]) (cpl2 zT cD_s62 [p_s62]) (cleafN kR zT cD_s62 [p_s62]) 400 65536 (isatP f_s62 []) [] (sin0 mt_all cD_s62.1.1 18 cD_s62.2.1.1 (foot zT cD_s62.2.2.1.1)) (sin0 mt_all cD_s62.1.2.1 19 cD_s62.2.1.2 (foot zT cD_s62.2.2.1.2)) = true := by decide +kernel
theorem r_s62 {X : pX} {J : sR → List Value → List Value → Prop} {ρ : sR} (k1 : kok X ρ kR) (k2 : fok X ρ f_s62) (hQ : ∀ ρ3 : sR, kok X ρ3 kR → fok X ρ3 p_s62.2.2.1 → agrM 65536 cD_s62.2.2.2.2.1.1 cD_s62.2.2.2.2.1.2 ρ3 ρ → RPt X J ρ3 tS62) : RelP X pF pdfl mt_all 19 20 (foot zT fT1) (foot zT fT2) J ρ (sin0 mt_all 184 18 cD_s62.2.1.1 (foot zT fT1)) (sin0 mt_all 410 19 cD_s62.2.1.2 (foot zT fT2)) := START_P kR_x kR_0 (Cs := [(zT, c_bkc2)]) (fun C hC => by rw [List.mem_singleton.mp hC]; exact s_bkc2) cD_s62_f (Q := [p_s62]) 400 e_s62 k1 k2 (fun c hc => by cases hc) (fun p hp => by
  rw [List.mem_singleton.mp hp]
  exact fun ρ3 k3 f3 _ am => hQ ρ3 k3 f3 am)
noncomputable def cD_s6m2 : sC := ((175, 400, 20), ([tr 0, .arg 59968], [tr 219, .arg 59968]), (fT1, fT2), [], (c_bkm2.2.2.2.2.1.1, c_bkm2.2.2.2.2.1.2), (none, none), [], ([], []))
theorem cD_s6m2_f : cfine zT 65536 cD_s6m2 = true := by decide +kernel
noncomputable def q_ts6m2 : sCut := (tS62.1, tS62.2, (((0, .arg 19232, .int 0), true) :: c_bkm2.2.2.2.1), [])
noncomputable def p_ts6m2 : sCut := (tS6.1, tS6.2, [((0, .arg 19232, .int 0), true)], [])
theorem k_ts6m2 : cbody kR [(zT, c_bkm2)] (cpl1 zT cD_s6m2 [p_ts6m2]) (cpl2 zT cD_s6m2 [p_ts6m2]) (cleafN kR zT cD_s6m2 [p_ts6m2]) 400 false false q_ts6m2.2.2.1 q_ts6m2.2.2.2 (cst zT cD_s6m2.2.2.1.1 q_ts6m2.1) (cst zT cD_s6m2.2.2.1.2 q_ts6m2.2.1) = true := by decide +kernel
theorem r_ts6m2 {X : pX} {J : sR → List Value → List Value → Prop} {ρ : sR} (k1 : kok X ρ kR) (k2 : fok X ρ q_ts6m2.2.2.1) (k3 : iok X ρ q_ts6m2.2.2.2) (hQ : ∀ ρ3 : sR, kok X ρ3 kR → fok X ρ3 p_ts6m2.2.2.1 → iok X ρ3 p_ts6m2.2.2.2 → agrM 65536 cD_s6m2.2.2.2.2.1.1 cD_s6m2.2.2.2.2.1.2 ρ3 ρ → RPt X J ρ3 tS6) : RPt X J ρ tS62 := CUT_P kR_x kR_0 (Cs := [(zT, c_bkm2)]) (fun C hC => by rw [List.mem_singleton.mp hC]; exact s_bkm2) cD_s6m2_f (Q := [p_ts6m2]) 400 k_ts6m2 k1 k2 k3 (fun p hp => by rw [List.mem_singleton.mp hp]; exact hQ)
theorem s_st62 {X : pX} {t : Int} : SRELP X kR zT cD_s62 19 20 (PT X t) (fun ρ ρ' v1 v2 => ∃ r : Int32, v1 = some (.int r) ∧ v2 = some (.int r) ∧ kok X ρ' kR ∧ vok X ρ' ∧ ρ'.1 19232 = 0 ∧ PT X t ρ') := SRELP_in cD_s62_f (fun ρ hk hf _ hp => by
  have e : ((Int32.ofInt (abest (ρ.2.2.1 1764) (ρ.2.2.1 1796))) : Int32).toInt = abest (ρ.2.2.1 1764) (ρ.2.2.1 1796) := ab_toInt
  have ag : agr 60000 (rset [(60064, (Int32.ofInt (abest (ρ.2.2.1 1764) (ρ.2.2.1 1796))))] ρ) ρ := rset_agr (fun p hp => by rw [List.mem_singleton.mp hp]; show 60000 ≤ 60064; decide)
  have av : vok X (rset [(60064, (Int32.ofInt (abest (ρ.2.2.1 1764) (ρ.2.2.1 1796))))] ρ) := rset_vok (fun p hp r hr => by rw [List.mem_singleton.mp hp, show vrng 60064 = none from rfl] at hr; cases hr) (fun p hp => by rw [List.mem_singleton.mp hp]; show (60064 : Nat) % 2 = 0; decide) hf.1
  have hq : sc X (rset [(60064, (Int32.ofInt (abest (ρ.2.2.1 1764) (ρ.2.2.1 1796))))] ρ) (150, .add (.elem (.arg 1764) (.int 0)) (.elem (.arg 1796) (.int 0)), .arg 60064) = true := decide_eq_true (show ((rset [(60064, (Int32.ofInt (abest (ρ.2.2.1 1764) (ρ.2.2.1 1796))))] ρ).1 60064).toInt = abest (ρ.2.2.1 1764) (ρ.2.2.1 1796) from e)
  have pA : PT X t (rset [(60064, (Int32.ofInt (abest (ρ.2.2.1 1764) (ρ.2.2.1 1796))))] ρ) := PT_ag (agr_le (by decide) ag) hp
  exact RelP_agq (n := 60000) (ρ2 := rset [(60064, (Int32.ofInt (abest (ρ.2.2.1 1764) (ρ.2.2.1 1796))))] ρ) (ρ := ρ) ag (by decide +kernel) (by decide +kernel) (by decide +kernel) (by decide +kernel) (r_s62 (rset_kok hk) ⟨av, fcn hq (fun f hf => by cases hf)⟩ (fun ρ2 k2 f2 am2 => r_ts6m2 k2 f2 (fun c hc => by cases hc) (fun ρ3 k3 f3 _ am => c_ES6 k3 f3.1 ⟨some (.int (ρ3.1 60064)), some (.int (ρ3.1 60064)), rfl, rfl, ⟨ρ3.1 60064, rfl, rfl, k3, f3.1, of_decide_eq_true (f3.2 _ List.mem_cons_self), PT_keep am (by decide +kernel) (PT_keep am2 (by decide +kernel) pA)⟩⟩))))
noncomputable def tS63 : (sF × List sF × Nat) × (sF × List sF × Nat) := ((fr 0 184 63 [] [.arg 60064], [fBot], 18), (fr 0 410 72 [] [.int 3, tr 219], [fBot], 19))
noncomputable def cD_s63 : sC := ((184, 410, 20), ([tr 0, .int 3, .int 6], [tr 219, .int 3, .int 6]), (fT1, fT2), [], ([19232] ++ c_bkc3.2.2.2.2.1.1, c_bkc3.2.2.2.2.1.2), (none, none), [], ([], []))
theorem cD_s63_f : cfine zT 65536 cD_s63 = true := by decide +kernel
noncomputable def f_s63 : sFs := c_bkc3.2.2.2.1
noncomputable def p_s63 : sCut := (tS63.1, tS63.2, (((0, .arg 19232, .int 0), true) :: c_bkc3.2.2.2.1), [])
theorem e_s63 : frun kR [(zT, c_bkc3)] (cpl1 zT cD_s63 [p_s63]) (cpl2 zT cD_s63 [p_s63]) (cleafN kR zT cD_s63 [p_s63]) 400 65536 (isatP f_s63 []) [] (sin0 mt_all cD_s63.1.1 18 cD_s63.2.1.1 (foot zT cD_s63.2.2.1.1)) (sin0 mt_all cD_s63.1.2.1 19 cD_s63.2.1.2 (foot zT cD_s63.2.2.1.2)) = true := by decide +kernel
theorem r_s63 {X : pX} {J : sR → List Value → List Value → Prop} {ρ : sR} (k1 : kok X ρ kR) (k2 : fok X ρ f_s63) (hQ : ∀ ρ3 : sR, kok X ρ3 kR → fok X ρ3 p_s63.2.2.1 → agrM 65536 cD_s63.2.2.2.2.1.1 cD_s63.2.2.2.2.1.2 ρ3 ρ → RPt X J ρ3 tS63) : RelP X pF pdfl mt_all 19 20 (foot zT fT1) (foot zT fT2) J ρ (sin0 mt_all 184 18 cD_s63.2.1.1 (foot zT fT1)) (sin0 mt_all 410 19 cD_s63.2.1.2 (foot zT fT2)) := START_P kR_x kR_0 (Cs := [(zT, c_bkc3)]) (fun C hC => by rw [List.mem_singleton.mp hC]; exact s_bkc3) cD_s63_f (Q := [p_s63]) 400 e_s63 k1 k2 (fun c hc => by cases hc) (fun p hp => by
  rw [List.mem_singleton.mp hp]
  exact fun ρ3 k3 f3 _ am => hQ ρ3 k3 f3 am)
noncomputable def cD_s6m3 : sC := ((175, 400, 20), ([tr 0, .arg 59968], [tr 219, .arg 59968]), (fT1, fT2), [], (c_bkm3.2.2.2.2.1.1, c_bkm3.2.2.2.2.1.2), (none, none), [], ([], []))
theorem cD_s6m3_f : cfine zT 65536 cD_s6m3 = true := by decide +kernel
noncomputable def q_ts6m3 : sCut := (tS63.1, tS63.2, (((0, .arg 19232, .int 0), true) :: c_bkm3.2.2.2.1), [])
noncomputable def p_ts6m3 : sCut := (tS6.1, tS6.2, [((0, .arg 19232, .int 0), true)], [])
theorem k_ts6m3 : cbody kR [(zT, c_bkm3)] (cpl1 zT cD_s6m3 [p_ts6m3]) (cpl2 zT cD_s6m3 [p_ts6m3]) (cleafN kR zT cD_s6m3 [p_ts6m3]) 400 false false q_ts6m3.2.2.1 q_ts6m3.2.2.2 (cst zT cD_s6m3.2.2.1.1 q_ts6m3.1) (cst zT cD_s6m3.2.2.1.2 q_ts6m3.2.1) = true := by decide +kernel
theorem r_ts6m3 {X : pX} {J : sR → List Value → List Value → Prop} {ρ : sR} (k1 : kok X ρ kR) (k2 : fok X ρ q_ts6m3.2.2.1) (k3 : iok X ρ q_ts6m3.2.2.2) (hQ : ∀ ρ3 : sR, kok X ρ3 kR → fok X ρ3 p_ts6m3.2.2.1 → iok X ρ3 p_ts6m3.2.2.2 → agrM 65536 cD_s6m3.2.2.2.2.1.1 cD_s6m3.2.2.2.2.1.2 ρ3 ρ → RPt X J ρ3 tS6) : RPt X J ρ tS63 := CUT_P kR_x kR_0 (Cs := [(zT, c_bkm3)]) (fun C hC => by rw [List.mem_singleton.mp hC]; exact s_bkm3) cD_s6m3_f (Q := [p_ts6m3]) 400 k_ts6m3 k1 k2 k3 (fun p hp => by rw [List.mem_singleton.mp hp]; exact hQ)
theorem s_st63 {X : pX} {t : Int} : SRELP X kR zT cD_s63 19 20 (PT X t) (fun ρ ρ' v1 v2 => ∃ r : Int32, v1 = some (.int r) ∧ v2 = some (.int r) ∧ kok X ρ' kR ∧ vok X ρ' ∧ ρ'.1 19232 = 0 ∧ PT X t ρ') := SRELP_in cD_s63_f (fun ρ hk hf _ hp => by
  have e : ((Int32.ofInt (abest (ρ.2.2.1 1956) (ρ.2.2.1 1988))) : Int32).toInt = abest (ρ.2.2.1 1956) (ρ.2.2.1 1988) := ab_toInt
  have ag : agr 60000 (rset [(60064, (Int32.ofInt (abest (ρ.2.2.1 1956) (ρ.2.2.1 1988))))] ρ) ρ := rset_agr (fun p hp => by rw [List.mem_singleton.mp hp]; show 60000 ≤ 60064; decide)
  have av : vok X (rset [(60064, (Int32.ofInt (abest (ρ.2.2.1 1956) (ρ.2.2.1 1988))))] ρ) := rset_vok (fun p hp r hr => by rw [List.mem_singleton.mp hp, show vrng 60064 = none from rfl] at hr; cases hr) (fun p hp => by rw [List.mem_singleton.mp hp]; show (60064 : Nat) % 2 = 0; decide) hf.1
  have hq : sc X (rset [(60064, (Int32.ofInt (abest (ρ.2.2.1 1956) (ρ.2.2.1 1988))))] ρ) (150, .add (.elem (.arg 1956) (.int 0)) (.elem (.arg 1988) (.int 0)), .arg 60064) = true := decide_eq_true (show ((rset [(60064, (Int32.ofInt (abest (ρ.2.2.1 1956) (ρ.2.2.1 1988))))] ρ).1 60064).toInt = abest (ρ.2.2.1 1956) (ρ.2.2.1 1988) from e)
  have pA : PT X t (rset [(60064, (Int32.ofInt (abest (ρ.2.2.1 1956) (ρ.2.2.1 1988))))] ρ) := PT_ag (agr_le (by decide) ag) hp
  exact RelP_agq (n := 60000) (ρ2 := rset [(60064, (Int32.ofInt (abest (ρ.2.2.1 1956) (ρ.2.2.1 1988))))] ρ) (ρ := ρ) ag (by decide +kernel) (by decide +kernel) (by decide +kernel) (by decide +kernel) (r_s63 (rset_kok hk) ⟨av, fcn hq (fun f hf => by cases hf)⟩ (fun ρ2 k2 f2 am2 => r_ts6m3 k2 f2 (fun c hc => by cases hc) (fun ρ3 k3 f3 _ am => c_ES6 k3 f3.1 ⟨some (.int (ρ3.1 60064)), some (.int (ρ3.1 60064)), rfl, rfl, ⟨ρ3.1 60064, rfl, rfl, k3, f3.1, of_decide_eq_true (f3.2 _ List.mem_cons_self), PT_keep am (by decide +kernel) (PT_keep am2 (by decide +kernel) pA)⟩⟩))))
