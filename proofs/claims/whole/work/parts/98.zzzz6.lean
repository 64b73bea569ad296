set_option maxRecDepth 20000
/-! ===== the law: cases by contracts ===== -/
noncomputable def c_jobU : sC := ((191, 418, 13), ([tr 0, .arg 60028, .arg 60016, .arg 60004, .arg 60002, .arg 60034], [tr 219, .arg 60028, .arg 60016, .arg 60004, .arg 60002, .arg 60034]), ([0, 205, 2, 3, 8, 9, 14, 15, 203, 204], [219, 237, 238, 239, 240, 241, 335]), [((6, .arg 5089, .op2 .lor (.op1 .i2l (.arg 19360)) (.op2 .lshl (.op1 .i2l (.arg 19392)) (.int 16))), true), ((2, .arg 17824, .int 0), false), ((2, .int 3, .arg 17824), false), ((2, .arg 19360, .int 0), false), ((2, .int 65535, .arg 19360), false), ((2, .arg 19392, .int 0), false), ((2, .int 255, .arg 19392), false), ((0, .arg 17728, .int 1), false), ((0, .arg 1294, .int (-1)), true)], ([1418, 1312, 17792, 18048, 17728, 17760, 1292, 17856, 17888, 17920, 17952, 17984, 18016, 19424, 19456, 19488, 19520, 19552, 19584, 19360, 19392, 17824, 19232, 5089], [1536, 1409]), (none, none), [((6, .arg 5089, .op2 .lor (.op1 .i2l (.arg 19360)) (.op2 .lshl (.op1 .i2l (.arg 19392)) (.int 16))), true), ((0, .arg 17728, .int 1), true), ((0, .arg 19232, .int 0), true), ((2, .arg 17824, .int 0), false), ((2, .int 3, .arg 17824), false), ((2, .arg 19360, .int 0), false), ((2, .int 65535, .arg 19360), false), ((2, .arg 19392, .int 0), false), ((2, .int 255, .arg 19392), false)], ([], [([((0, .arg 17728, .int 1), true)], (0, .arg 19424, .add (.arg 17856) (.int 1)), true), ([((0, .arg 17728, .int 1), true)], (2, .int (-1), .arg 17856), true), ([((0, .arg 17728, .int 1), true)], (2, .arg 17856, .int 11), true), ([((0, .arg 17728, .int 1), true), ((0, .arg 17856, .int 1), true)], (0, .arg 17888, .int 0), true), ([((0, .arg 17728, .int 1), true), ((0, .arg 17856, .int 1), true)], (0, .arg 17920, .int 0), true), ([((0, .arg 17728, .int 1), true), ((0, .arg 17856, .int 2), true)], (0, .arg 17920, .arg 19488), true), ([((0, .arg 17728, .int 1), true), ((0, .arg 17856, .int 2), true)], (0, .arg 17888, .arg 19456), true), ([((0, .arg 17728, .int 1), true), ((0, .arg 17856, .int 2), true)], (2, .int (-1), .arg 17888), true), ([((0, .arg 17728, .int 1), true), ((0, .arg 17856, .int 2), true)], (2, .arg 17888, .int 2), true), ([((0, .arg 17728, .int 1), true), ((0, .arg 17856, .int 2), true)], (2, .arg 17920, .int 0), false), ([((0, .arg 17728, .int 1), true), ((0, .arg 17856, .int 2), true)], (2, .int 160, .arg 17920), false), ([((0, .arg 17728, .int 1), true), ((0, .arg 17856, .int 2), true)], (2, .arg 1292, .arg 17920), false), ([((0, .arg 17728, .int 1), true), ((0, .arg 17856, .int 2), true), ((0, .arg 17920, .arg 1292), true)], (0, .arg 19520, .int 1), true), ([((0, .arg 17728, .int 1), true), ((0, .arg 17856, .int 2), true), ((0, .arg 17920, .arg 1292), false)], (0, .arg 19520, .int 0), true), ([((0, .arg 17728, .int 1), true), ((0, .arg 17856, .int 3), true)], (0, .arg 17888, .int 0), true), ([((0, .arg 17728, .int 1), true), ((0, .arg 17856, .int 4), true)], (0, .arg 17888, .arg 19456), true), ([((0, .arg 17728, .int 1), true), ((0, .arg 17856, .int 4), true)], (2, .int (-1), .arg 17888), true), ([((0, .arg 17728, .int 1), true), ((0, .arg 17856, .int 4), true)], (2, .arg 17888, .int 2), true), ([((0, .arg 17728, .int 1), true), ((0, .arg 17856, .int 5), true)], (0, .arg 17952, .int 0), true), ([((0, .arg 17728, .int 1), true), ((0, .arg 17856, .int 6), true)], (0, .arg 19488, .mul (.arg 17952) (.int 7)), true), ([((0, .arg 17728, .int 1), true), ((0, .arg 17856, .int 6), true)], (0, .arg 17984, .arg 19584), true), ([((0, .arg 17728, .int 1), true), ((0, .arg 17856, .int 6), true)], (2, .arg 17952, .int 0), false), ([((0, .arg 17728, .int 1), true), ((0, .arg 17856, .int 6), true)], (2, .int 22, .arg 17952), false), ([((0, .arg 17728, .int 1), true), ((0, .arg 17856, .int 6), true)], (2, .arg 17984, .int 1), false), ([((0, .arg 17728, .int 1), true), ((0, .arg 17856, .int 6), true)], (2, .int 127, .arg 17984), false), ([((0, .arg 17728, .int 1), true), ((0, .arg 17856, .int 6), true), ((0, .arg 1292, .int 0), false)], (2, .mul (.add (.arg 17952) (.arg 17984)) (.int 7), .add (.arg 1292) (.int 7)), true), ([((0, .arg 17728, .int 1), true), ((0, .arg 17856, .int 6), true), ((0, .arg 1292, .int 0), true)], (2, .mul (.add (.arg 17952) (.arg 17984)) (.int 7), .int 8), true), ([((0, .arg 17728, .int 1), true), ((0, .arg 17856, .int 6), true), ((2, .mul (.add (.arg 17952) (.arg 17984)) (.int 7), .arg 1292), true)], (0, .arg 19520, .int 0), true), ([((0, .arg 17728, .int 1), true), ((0, .arg 17856, .int 6), true), ((2, .mul (.add (.arg 17952) (.arg 17984)) (.int 7), .arg 1292), false)], (0, .arg 19520, .int 1), true), ([((0, .arg 17728, .int 1), true), ((0, .arg 17856, .int 8), true)], (0, .arg 18016, .int 0), true), ([((0, .arg 17728, .int 1), true), ((0, .arg 17856, .int 9), true)], (0, .arg 18016, .arg 19584), true), ([((0, .arg 17728, .int 1), true), ((0, .arg 17856, .int 9), true)], (2, .int (-1), .arg 18016), true), ([((0, .arg 17728, .int 1), true), ((0, .arg 17856, .int 9), true)], (2, .arg 18016, .int 128), true), ([((0, .arg 17728, .int 1), true), ((0, .arg 17856, .int 10), true)], (2, .int 6, .arg 1292), true)]))
theorem g_jobU : cgood 65536 c_jobc = true := by decide +kernel
theorem c_jobU_f : cfine zT 65536 c_jobU = true := by decide +kernel
noncomputable def σ_jobU : sM := ([(54404, .arg 19392), (54416, .arg 19360), (54428, .arg 17824)], [])
noncomputable def τ_jobU : sM := ([(1418, .arg 66954), (1312, .arg 66848), (17792, .arg 83328), (18048, .arg 83584), (17728, .arg 83264), (17760, .arg 83296), (1292, .arg 66828), (17856, .arg 83392), (17888, .arg 83424), (17920, .arg 83456), (17952, .arg 83488), (17984, .arg 83520), (18016, .arg 83552), (19424, .arg 84960), (19456, .arg 84992), (19488, .arg 85024), (19520, .arg 85056), (19552, .arg 85088), (19584, .arg 85120), (19360, .arg 119952), (19392, .arg 119940), (17824, .arg 119964), (19232, .arg 84768), (5089, .op2 .lor (.op1 .i2l (.arg 119952)) (.op2 .lshl (.op1 .i2l (.arg 119940)) (.int 16)))], [(1536, .arg 67072, []), (1409, .arg 66945, [])])
theorem k_jobU : ruseT 65536 kR zJ c_jobc zT c_jobU (isatP c_jobU.2.2.2.1 c_jobU.2.2.2.2.2.2.2.1) c_jobU.2.2.2.2.2.2.2.1 σ_jobU (sig2 65536 c_jobc.2.2.2.2.1.1 c_jobc.2.2.2.2.1.2 σ_jobU) τ_jobU = true := by decide +kernel
theorem s_jobU {X : pX} : SREL X pF pdfl mt_all kR zT c_jobU := SREL_useT kR_x kR_0 (s_jobc) g_jobU c_jobU_f k_jobU
theorem kr_15_0 : lrow 805 600 (((2, scT 1, .int 0), true) :: Fk 15) = true := by decide +kernel
theorem kr_15_1 : lrow 805 600 (((2, .int 3, scT 1), true) :: ((2, scT 1, .int 0), false) :: Fk 15) = true := by decide +kernel
theorem kr_15_2 : lrow 805 600 (((2, scT 2, .int 0), true) :: ((2, .int 3, scT 1), false) :: ((2, scT 1, .int 0), false) :: Fk 15) = true := by decide +kernel
theorem kr_15_3 : lrow 805 600 (((2, .int 65535, scT 2), true) :: ((2, scT 2, .int 0), false) :: ((2, .int 3, scT 1), false) :: ((2, scT 1, .int 0), false) :: Fk 15) = true := by decide +kernel
theorem kr_15_4 : lrow 805 600 (((2, scT 3, .int 0), true) :: ((2, .int 65535, scT 2), false) :: ((2, scT 2, .int 0), false) :: ((2, .int 3, scT 1), false) :: ((2, scT 1, .int 0), false) :: Fk 15) = true := by decide +kernel
theorem kr_15_5 : lrow 805 600 (((2, .int 255, scT 3), true) :: ((2, scT 3, .int 0), false) :: ((2, .int 65535, scT 2), false) :: ((2, scT 2, .int 0), false) :: ((2, .int 3, scT 1), false) :: ((2, scT 1, .int 0), false) :: Fk 15) = true := by decide +kernel
theorem kr_15_6 : lrow 805 600 (((0, .arg 17728, .int 1), true) :: ((2, .int 255, scT 3), false) :: ((2, scT 3, .int 0), false) :: ((2, .int 65535, scT 2), false) :: ((2, scT 2, .int 0), false) :: ((2, .int 3, scT 1), false) :: ((2, scT 1, .int 0), false) :: Fk 15) = true := by decide +kernel
theorem kr_15_7 : lrow 805 600 (((2, .arg 1294, .int 0), false) :: ((0, .arg 17728, .int 1), false) :: ((2, .int 255, scT 3), false) :: ((2, scT 3, .int 0), false) :: ((2, .int 65535, scT 2), false) :: ((2, scT 2, .int 0), false) :: ((2, .int 3, scT 1), false) :: ((2, scT 1, .int 0), false) :: Fk 15) = true := by decide +kernel
theorem wk_c_jobU : wok c_jobU = true := by decide +kernel
theorem kp_c_jobU {X : pX} {t : Int} : KP X c_jobU t := KP_G (0, .int 0, .int 1) (fun _ _ _ _ => decide_eq_false (show ¬ (0 : Int32) = 1 by decide)) (by decide +kernel)
noncomputable def hA_w15_0_0 : sF := frH 447 6 [(0, tr 0), (1, scT 1), (2, scT 2), (3, scT 3), (4, .int 0), (5, .int 0)] [.int 0, .int 0, scT 3, scT 2, scT 1, tr 0]
noncomputable def lA_w15_0_0 : sF := frL 840 zLv []
noncomputable def sA_w15_0_0 : sS := (hA_w15_0_0, [lA_w15_0_0], 19, zLw, 103275)
theorem ka_w15_0_0 : crow 805 400 (((0, scT 5, .int 0), true) :: ((0, scT 4, .int 0), true) :: ((2, .arg 1294, .int 0), true) :: ((0, .arg 17728, .int 1), false) :: ((2, .int 255, scT 3), false) :: ((2, scT 3, .int 0), false) :: ((2, .int 65535, scT 2), false) :: ((2, scT 2, .int 0), false) :: ((2, .int 3, scT 1), false) :: ((2, scT 1, .int 0), false) :: Fk 15) sA_w15_0_0 = true := by decide +kernel
noncomputable def hB_w15_0_0 : sF := frH 447 7 [(0, tr 0), (1, scT 1), (2, scT 2), (3, scT 3), (4, .int 0), (5, .int 0)] ([] ++ [])
noncomputable def sM_w15_0_0 : sS := (frL 875 ((5, .int 0) :: zLv) [.int 0, .int 0, scT 3, scT 2, scT 1, tr 219], [], 20, foot zLw fL8, 0)
noncomputable def fM_w15_0_0 : sFs := []
noncomputable def fZ_w15_0_0 : sFs := [((0, scT 5, .int 0), true), ((0, scT 4, .int 0), true)]
theorem kb_w15_0_0 : srun ysN pF pdfl mt_all hlp kR (fun F s => sinstX kR F (sgM s) fM_w15_0_0 sM_w15_0_0 s) 300 ([] ++ (fZ_w15_0_0 ++ Fi6)) (hB_w15_0_0, [lA_w15_0_0], 19, foot zLw fL8, 0) = true := by decide +kernel
theorem kc_w15_0_0 : srun ysN pF pdfl mt_all hlp kR sBkP 300 (((0, .arg 19232, .int 0), true) :: (fM_w15_0_0 ++ Fi6)) (frL 876 ((5, .int 0) :: zLv) ([] ++ []), [], 20, zLw, 103275) = true := by decide +kernel
noncomputable def hA_w15_0_1 : sF := frH 447 6 [(0, tr 0), (1, scT 1), (2, scT 2), (3, scT 3), (4, .int 0), (5, .int 1)] [.int 1, .int 0, scT 3, scT 2, scT 1, tr 0]
noncomputable def lA_w15_0_1 : sF := frL 840 zLv []
noncomputable def sA_w15_0_1 : sS := (hA_w15_0_1, [lA_w15_0_1], 19, zLw, 103275)
theorem ka_w15_0_1 : crow 805 400 (((0, scT 5, .int 0), false) :: ((0, scT 4, .int 0), true) :: ((2, .arg 1294, .int 0), true) :: ((0, .arg 17728, .int 1), false) :: ((2, .int 255, scT 3), false) :: ((2, scT 3, .int 0), false) :: ((2, .int 65535, scT 2), false) :: ((2, scT 2, .int 0), false) :: ((2, .int 3, scT 1), false) :: ((2, scT 1, .int 0), false) :: Fk 15) sA_w15_0_1 = true := by decide +kernel
noncomputable def hB_w15_0_1 : sF := frH 447 7 [(0, tr 0), (1, scT 1), (2, scT 2), (3, scT 3), (4, .int 0), (5, .int 1)] ([] ++ [])
noncomputable def sM_w15_0_1 : sS := (frL 875 ((5, .int 0) :: zLv) [.int 1, .int 0, scT 3, scT 2, scT 1, tr 219], [], 20, foot zLw fL8, 0)
noncomputable def fM_w15_0_1 : sFs := []
noncomputable def fZ_w15_0_1 : sFs := [((0, scT 5, .int 0), false), ((0, scT 4, .int 0), true)]
theorem kb_w15_0_1 : srun ysN pF pdfl mt_all hlp kR (fun F s => sinstX kR F (sgM s) fM_w15_0_1 sM_w15_0_1 s) 300 ([] ++ (fZ_w15_0_1 ++ Fi6)) (hB_w15_0_1, [lA_w15_0_1], 19, foot zLw fL8, 0) = true := by decide +kernel
theorem kc_w15_0_1 : srun ysN pF pdfl mt_all hlp kR sBkP 300 (((0, .arg 19232, .int 0), true) :: (fM_w15_0_1 ++ Fi6)) (frL 876 ((5, .int 0) :: zLv) ([] ++ []), [], 20, zLw, 103275) = true := by decide +kernel
noncomputable def hA_w15_1_0 : sF := frH 447 6 [(0, tr 0), (1, scT 1), (2, scT 2), (3, scT 3), (4, .int 1), (5, .int 0)] [.int 0, .int 1, scT 3, scT 2, scT 1, tr 0]
noncomputable def lA_w15_1_0 : sF := frL 840 zLv []
noncomputable def sA_w15_1_0 : sS := (hA_w15_1_0, [lA_w15_1_0], 19, zLw, 103275)
theorem ka_w15_1_0 : crow 805 400 (((0, scT 5, .int 0), true) :: ((0, scT 4, .int 0), false) :: ((2, .arg 1294, .int 0), true) :: ((0, .arg 17728, .int 1), false) :: ((2, .int 255, scT 3), false) :: ((2, scT 3, .int 0), false) :: ((2, .int 65535, scT 2), false) :: ((2, scT 2, .int 0), false) :: ((2, .int 3, scT 1), false) :: ((2, scT 1, .int 0), false) :: Fk 15) sA_w15_1_0 = true := by decide +kernel
noncomputable def hB_w15_1_0 : sF := frH 447 7 [(0, tr 0), (1, scT 1), (2, scT 2), (3, scT 3), (4, .int 1), (5, .int 0)] ([] ++ [])
noncomputable def sM_w15_1_0 : sS := (frL 875 ((5, .int 0) :: zLv) [.int 0, .int 1, scT 3, scT 2, scT 1, tr 219], [], 20, foot zLw fL8, 0)
noncomputable def fM_w15_1_0 : sFs := []
noncomputable def fZ_w15_1_0 : sFs := [((0, scT 5, .int 0), true), ((0, scT 4, .int 0), false)]
theorem kb_w15_1_0 : srun ysN pF pdfl mt_all hlp kR (fun F s => sinstX kR F (sgM s) fM_w15_1_0 sM_w15_1_0 s) 300 ([] ++ (fZ_w15_1_0 ++ Fi6)) (hB_w15_1_0, [lA_w15_1_0], 19, foot zLw fL8, 0) = true := by decide +kernel
theorem kc_w15_1_0 : srun ysN pF pdfl mt_all hlp kR sBkP 300 (((0, .arg 19232, .int 0), true) :: (fM_w15_1_0 ++ Fi6)) (frL 876 ((5, .int 0) :: zLv) ([] ++ []), [], 20, zLw, 103275) = true := by decide +kernel
noncomputable def hA_w15_1_1 : sF := frH 447 6 [(0, tr 0), (1, scT 1), (2, scT 2), (3, scT 3), (4, .int 1), (5, .int 1)] [.int 1, .int 1, scT 3, scT 2, scT 1, tr 0]
noncomputable def lA_w15_1_1 : sF := frL 840 zLv []
noncomputable def sA_w15_1_1 : sS := (hA_w15_1_1, [lA_w15_1_1], 19, zLw, 103275)
theorem ka_w15_1_1 : crow 805 400 (((0, scT 5, .int 0), false) :: ((0, scT 4, .int 0), false) :: ((2, .arg 1294, .int 0), true) :: ((0, .arg 17728, .int 1), false) :: ((2, .int 255, scT 3), false) :: ((2, scT 3, .int 0), false) :: ((2, .int 65535, scT 2), false) :: ((2, scT 2, .int 0), false) :: ((2, .int 3, scT 1), false) :: ((2, scT 1, .int 0), false) :: Fk 15) sA_w15_1_1 = true := by decide +kernel
noncomputable def hB_w15_1_1 : sF := frH 447 7 [(0, tr 0), (1, scT 1), (2, scT 2), (3, scT 3), (4, .int 1), (5, .int 1)] ([] ++ [])
noncomputable def sM_w15_1_1 : sS := (frL 875 ((5, .int 0) :: zLv) [.int 1, .int 1, scT 3, scT 2, scT 1, tr 219], [], 20, foot zLw fL8, 0)
noncomputable def fM_w15_1_1 : sFs := []
noncomputable def fZ_w15_1_1 : sFs := [((0, scT 5, .int 0), false), ((0, scT 4, .int 0), false)]
theorem kb_w15_1_1 : srun ysN pF pdfl mt_all hlp kR (fun F s => sinstX kR F (sgM s) fM_w15_1_1 sM_w15_1_1 s) 300 ([] ++ (fZ_w15_1_1 ++ Fi6)) (hB_w15_1_1, [lA_w15_1_1], 19, foot zLw fL8, 0) = true := by decide +kernel
theorem kc_w15_1_1 : srun ysN pF pdfl mt_all hlp kR sBkP 300 (((0, .arg 19232, .int 0), true) :: (fM_w15_1_1 ++ Fi6)) (frL 876 ((5, .int 0) :: zLv) ([] ++ []), [], 20, zLw, 103275) = true := by decide +kernel
theorem zcp_15 {L : Nat} {xs : Nat → Int32} (hL : L ≤ 3073) : ZCP L xs 15 805 := by
  intro ρ hB hi IH hK hF hp
  have b1 := hB.1
  have b2 := hB.2.1
  by_cases r0 : (sd (pXs L xs) ρ (scT 1)).1 < (sd (pXs L xs) ρ (.int 0)).1
  · have g : fok (pXs L xs) ρ (((2, scT 1, .int 0), true) :: Fk 15) := ⟨hF.1, fcn (decide_eq_true r0) (hF.2)⟩
    exact lrow_ok hL hB hi IH hK g hp kr_15_0
  by_cases r1 : (sd (pXs L xs) ρ (.int 3)).1 < (sd (pXs L xs) ρ (scT 1)).1
  · have g : fok (pXs L xs) ρ (((2, .int 3, scT 1), true) :: ((2, scT 1, .int 0), false) :: Fk 15) := ⟨hF.1, fcn (decide_eq_true r1) (fcn (decide_eq_false r0) (hF.2))⟩
    exact lrow_ok hL hB hi IH hK g hp kr_15_1
  by_cases r2 : (sd (pXs L xs) ρ (scT 2)).1 < (sd (pXs L xs) ρ (.int 0)).1
  · have g : fok (pXs L xs) ρ (((2, scT 2, .int 0), true) :: ((2, .int 3, scT 1), false) :: ((2, scT 1, .int 0), false) :: Fk 15) := ⟨hF.1, fcn (decide_eq_true r2) (fcn (decide_eq_false r1) (fcn (decide_eq_false r0) (hF.2)))⟩
    exact lrow_ok hL hB hi IH hK g hp kr_15_2
  by_cases r3 : (sd (pXs L xs) ρ (.int 65535)).1 < (sd (pXs L xs) ρ (scT 2)).1
  · have g : fok (pXs L xs) ρ (((2, .int 65535, scT 2), true) :: ((2, scT 2, .int 0), false) :: ((2, .int 3, scT 1), false) :: ((2, scT 1, .int 0), false) :: Fk 15) := ⟨hF.1, fcn (decide_eq_true r3) (fcn (decide_eq_false r2) (fcn (decide_eq_false r1) (fcn (decide_eq_false r0) (hF.2))))⟩
    exact lrow_ok hL hB hi IH hK g hp kr_15_3
  by_cases r4 : (sd (pXs L xs) ρ (scT 3)).1 < (sd (pXs L xs) ρ (.int 0)).1
  · have g : fok (pXs L xs) ρ (((2, scT 3, .int 0), true) :: ((2, .int 65535, scT 2), false) :: ((2, scT 2, .int 0), false) :: ((2, .int 3, scT 1), false) :: ((2, scT 1, .int 0), false) :: Fk 15) := ⟨hF.1, fcn (decide_eq_true r4) (fcn (decide_eq_false r3) (fcn (decide_eq_false r2) (fcn (decide_eq_false r1) (fcn (decide_eq_false r0) (hF.2)))))⟩
    exact lrow_ok hL hB hi IH hK g hp kr_15_4
  by_cases r5 : (sd (pXs L xs) ρ (.int 255)).1 < (sd (pXs L xs) ρ (scT 3)).1
  · have g : fok (pXs L xs) ρ (((2, .int 255, scT 3), true) :: ((2, scT 3, .int 0), false) :: ((2, .int 65535, scT 2), false) :: ((2, scT 2, .int 0), false) :: ((2, .int 3, scT 1), false) :: ((2, scT 1, .int 0), false) :: Fk 15) := ⟨hF.1, fcn (decide_eq_true r5) (fcn (decide_eq_false r4) (fcn (decide_eq_false r3) (fcn (decide_eq_false r2) (fcn (decide_eq_false r1) (fcn (decide_eq_false r0) (hF.2))))))⟩
    exact lrow_ok hL hB hi IH hK g hp kr_15_5
  by_cases r6 : (sd (pXs L xs) ρ (.arg 17728)).1 = (sd (pXs L xs) ρ (.int 1)).1
  · have g : fok (pXs L xs) ρ (((0, .arg 17728, .int 1), true) :: ((2, .int 255, scT 3), false) :: ((2, scT 3, .int 0), false) :: ((2, .int 65535, scT 2), false) :: ((2, scT 2, .int 0), false) :: ((2, .int 3, scT 1), false) :: ((2, scT 1, .int 0), false) :: Fk 15) := ⟨hF.1, fcn (decide_eq_true r6) (fcn (decide_eq_false r5) (fcn (decide_eq_false r4) (fcn (decide_eq_false r3) (fcn (decide_eq_false r2) (fcn (decide_eq_false r1) (fcn (decide_eq_false r0) (hF.2)))))))⟩
    exact lrow_ok hL hB hi IH hK g hp kr_15_6
  by_cases r7 : ¬ ((sd (pXs L xs) ρ (.arg 1294)).1 < (sd (pXs L xs) ρ (.int 0)).1)
  · have g : fok (pXs L xs) ρ (((2, .arg 1294, .int 0), false) :: ((0, .arg 17728, .int 1), false) :: ((2, .int 255, scT 3), false) :: ((2, scT 3, .int 0), false) :: ((2, .int 65535, scT 2), false) :: ((2, scT 2, .int 0), false) :: ((2, .int 3, scT 1), false) :: ((2, scT 1, .int 0), false) :: Fk 15) := ⟨hF.1, fcn (decide_eq_false r7) (fcn (decide_eq_false r6) (fcn (decide_eq_false r5) (fcn (decide_eq_false r4) (fcn (decide_eq_false r3) (fcn (decide_eq_false r2) (fcn (decide_eq_false r1) (fcn (decide_eq_false r0) (hF.2))))))))⟩
    exact lrow_ok hL hB hi IH hK g hp kr_15_7
  have r7 := Classical.not_not.mp r7
  have tkv : ρ.1 1294 = -1 := Int32.toInt_inj.mp (by
    have q : (-1 : Int) ≤ (ρ.1 1294).toInt ∧ (ρ.1 1294).toInt ≤ 3 := hF.1.1 1294 (-1, 3) rfl
    have q2 := Int32.lt_iff_toInt_lt.mp r7
    have q3 : (ρ.1 1294).toInt < 0 := q2
    have q4 : (-1 : Int32).toInt = -1 := rfl
    omega)
  by_cases hb4 : (sd (pXs L xs) ρ (scT 4)).1 = (sd (pXs L xs) ρ (.int 0)).1
  · by_cases hb5 : (sd (pXs L xs) ρ (scT 5)).1 = (sd (pXs L xs) ρ (.int 0)).1
    · have g : fok (pXs L xs) ρ (((0, scT 5, .int 0), true) :: ((0, scT 4, .int 0), true) :: ((2, .arg 1294, .int 0), true) :: ((0, .arg 17728, .int 1), false) :: ((2, .int 255, scT 3), false) :: ((2, scT 3, .int 0), false) :: ((2, .int 65535, scT 2), false) :: ((2, scT 2, .int 0), false) :: ((2, .int 3, scT 1), false) :: ((2, scT 1, .int 0), false) :: Fk 15) := ⟨hF.1, fcn (decide_eq_true hb5) (fcn (decide_eq_true hb4) (fcn (decide_eq_true r7) (fcn (decide_eq_false r6) (fcn (decide_eq_false r5) (fcn (decide_eq_false r4) (fcn (decide_eq_false r3) (fcn (decide_eq_false r2) (fcn (decide_eq_false r1) (fcn (decide_eq_false r0) (hF.2))))))))))⟩
      refine crow_ok hK g ka_w15_0_0 ?_
      have ag0 : agr 59000 (rset [(60028, (sd (pXs L xs) ρ (scT 1)).1), (60016, (sd (pXs L xs) ρ (scT 2)).1), (60004, (sd (pXs L xs) ρ (scT 3)).1), (60002, 0), (60034, 0)] ρ) ρ := rset_agr (fun p hp => by
        simp only [List.mem_cons, List.not_mem_nil, or_false] at hp
        rcases hp with rfl | rfl | rfl | rfl | rfl
        · show 59000 ≤ 60028; decide
        · show 59000 ≤ 60016; decide
        · show 59000 ≤ 60004; decide
        · show 59000 ≤ 60002; decide
        · show 59000 ≤ 60034; decide)
      have av0 : vok (pXs L xs) (rset [(60028, (sd (pXs L xs) ρ (scT 1)).1), (60016, (sd (pXs L xs) ρ (scT 2)).1), (60004, (sd (pXs L xs) ρ (scT 3)).1), (60002, 0), (60034, 0)] ρ) := rset_vok (fun p hp r hr => by
        simp only [List.mem_cons, List.not_mem_nil, or_false] at hp
        rcases hp with rfl | rfl | rfl | rfl | rfl
        · rw [show vrng 60028 = some (0, 3) from rfl] at hr; cases hr; exact ⟨ge_i r0, le_i r1⟩
        · rw [show vrng 60016 = some (0, 65535) from rfl] at hr; cases hr; exact ⟨ge_i r2, le_i r3⟩
        · rw [show vrng 60004 = some (0, 255) from rfl] at hr; cases hr; exact ⟨ge_i r4, le_i r5⟩
        · rw [show vrng 60002 = some (0, 1) from rfl] at hr; cases hr; exact ⟨by decide, by decide⟩
        · rw [show vrng 60034 = some (0, 1) from rfl] at hr; cases hr; exact ⟨by decide, by decide⟩) (fun p hp => by
        simp only [List.mem_cons, List.not_mem_nil, or_false] at hp
        rcases hp with rfl | rfl | rfl | rfl | rfl
        · show (60028 : Nat) % 2 = 0; decide
        · show (60016 : Nat) % 2 = 0; decide
        · show (60004 : Nat) % 2 = 0; decide
        · show (60002 : Nat) % 2 = 0; decide
        · show (60034 : Nat) % 2 = 0; decide) hF.1
      have ag := ag0
      have av := av0
      refine lgood (C := wideC c_jobU) (t := 40 * (ρ.1 59744).toInt) (tq := 40 * (ρ.1 59744).toInt) (vt := []) (FZ := fZ_w15_0_0) (nB := 300) (nC := 300) (SREL_w1 s_jobU wk_c_jobU) rfl (by decide +kernel) (hQ_V rfl (by decide +kernel) kp_c_jobU) rfl rfl rfl (by decide +kernel) rfl rfl rfl (by decide +kernel) ⟨876, rfl⟩ rfl (fun w z => ⟨[], fM_w15_0_0, fun _ _ _ f hf => (by cases hf), kb_w15_0_0, kc_w15_0_0⟩) hL hB hi IH hF.1 (fall_S (L := ((0, scT 5, .int 0), true) :: ((0, scT 4, .int 0), true) :: ((2, .arg 1294, .int 0), true) :: ((0, .arg 17728, .int 1), false) :: ((2, .int 255, scT 3), false) :: ((2, scT 3, .int 0), false) :: ((2, .int 65535, scT 2), false) :: ((2, scT 2, .int 0), false) :: ((2, .int 3, scT 1), false) :: ((2, scT 1, .int 0), false) :: Fk 15) (by decide +kernel) g.2) (by omega) ag (rset_kok hK) ⟨av, fcn ((PT_ag ag hp).1.2.1 _ (fin1_ok (by decide +kernel))) (fcn ((PT_ag ag hp).1.2.1 _ (fin1_ok (by decide +kernel))) (fcn ((PT_ag ag hp).1.2.1 _ (fin1_ok (by decide +kernel))) (fcn ((PT_ag ag hp).1.2.1 _ (fin1_ok (by decide +kernel))) (fcn ((PT_ag ag hp).1.2.1 _ (fin1_ok (by decide +kernel))) (fcn ((PT_ag ag hp).1.2.1 _ (fin1_ok (by decide +kernel))) (fcn ((PT_ag ag hp).1.2.1 _ (fin1_ok (by decide +kernel))) (fcn (decide_eq_false r6) (fcn (decide_eq_true (show ρ.1 1294 = -1 from tkv)) ((fun f hf => by cases hf))))))))))⟩ (fun c hc => by cases hc) (PT_ag ag hp) ?_ ?_
      · show [Value.ref 0, Value.int _, Value.int _, Value.int _, Value.int _, Value.int _] = [Value.ref 0, sv (pXs L xs) ρ (scT 1), sv (pXs L xs) ρ (scT 2), sv (pXs L xs) ρ (scT 3), Value.int 0, Value.int 0]
        rw [sv_int (t := scT 1) rfl, sv_int (t := scT 2) rfl, sv_int (t := scT 3) rfl]
        rfl
      · show [Value.ref 219, Value.int _, Value.int _, Value.int _, Value.int _, Value.int _] = [Value.ref 219, sv (pXs L xs) ρ (scT 1), sv (pXs L xs) ρ (scT 2), sv (pXs L xs) ρ (scT 3), Value.int 0, Value.int 0]
        rw [sv_int (t := scT 1) rfl, sv_int (t := scT 2) rfl, sv_int (t := scT 3) rfl]
        rfl
    · have g : fok (pXs L xs) ρ (((0, scT 5, .int 0), false) :: ((0, scT 4, .int 0), true) :: ((2, .arg 1294, .int 0), true) :: ((0, .arg 17728, .int 1), false) :: ((2, .int 255, scT 3), false) :: ((2, scT 3, .int 0), false) :: ((2, .int 65535, scT 2), false) :: ((2, scT 2, .int 0), false) :: ((2, .int 3, scT 1), false) :: ((2, scT 1, .int 0), false) :: Fk 15) := ⟨hF.1, fcn (decide_eq_false hb5) (fcn (decide_eq_true hb4) (fcn (decide_eq_true r7) (fcn (decide_eq_false r6) (fcn (decide_eq_false r5) (fcn (decide_eq_false r4) (fcn (decide_eq_false r3) (fcn (decide_eq_false r2) (fcn (decide_eq_false r1) (fcn (decide_eq_false r0) (hF.2))))))))))⟩
      refine crow_ok hK g ka_w15_0_1 ?_
      have ag0 : agr 59000 (rset [(60028, (sd (pXs L xs) ρ (scT 1)).1), (60016, (sd (pXs L xs) ρ (scT 2)).1), (60004, (sd (pXs L xs) ρ (scT 3)).1), (60002, 0), (60034, 1)] ρ) ρ := rset_agr (fun p hp => by
        simp only [List.mem_cons, List.not_mem_nil, or_false] at hp
        rcases hp with rfl | rfl | rfl | rfl | rfl
        · show 59000 ≤ 60028; decide
        · show 59000 ≤ 60016; decide
        · show 59000 ≤ 60004; decide
        · show 59000 ≤ 60002; decide
        · show 59000 ≤ 60034; decide)
      have av0 : vok (pXs L xs) (rset [(60028, (sd (pXs L xs) ρ (scT 1)).1), (60016, (sd (pXs L xs) ρ (scT 2)).1), (60004, (sd (pXs L xs) ρ (scT 3)).1), (60002, 0), (60034, 1)] ρ) := rset_vok (fun p hp r hr => by
        simp only [List.mem_cons, List.not_mem_nil, or_false] at hp
        rcases hp with rfl | rfl | rfl | rfl | rfl
        · rw [show vrng 60028 = some (0, 3) from rfl] at hr; cases hr; exact ⟨ge_i r0, le_i r1⟩
        · rw [show vrng 60016 = some (0, 65535) from rfl] at hr; cases hr; exact ⟨ge_i r2, le_i r3⟩
        · rw [show vrng 60004 = some (0, 255) from rfl] at hr; cases hr; exact ⟨ge_i r4, le_i r5⟩
        · rw [show vrng 60002 = some (0, 1) from rfl] at hr; cases hr; exact ⟨by decide, by decide⟩
        · rw [show vrng 60034 = some (0, 1) from rfl] at hr; cases hr; exact ⟨by decide, by decide⟩) (fun p hp => by
        simp only [List.mem_cons, List.not_mem_nil, or_false] at hp
        rcases hp with rfl | rfl | rfl | rfl | rfl
        · show (60028 : Nat) % 2 = 0; decide
        · show (60016 : Nat) % 2 = 0; decide
        · show (60004 : Nat) % 2 = 0; decide
        · show (60002 : Nat) % 2 = 0; decide
        · show (60034 : Nat) % 2 = 0; decide) hF.1
      have ag := ag0
      have av := av0
      refine lgood (C := wideC c_jobU) (t := 40 * (ρ.1 59744).toInt) (tq := 40 * (ρ.1 59744).toInt) (vt := []) (FZ := fZ_w15_0_1) (nB := 300) (nC := 300) (SREL_w1 s_jobU wk_c_jobU) rfl (by decide +kernel) (hQ_V rfl (by decide +kernel) kp_c_jobU) rfl rfl rfl (by decide +kernel) rfl rfl rfl (by decide +kernel) ⟨876, rfl⟩ rfl (fun w z => ⟨[], fM_w15_0_1, fun _ _ _ f hf => (by cases hf), kb_w15_0_1, kc_w15_0_1⟩) hL hB hi IH hF.1 (fall_S (L := ((0, scT 5, .int 0), false) :: ((0, scT 4, .int 0), true) :: ((2, .arg 1294, .int 0), true) :: ((0, .arg 17728, .int 1), false) :: ((2, .int 255, scT 3), false) :: ((2, scT 3, .int 0), false) :: ((2, .int 65535, scT 2), false) :: ((2, scT 2, .int 0), false) :: ((2, .int 3, scT 1), false) :: ((2, scT 1, .int 0), false) :: Fk 15) (by decide +kernel) g.2) (by omega) ag (rset_kok hK) ⟨av, fcn ((PT_ag ag hp).1.2.1 _ (fin1_ok (by decide +kernel))) (fcn ((PT_ag ag hp).1.2.1 _ (fin1_ok (by decide +kernel))) (fcn ((PT_ag ag hp).1.2.1 _ (fin1_ok (by decide +kernel))) (fcn ((PT_ag ag hp).1.2.1 _ (fin1_ok (by decide +kernel))) (fcn ((PT_ag ag hp).1.2.1 _ (fin1_ok (by decide +kernel))) (fcn ((PT_ag ag hp).1.2.1 _ (fin1_ok (by decide +kernel))) (fcn ((PT_ag ag hp).1.2.1 _ (fin1_ok (by decide +kernel))) (fcn (decide_eq_false r6) (fcn (decide_eq_true (show ρ.1 1294 = -1 from tkv)) ((fun f hf => by cases hf))))))))))⟩ (fun c hc => by cases hc) (PT_ag ag hp) ?_ ?_
      · show [Value.ref 0, Value.int _, Value.int _, Value.int _, Value.int _, Value.int _] = [Value.ref 0, sv (pXs L xs) ρ (scT 1), sv (pXs L xs) ρ (scT 2), sv (pXs L xs) ρ (scT 3), Value.int 0, Value.int 1]
        rw [sv_int (t := scT 1) rfl, sv_int (t := scT 2) rfl, sv_int (t := scT 3) rfl]
        rfl
      · show [Value.ref 219, Value.int _, Value.int _, Value.int _, Value.int _, Value.int _] = [Value.ref 219, sv (pXs L xs) ρ (scT 1), sv (pXs L xs) ρ (scT 2), sv (pXs L xs) ρ (scT 3), Value.int 0, Value.int 1]
        rw [sv_int (t := scT 1) rfl, sv_int (t := scT 2) rfl, sv_int (t := scT 3) rfl]
        rfl
  · by_cases hb5 : (sd (pXs L xs) ρ (scT 5)).1 = (sd (pXs L xs) ρ (.int 0)).1
    · have g : fok (pXs L xs) ρ (((0, scT 5, .int 0), true) :: ((0, scT 4, .int 0), false) :: ((2, .arg 1294, .int 0), true) :: ((0, .arg 17728, .int 1), false) :: ((2, .int 255, scT 3), false) :: ((2, scT 3, .int 0), false) :: ((2, .int 65535, scT 2), false) :: ((2, scT 2, .int 0), false) :: ((2, .int 3, scT 1), false) :: ((2, scT 1, .int 0), false) :: Fk 15) := ⟨hF.1, fcn (decide_eq_true hb5) (fcn (decide_eq_false hb4) (fcn (decide_eq_true r7) (fcn (decide_eq_false r6) (fcn (decide_eq_false r5) (fcn (decide_eq_false r4) (fcn (decide_eq_false r3) (fcn (decide_eq_false r2) (fcn (decide_eq_false r1) (fcn (decide_eq_false r0) (hF.2))))))))))⟩
      refine crow_ok hK g ka_w15_1_0 ?_
      have ag0 : agr 59000 (rset [(60028, (sd (pXs L xs) ρ (scT 1)).1), (60016, (sd (pXs L xs) ρ (scT 2)).1), (60004, (sd (pXs L xs) ρ (scT 3)).1), (60002, 1), (60034, 0)] ρ) ρ := rset_agr (fun p hp => by
        simp only [List.mem_cons, List.not_mem_nil, or_false] at hp
        rcases hp with rfl | rfl | rfl | rfl | rfl
        · show 59000 ≤ 60028; decide
        · show 59000 ≤ 60016; decide
        · show 59000 ≤ 60004; decide
        · show 59000 ≤ 60002; decide
        · show 59000 ≤ 60034; decide)
      have av0 : vok (pXs L xs) (rset [(60028, (sd (pXs L xs) ρ (scT 1)).1), (60016, (sd (pXs L xs) ρ (scT 2)).1), (60004, (sd (pXs L xs) ρ (scT 3)).1), (60002, 1), (60034, 0)] ρ) := rset_vok (fun p hp r hr => by
        simp only [List.mem_cons, List.not_mem_nil, or_false] at hp
        rcases hp with rfl | rfl | rfl | rfl | rfl
        · rw [show vrng 60028 = some (0, 3) from rfl] at hr; cases hr; exact ⟨ge_i r0, le_i r1⟩
        · rw [show vrng 60016 = some (0, 65535) from rfl] at hr; cases hr; exact ⟨ge_i r2, le_i r3⟩
        · rw [show vrng 60004 = some (0, 255) from rfl] at hr; cases hr; exact ⟨ge_i r4, le_i r5⟩
        · rw [show vrng 60002 = some (0, 1) from rfl] at hr; cases hr; exact ⟨by decide, by decide⟩
        · rw [show vrng 60034 = some (0, 1) from rfl] at hr; cases hr; exact ⟨by decide, by decide⟩) (fun p hp => by
        simp only [List.mem_cons, List.not_mem_nil, or_false] at hp
        rcases hp with rfl | rfl | rfl | rfl | rfl
        · show (60028 : Nat) % 2 = 0; decide
        · show (60016 : Nat) % 2 = 0; decide
        · show (60004 : Nat) % 2 = 0; decide
        · show (60002 : Nat) % 2 = 0; decide
        · show (60034 : Nat) % 2 = 0; decide) hF.1
      have ag := ag0
      have av := av0
      refine lgood (C := wideC c_jobU) (t := 40 * (ρ.1 59744).toInt) (tq := 40 * (ρ.1 59744).toInt) (vt := []) (FZ := fZ_w15_1_0) (nB := 300) (nC := 300) (SREL_w1 s_jobU wk_c_jobU) rfl (by decide +kernel) (hQ_V rfl (by decide +kernel) kp_c_jobU) rfl rfl rfl (by decide +kernel) rfl rfl rfl (by decide +kernel) ⟨876, rfl⟩ rfl (fun w z => ⟨[], fM_w15_1_0, fun _ _ _ f hf => (by cases hf), kb_w15_1_0, kc_w15_1_0⟩) hL hB hi IH hF.1 (fall_S (L := ((0, scT 5, .int 0), true) :: ((0, scT 4, .int 0), false) :: ((2, .arg 1294, .int 0), true) :: ((0, .arg 17728, .int 1), false) :: ((2, .int 255, scT 3), false) :: ((2, scT 3, .int 0), false) :: ((2, .int 65535, scT 2), false) :: ((2, scT 2, .int 0), false) :: ((2, .int 3, scT 1), false) :: ((2, scT 1, .int 0), false) :: Fk 15) (by decide +kernel) g.2) (by omega) ag (rset_kok hK) ⟨av, fcn ((PT_ag ag hp).1.2.1 _ (fin1_ok (by decide +kernel))) (fcn ((PT_ag ag hp).1.2.1 _ (fin1_ok (by decide +kernel))) (fcn ((PT_ag ag hp).1.2.1 _ (fin1_ok (by decide +kernel))) (fcn ((PT_ag ag hp).1.2.1 _ (fin1_ok (by decide +kernel))) (fcn ((PT_ag ag hp).1.2.1 _ (fin1_ok (by decide +kernel))) (fcn ((PT_ag ag hp).1.2.1 _ (fin1_ok (by decide +kernel))) (fcn ((PT_ag ag hp).1.2.1 _ (fin1_ok (by decide +kernel))) (fcn (decide_eq_false r6) (fcn (decide_eq_true (show ρ.1 1294 = -1 from tkv)) ((fun f hf => by cases hf))))))))))⟩ (fun c hc => by cases hc) (PT_ag ag hp) ?_ ?_
      · show [Value.ref 0, Value.int _, Value.int _, Value.int _, Value.int _, Value.int _] = [Value.ref 0, sv (pXs L xs) ρ (scT 1), sv (pXs L xs) ρ (scT 2), sv (pXs L xs) ρ (scT 3), Value.int 1, Value.int 0]
        rw [sv_int (t := scT 1) rfl, sv_int (t := scT 2) rfl, sv_int (t := scT 3) rfl]
        rfl
      · show [Value.ref 219, Value.int _, Value.int _, Value.int _, Value.int _, Value.int _] = [Value.ref 219, sv (pXs L xs) ρ (scT 1), sv (pXs L xs) ρ (scT 2), sv (pXs L xs) ρ (scT 3), Value.int 1, Value.int 0]
        rw [sv_int (t := scT 1) rfl, sv_int (t := scT 2) rfl, sv_int (t := scT 3) rfl]
        rfl
    · have g : fok (pXs L xs) ρ (((0, scT 5, .int 0), false) :: ((0, scT 4, .int 0), false) :: ((2, .arg 1294, .int 0), true) :: ((0, .arg 17728, .int 1), false) :: ((2, .int 255, scT 3), false) :: ((2, scT 3, .int 0), false) :: ((2, .int 65535, scT 2), false) :: ((2, scT 2, .int 0), false) :: ((2, .int 3, scT 1), false) :: ((2, scT 1, .int 0), false) :: Fk 15) := ⟨hF.1, fcn (decide_eq_false hb5) (fcn (decide_eq_false hb4) (fcn (decide_eq_true r7) (fcn (decide_eq_false r6) (fcn (decide_eq_false r5) (fcn (decide_eq_false r4) (fcn (decide_eq_false r3) (fcn (decide_eq_false r2) (fcn (decide_eq_false r1) (fcn (decide_eq_false r0) (hF.2))))))))))⟩
      refine crow_ok hK g ka_w15_1_1 ?_
      have ag0 : agr 59000 (rset [(60028, (sd (pXs L xs) ρ (scT 1)).1), (60016, (sd (pXs L xs) ρ (scT 2)).1), (60004, (sd (pXs L xs) ρ (scT 3)).1), (60002, 1), (60034, 1)] ρ) ρ := rset_agr (fun p hp => by
        simp only [List.mem_cons, List.not_mem_nil, or_false] at hp
        rcases hp with rfl | rfl | rfl | rfl | rfl
        · show 59000 ≤ 60028; decide
        · show 59000 ≤ 60016; decide
        · show 59000 ≤ 60004; decide
        · show 59000 ≤ 60002; decide
        · show 59000 ≤ 60034; decide)
      have av0 : vok (pXs L xs) (rset [(60028, (sd (pXs L xs) ρ (scT 1)).1), (60016, (sd (pXs L xs) ρ (scT 2)).1), (60004, (sd (pXs L xs) ρ (scT 3)).1), (60002, 1), (60034, 1)] ρ) := rset_vok (fun p hp r hr => by
        simp only [List.mem_cons, List.not_mem_nil, or_false] at hp
        rcases hp with rfl | rfl | rfl | rfl | rfl
        · rw [show vrng 60028 = some (0, 3) from rfl] at hr; cases hr; exact ⟨ge_i r0, le_i r1⟩
        · rw [show vrng 60016 = some (0, 65535) from rfl] at hr; cases hr; exact ⟨ge_i r2, le_i r3⟩
        · rw [show vrng 60004 = some (0, 255) from rfl] at hr; cases hr; exact ⟨ge_i r4, le_i r5⟩
        · rw [show vrng 60002 = some (0, 1) from rfl] at hr; cases hr; exact ⟨by decide, by decide⟩
        · rw [show vrng 60034 = some (0, 1) from rfl] at hr; cases hr; exact ⟨by decide, by decide⟩) (fun p hp => by
        simp only [List.mem_cons, List.not_mem_nil, or_false] at hp
        rcases hp with rfl | rfl | rfl | rfl | rfl
        · show (60028 : Nat) % 2 = 0; decide
        · show (60016 : Nat) % 2 = 0; decide
        · show (60004 : Nat) % 2 = 0; decide
        · show (60002 : Nat) % 2 = 0; decide
        · show (60034 : Nat) % 2 = 0; decide) hF.1
      have ag := ag0
      have av := av0
      refine lgood (C := wideC c_jobU) (t := 40 * (ρ.1 59744).toInt) (tq := 40 * (ρ.1 59744).toInt) (vt := []) (FZ := fZ_w15_1_1) (nB := 300) (nC := 300) (SREL_w1 s_jobU wk_c_jobU) rfl (by decide +kernel) (hQ_V rfl (by decide +kernel) kp_c_jobU) rfl rfl rfl (by decide +kernel) rfl rfl rfl (by decide +kernel) ⟨876, rfl⟩ rfl (fun w z => ⟨[], fM_w15_1_1, fun _ _ _ f hf => (by cases hf), kb_w15_1_1, kc_w15_1_1⟩) hL hB hi IH hF.1 (fall_S (L := ((0, scT 5, .int 0), false) :: ((0, scT 4, .int 0), false) :: ((2, .arg 1294, .int 0), true) :: ((0, .arg 17728, .int 1), false) :: ((2, .int 255, scT 3), false) :: ((2, scT 3, .int 0), false) :: ((2, .int 65535, scT 2), false) :: ((2, scT 2, .int 0), false) :: ((2, .int 3, scT 1), false) :: ((2, scT 1, .int 0), false) :: Fk 15) (by decide +kernel) g.2) (by omega) ag (rset_kok hK) ⟨av, fcn ((PT_ag ag hp).1.2.1 _ (fin1_ok (by decide +kernel))) (fcn ((PT_ag ag hp).1.2.1 _ (fin1_ok (by decide +kernel))) (fcn ((PT_ag ag hp).1.2.1 _ (fin1_ok (by decide +kernel))) (fcn ((PT_ag ag hp).1.2.1 _ (fin1_ok (by decide +kernel))) (fcn ((PT_ag ag hp).1.2.1 _ (fin1_ok (by decide +kernel))) (fcn ((PT_ag ag hp).1.2.1 _ (fin1_ok (by decide +kernel))) (fcn ((PT_ag ag hp).1.2.1 _ (fin1_ok (by decide +kernel))) (fcn (decide_eq_false r6) (fcn (decide_eq_true (show ρ.1 1294 = -1 from tkv)) ((fun f hf => by cases hf))))))))))⟩ (fun c hc => by cases hc) (PT_ag ag hp) ?_ ?_
      · show [Value.ref 0, Value.int _, Value.int _, Value.int _, Value.int _, Value.int _] = [Value.ref 0, sv (pXs L xs) ρ (scT 1), sv (pXs L xs) ρ (scT 2), sv (pXs L xs) ρ (scT 3), Value.int 1, Value.int 1]
        rw [sv_int (t := scT 1) rfl, sv_int (t := scT 2) rfl, sv_int (t := scT 3) rfl]
        rfl
      · show [Value.ref 219, Value.int _, Value.int _, Value.int _, Value.int _, Value.int _] = [Value.ref 219, sv (pXs L xs) ρ (scT 1), sv (pXs L xs) ρ (scT 2), sv (pXs L xs) ρ (scT 3), Value.int 1, Value.int 1]
        rw [sv_int (t := scT 1) rfl, sv_int (t := scT 2) rfl, sv_int (t := scT 3) rfl]
        rfl
