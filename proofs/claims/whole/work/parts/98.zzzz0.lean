set_option maxRecDepth 20000
/-! ===== the law: cases by contracts ===== -/
theorem kr_3_0 : lrow 219 600 (((2, scT 1, .int 0), true) :: Fk 3) = true := by decide +kernel
theorem kr_3_1 : lrow 219 600 (((2, .int 4, scT 1), true) :: ((2, scT 1, .int 0), false) :: Fk 3) = true := by decide +kernel
theorem kr_3_2 : lrow 219 600 (((2, scT 2, .int 0), true) :: ((2, .int 4, scT 1), false) :: ((2, scT 1, .int 0), false) :: Fk 3) = true := by decide +kernel
theorem kr_3_3 : lrow 219 600 (((2, .int 1000, scT 2), true) :: ((2, scT 2, .int 0), false) :: ((2, .int 4, scT 1), false) :: ((2, scT 1, .int 0), false) :: Fk 3) = true := by decide +kernel
noncomputable def hA_w3 : sF := frH 435 5 [(0, tr 0), (1, scT 1), (2, scT 2), (3, tr 348)] [scT 2, scT 1, tr 0, .int 0, tr 348]
noncomputable def lA_w3 : sF := frL 232 zLv []
noncomputable def sA_w3 : sS := (hA_w3, [lA_w3], 19, zLw, 103275)
theorem ka_w3 : crow 219 400 (((2, .int 1000, scT 2), false) :: ((2, scT 2, .int 0), false) :: ((2, .int 4, scT 1), false) :: ((2, scT 1, .int 0), false) :: Fk 3) sA_w3 = true := by decide +kernel
noncomputable def hB_w3 : sF := frH 435 6 [(0, tr 0), (1, scT 1), (2, scT 2), (3, tr 348)] ([.arg 59808] ++ [.int 0, tr 348])
noncomputable def sM_w3 : sS := (frL 244 ((5, .int 0) :: zLv) [scT 2, scT 1, tr 219], [], 20, foot zLw fL8, 0)
noncomputable def fM_w3 : sFs := [((6, .arg 59841, .op1 .i2l (.arg 59808)), true)]
noncomputable def fZ_w3 : sFs := []
theorem kb_w3 : srun ysN pF pdfl mt_all hlp kR (fun F s => sinstX kR F (sgM s) fM_w3 sM_w3 s) 300 ([] ++ (fZ_w3 ++ Fi6)) (hB_w3, [lA_w3], 19, foot zLw fL8, 0) = true := by decide +kernel
theorem kc_w3 : srun ysN pF pdfl mt_all hlp kR sBkP 300 (((0, .arg 19232, .int 0), true) :: (fM_w3 ++ Fi6)) (frL 245 ((5, .int 0) :: zLv) ([.arg 59808] ++ []), [], 20, zLw, 103275) = true := by decide +kernel
theorem wk_c_disturbc : wok c_disturbc = true := by decide +kernel
theorem kp_c_disturbc {X : pX} {t : Int} : KP X c_disturbc t := KP_of (by decide +kernel)
theorem zcp_3 {L : Nat} {xs : Nat → Int32} (hL : L ≤ 3073) : ZCP L xs 3 219 := by
  intro ρ hB hi IH hK hF hp
  have b1 := hB.1
  have b2 := hB.2.1
  by_cases r0 : (sd (pXs L xs) ρ (scT 1)).1 < (sd (pXs L xs) ρ (.int 0)).1
  · have g : fok (pXs L xs) ρ (((2, scT 1, .int 0), true) :: Fk 3) := ⟨hF.1, fcn (decide_eq_true r0) (hF.2)⟩
    exact lrow_ok hL hB hi IH hK g hp kr_3_0
  by_cases r1 : (sd (pXs L xs) ρ (.int 4)).1 < (sd (pXs L xs) ρ (scT 1)).1
  · have g : fok (pXs L xs) ρ (((2, .int 4, scT 1), true) :: ((2, scT 1, .int 0), false) :: Fk 3) := ⟨hF.1, fcn (decide_eq_true r1) (fcn (decide_eq_false r0) (hF.2))⟩
    exact lrow_ok hL hB hi IH hK g hp kr_3_1
  by_cases r2 : (sd (pXs L xs) ρ (scT 2)).1 < (sd (pXs L xs) ρ (.int 0)).1
  · have g : fok (pXs L xs) ρ (((2, scT 2, .int 0), true) :: ((2, .int 4, scT 1), false) :: ((2, scT 1, .int 0), false) :: Fk 3) := ⟨hF.1, fcn (decide_eq_true r2) (fcn (decide_eq_false r1) (fcn (decide_eq_false r0) (hF.2)))⟩
    exact lrow_ok hL hB hi IH hK g hp kr_3_2
  by_cases r3 : (sd (pXs L xs) ρ (.int 1000)).1 < (sd (pXs L xs) ρ (scT 2)).1
  · have g : fok (pXs L xs) ρ (((2, .int 1000, scT 2), true) :: ((2, scT 2, .int 0), false) :: ((2, .int 4, scT 1), false) :: ((2, scT 1, .int 0), false) :: Fk 3) := ⟨hF.1, fcn (decide_eq_true r3) (fcn (decide_eq_false r2) (fcn (decide_eq_false r1) (fcn (decide_eq_false r0) (hF.2))))⟩
    exact lrow_ok hL hB hi IH hK g hp kr_3_3
  have g : fok (pXs L xs) ρ (((2, .int 1000, scT 2), false) :: ((2, scT 2, .int 0), false) :: ((2, .int 4, scT 1), false) :: ((2, scT 1, .int 0), false) :: Fk 3) := ⟨hF.1, fcn (decide_eq_false r3) (fcn (decide_eq_false r2) (fcn (decide_eq_false r1) (fcn (decide_eq_false r0) (hF.2))))⟩
  refine crow_ok hK g ka_w3 ?_
  have ag : agr 59000 (rset [(60030, (sd (pXs L xs) ρ (scT 1)).1), (60032, (sd (pXs L xs) ρ (scT 2)).1)] ρ) ρ := rset_agr (fun p hp => by
    simp only [List.mem_cons, List.not_mem_nil, or_false] at hp
    rcases hp with rfl | rfl
    · show 59000 ≤ 60030; decide
    · show 59000 ≤ 60032; decide)
  have av : vok (pXs L xs) (rset [(60030, (sd (pXs L xs) ρ (scT 1)).1), (60032, (sd (pXs L xs) ρ (scT 2)).1)] ρ) := rset_vok (fun p hp r hr => by
    simp only [List.mem_cons, List.not_mem_nil, or_false] at hp
    rcases hp with rfl | rfl
    · rw [show vrng 60030 = some (0, 4) from rfl] at hr; cases hr; exact ⟨ge_i r0, le_i r1⟩
    · rw [show vrng 60032 = none from rfl] at hr; cases hr) (fun p hp => by
    simp only [List.mem_cons, List.not_mem_nil, or_false] at hp
    rcases hp with rfl | rfl
    · show (60030 : Nat) % 2 = 0; decide
    · show (60032 : Nat) % 2 = 0; decide) hF.1
  refine lgood (C := wideC c_disturbc) (t := 40 * (ρ.1 59744).toInt) (tq := 40 * (ρ.1 59744).toInt) (vt := [.arg 59808]) (FZ := fZ_w3) (nB := 300) (nC := 300) (SREL_w1 sT_disturbc wk_c_disturbc) rfl (by decide +kernel) (hQ_I rfl rfl (by decide +kernel) kp_c_disturbc) rfl rfl rfl (by decide +kernel) rfl rfl rfl (by decide +kernel) ⟨245, rfl⟩ rfl (fun w z => ⟨[], fM_w3, fun _ _ _ f hf => (by cases hf), kb_w3, kc_w3⟩) hL hB hi IH hF.1 (fun f hf => by cases hf) (by omega) ag (rset_kok hK) ⟨av, fcn (decide_eq_false r2) (fcn (decide_eq_false r3) ((fun f hf => by cases hf)))⟩ (fun c hc => by cases hc) (PT_ag ag hp) ?_ ?_
  · show [Value.ref 0, Value.int _, Value.int _] = [Value.ref 0, sv (pXs L xs) ρ (scT 1), sv (pXs L xs) ρ (scT 2)]
    rw [sv_int (t := scT 1) rfl, sv_int (t := scT 2) rfl]
    rfl
  · show [Value.ref 219, Value.int _, Value.int _] = [Value.ref 219, sv (pXs L xs) ρ (scT 1), sv (pXs L xs) ρ (scT 2)]
    rw [sv_int (t := scT 1) rfl, sv_int (t := scT 2) rfl]
    rfl
theorem kr_5_0 : lrow 327 600 (((2, scT 1, .int 0), true) :: Fk 5) = true := by decide +kernel
theorem kr_5_1 : lrow 327 600 (((2, .int 3, scT 1), true) :: ((2, scT 1, .int 0), false) :: Fk 5) = true := by decide +kernel
theorem kr_5_2 : lrow 327 600 (((2, scT 2, .int 0), true) :: ((2, .int 3, scT 1), false) :: ((2, scT 1, .int 0), false) :: Fk 5) = true := by decide +kernel
theorem kr_5_3 : lrow 327 600 (((2, .int 65535, scT 2), true) :: ((2, scT 2, .int 0), false) :: ((2, .int 3, scT 1), false) :: ((2, scT 1, .int 0), false) :: Fk 5) = true := by decide +kernel
noncomputable def hA_w5 : sF := frH 437 5 [(0, tr 0), (1, scT 1), (2, scT 2), (3, tr 348)] [scT 2, scT 1, tr 0, .int 0, tr 348]
noncomputable def lA_w5 : sF := frL 340 zLv []
noncomputable def sA_w5 : sS := (hA_w5, [lA_w5], 19, zLw, 103275)
theorem ka_w5 : crow 327 400 (((2, .int 65535, scT 2), false) :: ((2, scT 2, .int 0), false) :: ((2, .int 3, scT 1), false) :: ((2, scT 1, .int 0), false) :: Fk 5) sA_w5 = true := by decide +kernel
noncomputable def hB_w5 : sF := frH 437 6 [(0, tr 0), (1, scT 1), (2, scT 2), (3, tr 348)] ([.arg 59808] ++ [.int 0, tr 348])
noncomputable def sM_w5 : sS := (frL 352 ((5, .int 0) :: zLv) [scT 2, scT 1, tr 219], [], 20, foot zLw fL8, 0)
noncomputable def fM_w5 : sFs := [((6, .arg 59841, .op1 .i2l (.arg 59808)), true)]
noncomputable def fZ_w5 : sFs := []
theorem kb_w5 : srun ysN pF pdfl mt_all hlp kR (fun F s => sinstX kR F (sgM s) fM_w5 sM_w5 s) 300 ([] ++ (fZ_w5 ++ Fi6)) (hB_w5, [lA_w5], 19, foot zLw fL8, 0) = true := by decide +kernel
theorem kc_w5 : srun ysN pF pdfl mt_all hlp kR sBkP 300 (((0, .arg 19232, .int 0), true) :: (fM_w5 ++ Fi6)) (frL 353 ((5, .int 0) :: zLv) ([.arg 59808] ++ []), [], 20, zLw, 103275) = true := by decide +kernel
theorem wk_c_inputsc : wok c_inputsc = true := by decide +kernel
theorem kp_c_inputsc {X : pX} {t : Int} : KP X c_inputsc t := KP_of (by decide +kernel)
theorem zcp_5 {L : Nat} {xs : Nat → Int32} (hL : L ≤ 3073) : ZCP L xs 5 327 := by
  intro ρ hB hi IH hK hF hp
  have b1 := hB.1
  have b2 := hB.2.1
  by_cases r0 : (sd (pXs L xs) ρ (scT 1)).1 < (sd (pXs L xs) ρ (.int 0)).1
  · have g : fok (pXs L xs) ρ (((2, scT 1, .int 0), true) :: Fk 5) := ⟨hF.1, fcn (decide_eq_true r0) (hF.2)⟩
    exact lrow_ok hL hB hi IH hK g hp kr_5_0
  by_cases r1 : (sd (pXs L xs) ρ (.int 3)).1 < (sd (pXs L xs) ρ (scT 1)).1
  · have g : fok (pXs L xs) ρ (((2, .int 3, scT 1), true) :: ((2, scT 1, .int 0), false) :: Fk 5) := ⟨hF.1, fcn (decide_eq_true r1) (fcn (decide_eq_false r0) (hF.2))⟩
    exact lrow_ok hL hB hi IH hK g hp kr_5_1
  by_cases r2 : (sd (pXs L xs) ρ (scT 2)).1 < (sd (pXs L xs) ρ (.int 0)).1
  · have g : fok (pXs L xs) ρ (((2, scT 2, .int 0), true) :: ((2, .int 3, scT 1), false) :: ((2, scT 1, .int 0), false) :: Fk 5) := ⟨hF.1, fcn (decide_eq_true r2) (fcn (decide_eq_false r1) (fcn (decide_eq_false r0) (hF.2)))⟩
    exact lrow_ok hL hB hi IH hK g hp kr_5_2
  by_cases r3 : (sd (pXs L xs) ρ (.int 65535)).1 < (sd (pXs L xs) ρ (scT 2)).1
  · have g : fok (pXs L xs) ρ (((2, .int 65535, scT 2), true) :: ((2, scT 2, .int 0), false) :: ((2, .int 3, scT 1), false) :: ((2, scT 1, .int 0), false) :: Fk 5) := ⟨hF.1, fcn (decide_eq_true r3) (fcn (decide_eq_false r2) (fcn (decide_eq_false r1) (fcn (decide_eq_false r0) (hF.2))))⟩
    exact lrow_ok hL hB hi IH hK g hp kr_5_3
  have g : fok (pXs L xs) ρ (((2, .int 65535, scT 2), false) :: ((2, scT 2, .int 0), false) :: ((2, .int 3, scT 1), false) :: ((2, scT 1, .int 0), false) :: Fk 5) := ⟨hF.1, fcn (decide_eq_false r3) (fcn (decide_eq_false r2) (fcn (decide_eq_false r1) (fcn (decide_eq_false r0) (hF.2))))⟩
  refine crow_ok hK g ka_w5 ?_
  have ag : agr 59000 (rset [(60028, (sd (pXs L xs) ρ (scT 1)).1), (60016, (sd (pXs L xs) ρ (scT 2)).1)] ρ) ρ := rset_agr (fun p hp => by
    simp only [List.mem_cons, List.not_mem_nil, or_false] at hp
    rcases hp with rfl | rfl
    · show 59000 ≤ 60028; decide
    · show 59000 ≤ 60016; decide)
  have av : vok (pXs L xs) (rset [(60028, (sd (pXs L xs) ρ (scT 1)).1), (60016, (sd (pXs L xs) ρ (scT 2)).1)] ρ) := rset_vok (fun p hp r hr => by
    simp only [List.mem_cons, List.not_mem_nil, or_false] at hp
    rcases hp with rfl | rfl
    · rw [show vrng 60028 = some (0, 3) from rfl] at hr; cases hr; exact ⟨ge_i r0, le_i r1⟩
    · rw [show vrng 60016 = some (0, 65535) from rfl] at hr; cases hr; exact ⟨ge_i r2, le_i r3⟩) (fun p hp => by
    simp only [List.mem_cons, List.not_mem_nil, or_false] at hp
    rcases hp with rfl | rfl
    · show (60028 : Nat) % 2 = 0; decide
    · show (60016 : Nat) % 2 = 0; decide) hF.1
  refine lgood (C := wideC c_inputsc) (t := 40 * (ρ.1 59744).toInt) (tq := 40 * (ρ.1 59744).toInt) (vt := [.arg 59808]) (FZ := fZ_w5) (nB := 300) (nC := 300) (SREL_w1 sT_inputsc wk_c_inputsc) rfl (by decide +kernel) (hQ_I rfl rfl (by decide +kernel) kp_c_inputsc) rfl rfl rfl (by decide +kernel) rfl rfl rfl (by decide +kernel) ⟨353, rfl⟩ rfl (fun w z => ⟨[], fM_w5, fun _ _ _ f hf => (by cases hf), kb_w5, kc_w5⟩) hL hB hi IH hF.1 (fun f hf => by cases hf) (by omega) ag (rset_kok hK) ⟨av, (fun f hf => by cases hf)⟩ (fun c hc => by cases hc) (PT_ag ag hp) ?_ ?_
  · show [Value.ref 0, Value.int _, Value.int _] = [Value.ref 0, sv (pXs L xs) ρ (scT 1), sv (pXs L xs) ρ (scT 2)]
    rw [sv_int (t := scT 1) rfl, sv_int (t := scT 2) rfl]
    rfl
  · show [Value.ref 219, Value.int _, Value.int _] = [Value.ref 219, sv (pXs L xs) ρ (scT 1), sv (pXs L xs) ρ (scT 2)]
    rw [sv_int (t := scT 1) rfl, sv_int (t := scT 2) rfl]
    rfl
theorem kr_9_0 : lrow 536 600 (((2, scT 1, .int 0), true) :: Fk 9) = true := by decide +kernel
theorem kr_9_1 : lrow 536 600 (((2, .int 4, scT 1), true) :: ((2, scT 1, .int 0), false) :: Fk 9) = true := by decide +kernel
theorem kr_9_2 : lrow 536 600 (((2, scT 2, .int 0), true) :: ((2, .int 4, scT 1), false) :: ((2, scT 1, .int 0), false) :: Fk 9) = true := by decide +kernel
theorem kr_9_3 : lrow 536 600 (((2, .int 4, scT 2), true) :: ((2, scT 2, .int 0), false) :: ((2, .int 4, scT 1), false) :: ((2, scT 1, .int 0), false) :: Fk 9) = true := by decide +kernel
noncomputable def hA_w9 : sF := frH 441 5 [(0, tr 0), (1, scT 1), (2, scT 2), (3, tr 348)] [scT 2, scT 1, tr 0, .int 0, tr 348]
noncomputable def lA_w9 : sF := frL 549 zLv []
noncomputable def sA_w9 : sS := (hA_w9, [lA_w9], 19, zLw, 103275)
theorem ka_w9 : crow 536 400 (((2, .int 4, scT 2), false) :: ((2, scT 2, .int 0), false) :: ((2, .int 4, scT 1), false) :: ((2, scT 1, .int 0), false) :: Fk 9) sA_w9 = true := by decide +kernel
noncomputable def hB_w9 : sF := frH 441 6 [(0, tr 0), (1, scT 1), (2, scT 2), (3, tr 348)] ([.arg 59808] ++ [.int 0, tr 348])
noncomputable def sM_w9 : sS := (frL 561 ((5, .int 0) :: zLv) [scT 2, scT 1, tr 219], [], 20, foot zLw fL8, 0)
noncomputable def fM_w9 : sFs := [((6, .arg 59841, .op1 .i2l (.arg 59808)), true)]
noncomputable def fZ_w9 : sFs := []
theorem kb_w9 : srun ysN pF pdfl mt_all hlp kR (fun F s => sinstX kR F (sgM s) fM_w9 sM_w9 s) 300 ([] ++ (fZ_w9 ++ Fi6)) (hB_w9, [lA_w9], 19, foot zLw fL8, 0) = true := by decide +kernel
theorem kc_w9 : srun ysN pF pdfl mt_all hlp kR sBkP 300 (((0, .arg 19232, .int 0), true) :: (fM_w9 ++ Fi6)) (frL 562 ((5, .int 0) :: zLv) ([.arg 59808] ++ []), [], 20, zLw, 103275) = true := by decide +kernel
theorem wk_c_stationc : wok c_stationc = true := by decide +kernel
theorem kp_c_stationc {X : pX} {t : Int} : KP X c_stationc t := KP_of (by decide +kernel)
theorem zcp_9 {L : Nat} {xs : Nat → Int32} (hL : L ≤ 3073) : ZCP L xs 9 536 := by
  intro ρ hB hi IH hK hF hp
  have b1 := hB.1
  have b2 := hB.2.1
  by_cases r0 : (sd (pXs L xs) ρ (scT 1)).1 < (sd (pXs L xs) ρ (.int 0)).1
  · have g : fok (pXs L xs) ρ (((2, scT 1, .int 0), true) :: Fk 9) := ⟨hF.1, fcn (decide_eq_true r0) (hF.2)⟩
    exact lrow_ok hL hB hi IH hK g hp kr_9_0
  by_cases r1 : (sd (pXs L xs) ρ (.int 4)).1 < (sd (pXs L xs) ρ (scT 1)).1
  · have g : fok (pXs L xs) ρ (((2, .int 4, scT 1), true) :: ((2, scT 1, .int 0), false) :: Fk 9) := ⟨hF.1, fcn (decide_eq_true r1) (fcn (decide_eq_false r0) (hF.2))⟩
    exact lrow_ok hL hB hi IH hK g hp kr_9_1
  by_cases r2 : (sd (pXs L xs) ρ (scT 2)).1 < (sd (pXs L xs) ρ (.int 0)).1
  · have g : fok (pXs L xs) ρ (((2, scT 2, .int 0), true) :: ((2, .int 4, scT 1), false) :: ((2, scT 1, .int 0), false) :: Fk 9) := ⟨hF.1, fcn (decide_eq_true r2) (fcn (decide_eq_false r1) (fcn (decide_eq_false r0) (hF.2)))⟩
    exact lrow_ok hL hB hi IH hK g hp kr_9_2
  by_cases r3 : (sd (pXs L xs) ρ (.int 4)).1 < (sd (pXs L xs) ρ (scT 2)).1
  · have g : fok (pXs L xs) ρ (((2, .int 4, scT 2), true) :: ((2, scT 2, .int 0), false) :: ((2, .int 4, scT 1), false) :: ((2, scT 1, .int 0), false) :: Fk 9) := ⟨hF.1, fcn (decide_eq_true r3) (fcn (decide_eq_false r2) (fcn (decide_eq_false r1) (fcn (decide_eq_false r0) (hF.2))))⟩
    exact lrow_ok hL hB hi IH hK g hp kr_9_3
  have g : fok (pXs L xs) ρ (((2, .int 4, scT 2), false) :: ((2, scT 2, .int 0), false) :: ((2, .int 4, scT 1), false) :: ((2, scT 1, .int 0), false) :: Fk 9) := ⟨hF.1, fcn (decide_eq_false r3) (fcn (decide_eq_false r2) (fcn (decide_eq_false r1) (fcn (decide_eq_false r0) (hF.2))))⟩
  refine crow_ok hK g ka_w9 ?_
  have ag : agr 59000 (rset [(60030, (sd (pXs L xs) ρ (scT 1)).1), (60062, (sd (pXs L xs) ρ (scT 2)).1)] ρ) ρ := rset_agr (fun p hp => by
    simp only [List.mem_cons, List.not_mem_nil, or_false] at hp
    rcases hp with rfl | rfl
    · show 59000 ≤ 60030; decide
    · show 59000 ≤ 60062; decide)
  have av : vok (pXs L xs) (rset [(60030, (sd (pXs L xs) ρ (scT 1)).1), (60062, (sd (pXs L xs) ρ (scT 2)).1)] ρ) := rset_vok (fun p hp r hr => by
    simp only [List.mem_cons, List.not_mem_nil, or_false] at hp
    rcases hp with rfl | rfl
    · rw [show vrng 60030 = some (0, 4) from rfl] at hr; cases hr; exact ⟨ge_i r0, le_i r1⟩
    · rw [show vrng 60062 = some (0, 4) from rfl] at hr; cases hr; exact ⟨ge_i r2, le_i r3⟩) (fun p hp => by
    simp only [List.mem_cons, List.not_mem_nil, or_false] at hp
    rcases hp with rfl | rfl
    · show (60030 : Nat) % 2 = 0; decide
    · show (60062 : Nat) % 2 = 0; decide) hF.1
  refine lgood (C := wideC c_stationc) (t := 40 * (ρ.1 59744).toInt) (tq := 40 * (ρ.1 59744).toInt) (vt := [.arg 59808]) (FZ := fZ_w9) (nB := 300) (nC := 300) (SREL_w1 sT_stationc wk_c_stationc) rfl (by decide +kernel) (hQ_I rfl rfl (by decide +kernel) kp_c_stationc) rfl rfl rfl (by decide +kernel) rfl rfl rfl (by decide +kernel) ⟨562, rfl⟩ rfl (fun w z => ⟨[], fM_w9, fun _ _ _ f hf => (by cases hf), kb_w9, kc_w9⟩) hL hB hi IH hF.1 (fun f hf => by cases hf) (by omega) ag (rset_kok hK) ⟨av, (fun f hf => by cases hf)⟩ (fun c hc => by cases hc) (PT_ag ag hp) ?_ ?_
  · show [Value.ref 0, Value.int _, Value.int _] = [Value.ref 0, sv (pXs L xs) ρ (scT 1), sv (pXs L xs) ρ (scT 2)]
    rw [sv_int (t := scT 1) rfl, sv_int (t := scT 2) rfl]
    rfl
  · show [Value.ref 219, Value.int _, Value.int _] = [Value.ref 219, sv (pXs L xs) ρ (scT 1), sv (pXs L xs) ρ (scT 2)]
    rw [sv_int (t := scT 1) rfl, sv_int (t := scT 2) rfl]
    rfl
theorem kr_16_0 : lrow 883 600 (((2, scT 1, .int 0), true) :: Fk 16) = true := by decide +kernel
theorem kr_16_1 : lrow 883 600 (((2, .int 3, scT 1), true) :: ((2, scT 1, .int 0), false) :: Fk 16) = true := by decide +kernel
noncomputable def hA_w16 : sF := frH 448 4 [(0, tr 0), (1, scT 1), (2, tr 348)] [scT 1, tr 0, .int 0, tr 348]
noncomputable def lA_w16 : sF := frL 891 zLv []
noncomputable def sA_w16 : sS := (hA_w16, [lA_w16], 19, zLw, 103275)
theorem ka_w16 : crow 883 400 (((2, .int 3, scT 1), false) :: ((2, scT 1, .int 0), false) :: Fk 16) sA_w16 = true := by decide +kernel
noncomputable def hB_w16 : sF := frH 448 5 [(0, tr 0), (1, scT 1), (2, tr 348)] ([.arg 59808] ++ [.int 0, tr 348])
noncomputable def sM_w16 : sS := (frL 898 ((5, .int 0) :: zLv) [scT 1, tr 219], [], 20, foot zLw fL8, 0)
noncomputable def fM_w16 : sFs := [((6, .arg 59841, .op1 .i2l (.arg 59808)), true)]
noncomputable def fZ_w16 : sFs := []
theorem kb_w16 : srun ysN pF pdfl mt_all hlp kR (fun F s => sinstX kR F (sgM s) fM_w16 sM_w16 s) 300 ([] ++ (fZ_w16 ++ Fi6)) (hB_w16, [lA_w16], 19, foot zLw fL8, 0) = true := by decide +kernel
theorem kc_w16 : srun ysN pF pdfl mt_all hlp kR sBkP 300 (((0, .arg 19232, .int 0), true) :: (fM_w16 ++ Fi6)) (frL 899 ((5, .int 0) :: zLv) ([.arg 59808] ++ []), [], 20, zLw, 103275) = true := by decide +kernel
theorem wk_c_told : wok c_told = true := by decide +kernel
theorem kp_c_told {X : pX} {t : Int} : KP X c_told t := KP_of (by decide +kernel)
theorem zcp_16 {L : Nat} {xs : Nat → Int32} (hL : L ≤ 3073) : ZCP L xs 16 883 := by
  intro ρ hB hi IH hK hF hp
  have b1 := hB.1
  have b2 := hB.2.1
  by_cases r0 : (sd (pXs L xs) ρ (scT 1)).1 < (sd (pXs L xs) ρ (.int 0)).1
  · have g : fok (pXs L xs) ρ (((2, scT 1, .int 0), true) :: Fk 16) := ⟨hF.1, fcn (decide_eq_true r0) (hF.2)⟩
    exact lrow_ok hL hB hi IH hK g hp kr_16_0
  by_cases r1 : (sd (pXs L xs) ρ (.int 3)).1 < (sd (pXs L xs) ρ (scT 1)).1
  · have g : fok (pXs L xs) ρ (((2, .int 3, scT 1), true) :: ((2, scT 1, .int 0), false) :: Fk 16) := ⟨hF.1, fcn (decide_eq_true r1) (fcn (decide_eq_false r0) (hF.2))⟩
    exact lrow_ok hL hB hi IH hK g hp kr_16_1
  have g : fok (pXs L xs) ρ (((2, .int 3, scT 1), false) :: ((2, scT 1, .int 0), false) :: Fk 16) := ⟨hF.1, fcn (decide_eq_false r1) (fcn (decide_eq_false r0) (hF.2))⟩
  refine crow_ok hK g ka_w16 ?_
  have ag : agr 59000 (rset [(60028, (sd (pXs L xs) ρ (scT 1)).1)] ρ) ρ := rset_agr (fun p hp => by
    simp only [List.mem_cons, List.not_mem_nil, or_false] at hp
    rcases hp with rfl
    · show 59000 ≤ 60028; decide)
  have av : vok (pXs L xs) (rset [(60028, (sd (pXs L xs) ρ (scT 1)).1)] ρ) := rset_vok (fun p hp r hr => by
    simp only [List.mem_cons, List.not_mem_nil, or_false] at hp
    rcases hp with rfl
    · rw [show vrng 60028 = some (0, 3) from rfl] at hr; cases hr; exact ⟨ge_i r0, le_i r1⟩) (fun p hp => by
    simp only [List.mem_cons, List.not_mem_nil, or_false] at hp
    rcases hp with rfl
    · show (60028 : Nat) % 2 = 0; decide) hF.1
  refine lgood (C := wideC c_told) (t := 40 * (ρ.1 59744).toInt) (tq := 40 * (ρ.1 59744).toInt) (vt := [.arg 59808]) (FZ := fZ_w16) (nB := 300) (nC := 300) (SREL_w1 sT_told wk_c_told) rfl (by decide +kernel) (hQ_I rfl rfl (by decide +kernel) kp_c_told) rfl rfl rfl (by decide +kernel) rfl rfl rfl (by decide +kernel) ⟨899, rfl⟩ rfl (fun w z => ⟨[], fM_w16, fun _ _ _ f hf => (by cases hf), kb_w16, kc_w16⟩) hL hB hi IH hF.1 (fun f hf => by cases hf) (by omega) ag (rset_kok hK) ⟨av, (fun f hf => by cases hf)⟩ (fun c hc => by cases hc) (PT_ag ag hp) ?_ ?_
  · show [Value.ref 0, Value.int _] = [Value.ref 0, sv (pXs L xs) ρ (scT 1)]
    rw [sv_int (t := scT 1) rfl]
    rfl
  · show [Value.ref 219, Value.int _] = [Value.ref 219, sv (pXs L xs) ρ (scT 1)]
    rw [sv_int (t := scT 1) rfl]
    rfl
theorem kr_20_0 : lrow 1052 600 (((2, scT 1, .int 0), true) :: Fk 20) = true := by decide +kernel
theorem kr_20_1 : lrow 1052 600 (((2, .int 3, scT 1), true) :: ((2, scT 1, .int 0), false) :: Fk 20) = true := by decide +kernel
theorem kr_20_2 : lrow 1052 600 (((2, scT 2, .int 0), true) :: ((2, .int 3, scT 1), false) :: ((2, scT 1, .int 0), false) :: Fk 20) = true := by decide +kernel
theorem kr_20_3 : lrow 1052 600 (((2, .int 4, scT 2), true) :: ((2, scT 2, .int 0), false) :: ((2, .int 3, scT 1), false) :: ((2, scT 1, .int 0), false) :: Fk 20) = true := by decide +kernel
noncomputable def hA_w20 : sF := frH 451 5 [(0, tr 0), (1, scT 1), (2, scT 2), (3, tr 348)] [scT 2, scT 1, tr 0, .int 0, tr 348]
noncomputable def lA_w20 : sF := frL 1065 zLv []
noncomputable def sA_w20 : sS := (hA_w20, [lA_w20], 19, zLw, 103275)
theorem ka_w20 : crow 1052 400 (((2, .int 4, scT 2), false) :: ((2, scT 2, .int 0), false) :: ((2, .int 3, scT 1), false) :: ((2, scT 1, .int 0), false) :: Fk 20) sA_w20 = true := by decide +kernel
noncomputable def hB_w20 : sF := frH 451 6 [(0, tr 0), (1, scT 1), (2, scT 2), (3, tr 348)] ([.arg 59808] ++ [.int 0, tr 348])
noncomputable def sM_w20 : sS := (frL 1077 ((5, .int 0) :: zLv) [scT 2, scT 1, tr 219], [], 20, foot zLw fL8, 0)
noncomputable def fM_w20 : sFs := [((6, .arg 59841, .op1 .i2l (.arg 59808)), true)]
noncomputable def fZ_w20 : sFs := []
theorem kb_w20 : srun ysN pF pdfl mt_all hlp kR (fun F s => sinstX kR F (sgM s) fM_w20 sM_w20 s) 300 ([] ++ (fZ_w20 ++ Fi6)) (hB_w20, [lA_w20], 19, foot zLw fL8, 0) = true := by decide +kernel
theorem kc_w20 : srun ysN pF pdfl mt_all hlp kR sBkP 300 (((0, .arg 19232, .int 0), true) :: (fM_w20 ++ Fi6)) (frL 1078 ((5, .int 0) :: zLv) ([.arg 59808] ++ []), [], 20, zLw, 103275) = true := by decide +kernel
theorem wk_c_plannedc : wok c_plannedc = true := by decide +kernel
theorem kp_c_plannedc {X : pX} {t : Int} : KP X c_plannedc t := KP_of (by decide +kernel)
theorem zcp_20 {L : Nat} {xs : Nat → Int32} (hL : L ≤ 3073) : ZCP L xs 20 1052 := by
  intro ρ hB hi IH hK hF hp
  have b1 := hB.1
  have b2 := hB.2.1
  by_cases r0 : (sd (pXs L xs) ρ (scT 1)).1 < (sd (pXs L xs) ρ (.int 0)).1
  · have g : fok (pXs L xs) ρ (((2, scT 1, .int 0), true) :: Fk 20) := ⟨hF.1, fcn (decide_eq_true r0) (hF.2)⟩
    exact lrow_ok hL hB hi IH hK g hp kr_20_0
  by_cases r1 : (sd (pXs L xs) ρ (.int 3)).1 < (sd (pXs L xs) ρ (scT 1)).1
  · have g : fok (pXs L xs) ρ (((2, .int 3, scT 1), true) :: ((2, scT 1, .int 0), false) :: Fk 20) := ⟨hF.1, fcn (decide_eq_true r1) (fcn (decide_eq_false r0) (hF.2))⟩
    exact lrow_ok hL hB hi IH hK g hp kr_20_1
  by_cases r2 : (sd (pXs L xs) ρ (scT 2)).1 < (sd (pXs L xs) ρ (.int 0)).1
  · have g : fok (pXs L xs) ρ (((2, scT 2, .int 0), true) :: ((2, .int 3, scT 1), false) :: ((2, scT 1, .int 0), false) :: Fk 20) := ⟨hF.1, fcn (decide_eq_true r2) (fcn (decide_eq_false r1) (fcn (decide_eq_false r0) (hF.2)))⟩
    exact lrow_ok hL hB hi IH hK g hp kr_20_2
  by_cases r3 : (sd (pXs L xs) ρ (.int 4)).1 < (sd (pXs L xs) ρ (scT 2)).1
  · have g : fok (pXs L xs) ρ (((2, .int 4, scT 2), true) :: ((2, scT 2, .int 0), false) :: ((2, .int 3, scT 1), false) :: ((2, scT 1, .int 0), false) :: Fk 20) := ⟨hF.1, fcn (decide_eq_true r3) (fcn (decide_eq_false r2) (fcn (decide_eq_false r1) (fcn (decide_eq_false r0) (hF.2))))⟩
    exact lrow_ok hL hB hi IH hK g hp kr_20_3
  have g : fok (pXs L xs) ρ (((2, .int 4, scT 2), false) :: ((2, scT 2, .int 0), false) :: ((2, .int 3, scT 1), false) :: ((2, scT 1, .int 0), false) :: Fk 20) := ⟨hF.1, fcn (decide_eq_false r3) (fcn (decide_eq_false r2) (fcn (decide_eq_false r1) (fcn (decide_eq_false r0) (hF.2))))⟩
  refine crow_ok hK g ka_w20 ?_
  have ag : agr 59000 (rset [(60028, (sd (pXs L xs) ρ (scT 1)).1), (60030, (sd (pXs L xs) ρ (scT 2)).1)] ρ) ρ := rset_agr (fun p hp => by
    simp only [List.mem_cons, List.not_mem_nil, or_false] at hp
    rcases hp with rfl | rfl
    · show 59000 ≤ 60028; decide
    · show 59000 ≤ 60030; decide)
  have av : vok (pXs L xs) (rset [(60028, (sd (pXs L xs) ρ (scT 1)).1), (60030, (sd (pXs L xs) ρ (scT 2)).1)] ρ) := rset_vok (fun p hp r hr => by
    simp only [List.mem_cons, List.not_mem_nil, or_false] at hp
    rcases hp with rfl | rfl
    · rw [show vrng 60028 = some (0, 3) from rfl] at hr; cases hr; exact ⟨ge_i r0, le_i r1⟩
    · rw [show vrng 60030 = some (0, 4) from rfl] at hr; cases hr; exact ⟨ge_i r2, le_i r3⟩) (fun p hp => by
    simp only [List.mem_cons, List.not_mem_nil, or_false] at hp
    rcases hp with rfl | rfl
    · show (60028 : Nat) % 2 = 0; decide
    · show (60030 : Nat) % 2 = 0; decide) hF.1
  refine lgood (C := wideC c_plannedc) (t := 40 * (ρ.1 59744).toInt) (tq := 40 * (ρ.1 59744).toInt) (vt := [.arg 59808]) (FZ := fZ_w20) (nB := 300) (nC := 300) (SREL_w1 sT_plannedc wk_c_plannedc) rfl (by decide +kernel) (hQ_I rfl rfl (by decide +kernel) kp_c_plannedc) rfl rfl rfl (by decide +kernel) rfl rfl rfl (by decide +kernel) ⟨1078, rfl⟩ rfl (fun w z => ⟨[], fM_w20, fun _ _ _ f hf => (by cases hf), kb_w20, kc_w20⟩) hL hB hi IH hF.1 (fun f hf => by cases hf) (by omega) ag (rset_kok hK) ⟨av, (fun f hf => by cases hf)⟩ (fun c hc => by cases hc) (PT_ag ag hp) ?_ ?_
  · show [Value.ref 0, Value.int _, Value.int _] = [Value.ref 0, sv (pXs L xs) ρ (scT 1), sv (pXs L xs) ρ (scT 2)]
    rw [sv_int (t := scT 1) rfl, sv_int (t := scT 2) rfl]
    rfl
  · show [Value.ref 219, Value.int _, Value.int _] = [Value.ref 219, sv (pXs L xs) ρ (scT 1), sv (pXs L xs) ρ (scT 2)]
    rw [sv_int (t := scT 1) rfl, sv_int (t := scT 2) rfl]
    rfl
theorem kr_21_0 : lrow 1097 600 (((2, scT 1, .int 0), true) :: Fk 21) = true := by decide +kernel
theorem kr_21_1 : lrow 1097 600 (((2, .int 3, scT 1), true) :: ((2, scT 1, .int 0), false) :: Fk 21) = true := by decide +kernel
theorem kr_21_2 : lrow 1097 600 (((2, scT 2, .int 0), true) :: ((2, .int 3, scT 1), false) :: ((2, scT 1, .int 0), false) :: Fk 21) = true := by decide +kernel
theorem kr_21_3 : lrow 1097 600 (((2, .int 1, scT 2), true) :: ((2, scT 2, .int 0), false) :: ((2, .int 3, scT 1), false) :: ((2, scT 1, .int 0), false) :: Fk 21) = true := by decide +kernel
noncomputable def hA_w21 : sF := frH 452 5 [(0, tr 0), (1, scT 1), (2, scT 2), (3, tr 348)] [scT 2, scT 1, tr 0, .int 0, tr 348]
noncomputable def lA_w21 : sF := frL 1110 zLv []
noncomputable def sA_w21 : sS := (hA_w21, [lA_w21], 19, zLw, 103275)
theorem ka_w21 : crow 1097 400 (((2, .int 1, scT 2), false) :: ((2, scT 2, .int 0), false) :: ((2, .int 3, scT 1), false) :: ((2, scT 1, .int 0), false) :: Fk 21) sA_w21 = true := by decide +kernel
noncomputable def hB_w21 : sF := frH 452 6 [(0, tr 0), (1, scT 1), (2, scT 2), (3, tr 348)] ([.arg 59808] ++ [.int 0, tr 348])
noncomputable def sM_w21 : sS := (frL 1122 ((5, .int 0) :: zLv) [scT 2, scT 1, tr 219], [], 20, foot zLw fL8, 0)
noncomputable def fM_w21 : sFs := [((6, .arg 59841, .op1 .i2l (.arg 59808)), true)]
noncomputable def fZ_w21 : sFs := []
theorem kb_w21 : srun ysN pF pdfl mt_all hlp kR (fun F s => sinstX kR F (sgM s) fM_w21 sM_w21 s) 300 ([] ++ (fZ_w21 ++ Fi6)) (hB_w21, [lA_w21], 19, foot zLw fL8, 0) = true := by decide +kernel
theorem kc_w21 : srun ysN pF pdfl mt_all hlp kR sBkP 300 (((0, .arg 19232, .int 0), true) :: (fM_w21 ++ Fi6)) (frL 1123 ((5, .int 0) :: zLv) ([.arg 59808] ++ []), [], 20, zLw, 103275) = true := by decide +kernel
theorem wk_c_heardc : wok c_heardc = true := by decide +kernel
theorem kp_c_heardc {X : pX} {t : Int} : KP X c_heardc t := KP_of (by decide +kernel)
theorem zcp_21 {L : Nat} {xs : Nat → Int32} (hL : L ≤ 3073) : ZCP L xs 21 1097 := by
  intro ρ hB hi IH hK hF hp
  have b1 := hB.1
  have b2 := hB.2.1
  by_cases r0 : (sd (pXs L xs) ρ (scT 1)).1 < (sd (pXs L xs) ρ (.int 0)).1
  · have g : fok (pXs L xs) ρ (((2, scT 1, .int 0), true) :: Fk 21) := ⟨hF.1, fcn (decide_eq_true r0) (hF.2)⟩
    exact lrow_ok hL hB hi IH hK g hp kr_21_0
  by_cases r1 : (sd (pXs L xs) ρ (.int 3)).1 < (sd (pXs L xs) ρ (scT 1)).1
  · have g : fok (pXs L xs) ρ (((2, .int 3, scT 1), true) :: ((2, scT 1, .int 0), false) :: Fk 21) := ⟨hF.1, fcn (decide_eq_true r1) (fcn (decide_eq_false r0) (hF.2))⟩
    exact lrow_ok hL hB hi IH hK g hp kr_21_1
  by_cases r2 : (sd (pXs L xs) ρ (scT 2)).1 < (sd (pXs L xs) ρ (.int 0)).1
  · have g : fok (pXs L xs) ρ (((2, scT 2, .int 0), true) :: ((2, .int 3, scT 1), false) :: ((2, scT 1, .int 0), false) :: Fk 21) := ⟨hF.1, fcn (decide_eq_true r2) (fcn (decide_eq_false r1) (fcn (decide_eq_false r0) (hF.2)))⟩
    exact lrow_ok hL hB hi IH hK g hp kr_21_2
  by_cases r3 : (sd (pXs L xs) ρ (.int 1)).1 < (sd (pXs L xs) ρ (scT 2)).1
  · have g : fok (pXs L xs) ρ (((2, .int 1, scT 2), true) :: ((2, scT 2, .int 0), false) :: ((2, .int 3, scT 1), false) :: ((2, scT 1, .int 0), false) :: Fk 21) := ⟨hF.1, fcn (decide_eq_true r3) (fcn (decide_eq_false r2) (fcn (decide_eq_false r1) (fcn (decide_eq_false r0) (hF.2))))⟩
    exact lrow_ok hL hB hi IH hK g hp kr_21_3
  have g : fok (pXs L xs) ρ (((2, .int 1, scT 2), false) :: ((2, scT 2, .int 0), false) :: ((2, .int 3, scT 1), false) :: ((2, scT 1, .int 0), false) :: Fk 21) := ⟨hF.1, fcn (decide_eq_false r3) (fcn (decide_eq_false r2) (fcn (decide_eq_false r1) (fcn (decide_eq_false r0) (hF.2))))⟩
  refine crow_ok hK g ka_w21 ?_
  have ag : agr 59000 (rset [(60028, (sd (pXs L xs) ρ (scT 1)).1), (60002, (sd (pXs L xs) ρ (scT 2)).1)] ρ) ρ := rset_agr (fun p hp => by
    simp only [List.mem_cons, List.not_mem_nil, or_false] at hp
    rcases hp with rfl | rfl
    · show 59000 ≤ 60028; decide
    · show 59000 ≤ 60002; decide)
  have av : vok (pXs L xs) (rset [(60028, (sd (pXs L xs) ρ (scT 1)).1), (60002, (sd (pXs L xs) ρ (scT 2)).1)] ρ) := rset_vok (fun p hp r hr => by
    simp only [List.mem_cons, List.not_mem_nil, or_false] at hp
    rcases hp with rfl | rfl
    · rw [show vrng 60028 = some (0, 3) from rfl] at hr; cases hr; exact ⟨ge_i r0, le_i r1⟩
    · rw [show vrng 60002 = some (0, 1) from rfl] at hr; cases hr; exact ⟨ge_i r2, le_i r3⟩) (fun p hp => by
    simp only [List.mem_cons, List.not_mem_nil, or_false] at hp
    rcases hp with rfl | rfl
    · show (60028 : Nat) % 2 = 0; decide
    · show (60002 : Nat) % 2 = 0; decide) hF.1
  refine lgood (C := wideC c_heardc) (t := 40 * (ρ.1 59744).toInt) (tq := 40 * (ρ.1 59744).toInt) (vt := [.arg 59808]) (FZ := fZ_w21) (nB := 300) (nC := 300) (SREL_w1 sT_heardc wk_c_heardc) rfl (by decide +kernel) (hQ_I rfl rfl (by decide +kernel) kp_c_heardc) rfl rfl rfl (by decide +kernel) rfl rfl rfl (by decide +kernel) ⟨1123, rfl⟩ rfl (fun w z => ⟨[], fM_w21, fun _ _ _ f hf => (by cases hf), kb_w21, kc_w21⟩) hL hB hi IH hF.1 (fun f hf => by cases hf) (by omega) ag (rset_kok hK) ⟨av, (fun f hf => by cases hf)⟩ (fun c hc => by cases hc) (PT_ag ag hp) ?_ ?_
  · show [Value.ref 0, Value.int _, Value.int _] = [Value.ref 0, sv (pXs L xs) ρ (scT 1), sv (pXs L xs) ρ (scT 2)]
    rw [sv_int (t := scT 1) rfl, sv_int (t := scT 2) rfl]
    rfl
  · show [Value.ref 219, Value.int _, Value.int _] = [Value.ref 219, sv (pXs L xs) ρ (scT 1), sv (pXs L xs) ρ (scT 2)]
    rw [sv_int (t := scT 1) rfl, sv_int (t := scT 2) rfl]
    rfl
theorem kr_23_0 : lrow 1186 600 (((2, scT 1, .int 0), true) :: Fk 23) = true := by decide +kernel
theorem kr_23_1 : lrow 1186 600 (((2, .int 3, scT 1), true) :: ((2, scT 1, .int 0), false) :: Fk 23) = true := by decide +kernel
noncomputable def hA_w23 : sF := frH 454 4 [(0, tr 0), (1, scT 1), (2, tr 348)] [scT 1, tr 0, .int 0, tr 348]
noncomputable def lA_w23 : sF := frL 1194 zLv []
noncomputable def sA_w23 : sS := (hA_w23, [lA_w23], 19, zLw, 103275)
theorem ka_w23 : crow 1186 400 (((2, .int 3, scT 1), false) :: ((2, scT 1, .int 0), false) :: Fk 23) sA_w23 = true := by decide +kernel
noncomputable def hB_w23 : sF := frH 454 5 [(0, tr 0), (1, scT 1), (2, tr 348)] ([.arg 59808] ++ [.int 0, tr 348])
noncomputable def sM_w23 : sS := (frL 1201 ((5, .int 0) :: zLv) [scT 1, tr 219], [], 20, foot zLw fL8, 0)
noncomputable def fM_w23 : sFs := [((6, .arg 59841, .op1 .i2l (.arg 59808)), true)]
noncomputable def fZ_w23 : sFs := []
theorem kb_w23 : srun ysN pF pdfl mt_all hlp kR (fun F s => sinstX kR F (sgM s) fM_w23 sM_w23 s) 300 ([] ++ (fZ_w23 ++ Fi6)) (hB_w23, [lA_w23], 19, foot zLw fL8, 0) = true := by decide +kernel
theorem kc_w23 : srun ysN pF pdfl mt_all hlp kR sBkP 300 (((0, .arg 19232, .int 0), true) :: (fM_w23 ++ Fi6)) (frL 1202 ((5, .int 0) :: zLv) ([.arg 59808] ++ []), [], 20, zLw, 103275) = true := by decide +kernel
theorem wk_c_countc : wok c_countc = true := by decide +kernel
theorem kp_c_countc {X : pX} {t : Int} : KP X c_countc t := KP_of (by decide +kernel)
theorem zcp_23 {L : Nat} {xs : Nat → Int32} (hL : L ≤ 3073) : ZCP L xs 23 1186 := by
  intro ρ hB hi IH hK hF hp
  have b1 := hB.1
  have b2 := hB.2.1
  by_cases r0 : (sd (pXs L xs) ρ (scT 1)).1 < (sd (pXs L xs) ρ (.int 0)).1
  · have g : fok (pXs L xs) ρ (((2, scT 1, .int 0), true) :: Fk 23) := ⟨hF.1, fcn (decide_eq_true r0) (hF.2)⟩
    exact lrow_ok hL hB hi IH hK g hp kr_23_0
  by_cases r1 : (sd (pXs L xs) ρ (.int 3)).1 < (sd (pXs L xs) ρ (scT 1)).1
  · have g : fok (pXs L xs) ρ (((2, .int 3, scT 1), true) :: ((2, scT 1, .int 0), false) :: Fk 23) := ⟨hF.1, fcn (decide_eq_true r1) (fcn (decide_eq_false r0) (hF.2))⟩
    exact lrow_ok hL hB hi IH hK g hp kr_23_1
  have g : fok (pXs L xs) ρ (((2, .int 3, scT 1), false) :: ((2, scT 1, .int 0), false) :: Fk 23) := ⟨hF.1, fcn (decide_eq_false r1) (fcn (decide_eq_false r0) (hF.2))⟩
  refine crow_ok hK g ka_w23 ?_
  have ag : agr 59000 (rset [(60028, (sd (pXs L xs) ρ (scT 1)).1)] ρ) ρ := rset_agr (fun p hp => by
    simp only [List.mem_cons, List.not_mem_nil, or_false] at hp
    rcases hp with rfl
    · show 59000 ≤ 60028; decide)
  have av : vok (pXs L xs) (rset [(60028, (sd (pXs L xs) ρ (scT 1)).1)] ρ) := rset_vok (fun p hp r hr => by
    simp only [List.mem_cons, List.not_mem_nil, or_false] at hp
    rcases hp with rfl
    · rw [show vrng 60028 = some (0, 3) from rfl] at hr; cases hr; exact ⟨ge_i r0, le_i r1⟩) (fun p hp => by
    simp only [List.mem_cons, List.not_mem_nil, or_false] at hp
    rcases hp with rfl
    · show (60028 : Nat) % 2 = 0; decide) hF.1
  refine lgood (C := wideC c_countc) (t := 40 * (ρ.1 59744).toInt) (tq := 40 * (ρ.1 59744).toInt) (vt := [.arg 59808]) (FZ := fZ_w23) (nB := 300) (nC := 300) (SREL_w1 sT_countc wk_c_countc) rfl (by decide +kernel) (hQ_I rfl rfl (by decide +kernel) kp_c_countc) rfl rfl rfl (by decide +kernel) rfl rfl rfl (by decide +kernel) ⟨1202, rfl⟩ rfl (fun w z => ⟨[], fM_w23, fun _ _ _ f hf => (by cases hf), kb_w23, kc_w23⟩) hL hB hi IH hF.1 (fun f hf => by cases hf) (by omega) ag (rset_kok hK) ⟨av, (fun f hf => by cases hf)⟩ (fun c hc => by cases hc) (PT_ag ag hp) ?_ ?_
  · show [Value.ref 0, Value.int _] = [Value.ref 0, sv (pXs L xs) ρ (scT 1)]
    rw [sv_int (t := scT 1) rfl]
    rfl
  · show [Value.ref 219, Value.int _] = [Value.ref 219, sv (pXs L xs) ρ (scT 1)]
    rw [sv_int (t := scT 1) rfl]
    rfl
