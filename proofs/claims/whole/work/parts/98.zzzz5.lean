set_option maxRecDepth 20000
/-! ===== the law: cases by contracts ===== -/
theorem kr_19_0 : lrow 977 600 (((2, scT 1, .int 0), true) :: Fk 19) = true := by decide +kernel
theorem kr_19_1 : lrow 977 600 (((2, .int 3, scT 1), true) :: ((2, scT 1, .int 0), false) :: Fk 19) = true := by decide +kernel
theorem kr_19_2 : lrow 977 600 (((2, scT 2, .int 0), true) :: ((2, .int 3, scT 1), false) :: ((2, scT 1, .int 0), false) :: Fk 19) = true := by decide +kernel
theorem kr_19_3 : lrow 977 600 (((2, .int 65535, scT 2), true) :: ((2, scT 2, .int 0), false) :: ((2, .int 3, scT 1), false) :: ((2, scT 1, .int 0), false) :: Fk 19) = true := by decide +kernel
theorem kr_19_4 : lrow 977 600 (((2, scT 3, .int 0), true) :: ((2, .int 65535, scT 2), false) :: ((2, scT 2, .int 0), false) :: ((2, .int 3, scT 1), false) :: ((2, scT 1, .int 0), false) :: Fk 19) = true := by decide +kernel
theorem kr_19_5 : lrow 977 600 (((2, .int 255, scT 3), true) :: ((2, scT 3, .int 0), false) :: ((2, .int 65535, scT 2), false) :: ((2, scT 2, .int 0), false) :: ((2, .int 3, scT 1), false) :: ((2, scT 1, .int 0), false) :: Fk 19) = true := by decide +kernel
theorem kr_19_z : lrow 977 600 (((0, scT 5, .int 4), false) :: ((0, scT 5, .int 2), false) :: ((0, scT 5, .int 1), false) :: ((2, .int 255, scT 3), false) :: ((2, scT 3, .int 0), false) :: ((2, .int 65535, scT 2), false) :: ((2, scT 2, .int 0), false) :: ((2, .int 3, scT 1), false) :: ((2, scT 1, .int 0), false) :: Fk 19) = true := by decide +kernel
theorem kr_19_0a : lrow 977 600 (((0, .arg 18496, .int 0), true) :: ((0, scT 1, .int 0), true) :: ((2, .int 255, scT 3), false) :: ((2, scT 3, .int 0), false) :: ((2, .int 65535, scT 2), false) :: ((2, scT 2, .int 0), false) :: ((2, .int 3, scT 1), false) :: ((2, scT 1, .int 0), false) :: Fk 19) = true := by decide +kernel
theorem kr_19_0b : lrow 977 600 (((0, .arg 18496, .int 3), true) :: ((0, .arg 18496, .int 0), false) :: ((0, scT 1, .int 0), true) :: ((2, .int 255, scT 3), false) :: ((2, scT 3, .int 0), false) :: ((2, .int 65535, scT 2), false) :: ((2, scT 2, .int 0), false) :: ((2, .int 3, scT 1), false) :: ((2, scT 1, .int 0), false) :: Fk 19) = true := by decide +kernel
theorem kr_19_0c : lrow 977 600 (((2, .arg 1288, .int 16), false) :: ((0, .arg 18496, .int 3), false) :: ((0, .arg 18496, .int 0), false) :: ((0, scT 1, .int 0), true) :: ((2, .int 255, scT 3), false) :: ((2, scT 3, .int 0), false) :: ((2, .int 65535, scT 2), false) :: ((2, scT 2, .int 0), false) :: ((2, .int 3, scT 1), false) :: ((2, scT 1, .int 0), false) :: Fk 19) = true := by decide +kernel
theorem wk_c_set0_1 : wok c_set0_1 = true := by decide +kernel
theorem kp_c_set0_1 {X : pX} {t : Int} : KP X c_set0_1 t := KP_G (0, .int 0, .int 1) (fun _ _ _ _ => decide_eq_false (show ¬ (0 : Int32) = 1 by decide)) (by decide +kernel)
theorem wk_c_set0_2 : wok c_set0_2 = true := by decide +kernel
theorem kp_c_set0_2 {X : pX} {t : Int} : KP X c_set0_2 t := KP_G (0, .int 0, .int 1) (fun _ _ _ _ => decide_eq_false (show ¬ (0 : Int32) = 1 by decide)) (by decide +kernel)
theorem wk_c_set0_4 : wok c_set0_4 = true := by decide +kernel
theorem kp_c_set0_4 {X : pX} {t : Int} : KP X c_set0_4 t := KP_G (0, .int 0, .int 1) (fun _ _ _ _ => decide_eq_false (show ¬ (0 : Int32) = 1 by decide)) (by decide +kernel)
theorem kr_19_1a : lrow 977 600 (((0, .arg 18528, .int 0), true) :: ((0, scT 1, .int 1), true) :: ((2, .int 255, scT 3), false) :: ((2, scT 3, .int 0), false) :: ((2, .int 65535, scT 2), false) :: ((2, scT 2, .int 0), false) :: ((2, .int 3, scT 1), false) :: ((2, scT 1, .int 0), false) :: Fk 19) = true := by decide +kernel
theorem kr_19_1b : lrow 977 600 (((0, .arg 18528, .int 3), true) :: ((0, .arg 18528, .int 0), false) :: ((0, scT 1, .int 1), true) :: ((2, .int 255, scT 3), false) :: ((2, scT 3, .int 0), false) :: ((2, .int 65535, scT 2), false) :: ((2, scT 2, .int 0), false) :: ((2, .int 3, scT 1), false) :: ((2, scT 1, .int 0), false) :: Fk 19) = true := by decide +kernel
theorem kr_19_1c : lrow 977 600 (((2, .arg 1320, .int 16), false) :: ((0, .arg 18528, .int 3), false) :: ((0, .arg 18528, .int 0), false) :: ((0, scT 1, .int 1), true) :: ((2, .int 255, scT 3), false) :: ((2, scT 3, .int 0), false) :: ((2, .int 65535, scT 2), false) :: ((2, scT 2, .int 0), false) :: ((2, .int 3, scT 1), false) :: ((2, scT 1, .int 0), false) :: Fk 19) = true := by decide +kernel
theorem wk_c_set1_1 : wok c_set1_1 = true := by decide +kernel
theorem kp_c_set1_1 {X : pX} {t : Int} : KP X c_set1_1 t := KP_G (0, .int 0, .int 1) (fun _ _ _ _ => decide_eq_false (show ¬ (0 : Int32) = 1 by decide)) (by decide +kernel)
theorem wk_c_set1_2 : wok c_set1_2 = true := by decide +kernel
theorem kp_c_set1_2 {X : pX} {t : Int} : KP X c_set1_2 t := KP_G (0, .int 0, .int 1) (fun _ _ _ _ => decide_eq_false (show ¬ (0 : Int32) = 1 by decide)) (by decide +kernel)
theorem wk_c_set1_4 : wok c_set1_4 = true := by decide +kernel
theorem kp_c_set1_4 {X : pX} {t : Int} : KP X c_set1_4 t := KP_G (0, .int 0, .int 1) (fun _ _ _ _ => decide_eq_false (show ¬ (0 : Int32) = 1 by decide)) (by decide +kernel)
theorem kr_19_2a : lrow 977 600 (((0, .arg 18560, .int 0), true) :: ((0, scT 1, .int 2), true) :: ((2, .int 255, scT 3), false) :: ((2, scT 3, .int 0), false) :: ((2, .int 65535, scT 2), false) :: ((2, scT 2, .int 0), false) :: ((2, .int 3, scT 1), false) :: ((2, scT 1, .int 0), false) :: Fk 19) = true := by decide +kernel
theorem kr_19_2b : lrow 977 600 (((0, .arg 18560, .int 3), true) :: ((0, .arg 18560, .int 0), false) :: ((0, scT 1, .int 2), true) :: ((2, .int 255, scT 3), false) :: ((2, scT 3, .int 0), false) :: ((2, .int 65535, scT 2), false) :: ((2, scT 2, .int 0), false) :: ((2, .int 3, scT 1), false) :: ((2, scT 1, .int 0), false) :: Fk 19) = true := by decide +kernel
theorem kr_19_2c : lrow 977 600 (((2, .arg 1352, .int 16), false) :: ((0, .arg 18560, .int 3), false) :: ((0, .arg 18560, .int 0), false) :: ((0, scT 1, .int 2), true) :: ((2, .int 255, scT 3), false) :: ((2, scT 3, .int 0), false) :: ((2, .int 65535, scT 2), false) :: ((2, scT 2, .int 0), false) :: ((2, .int 3, scT 1), false) :: ((2, scT 1, .int 0), false) :: Fk 19) = true := by decide +kernel
theorem wk_c_set2_1 : wok c_set2_1 = true := by decide +kernel
theorem kp_c_set2_1 {X : pX} {t : Int} : KP X c_set2_1 t := KP_G (0, .int 0, .int 1) (fun _ _ _ _ => decide_eq_false (show ¬ (0 : Int32) = 1 by decide)) (by decide +kernel)
theorem wk_c_set2_2 : wok c_set2_2 = true := by decide +kernel
theorem kp_c_set2_2 {X : pX} {t : Int} : KP X c_set2_2 t := KP_G (0, .int 0, .int 1) (fun _ _ _ _ => decide_eq_false (show ¬ (0 : Int32) = 1 by decide)) (by decide +kernel)
theorem wk_c_set2_4 : wok c_set2_4 = true := by decide +kernel
theorem kp_c_set2_4 {X : pX} {t : Int} : KP X c_set2_4 t := KP_G (0, .int 0, .int 1) (fun _ _ _ _ => decide_eq_false (show ¬ (0 : Int32) = 1 by decide)) (by decide +kernel)
theorem kr_19_3a : lrow 977 600 (((0, .arg 18592, .int 0), true) :: ((0, scT 1, .int 3), true) :: ((2, .int 255, scT 3), false) :: ((2, scT 3, .int 0), false) :: ((2, .int 65535, scT 2), false) :: ((2, scT 2, .int 0), false) :: ((2, .int 3, scT 1), false) :: ((2, scT 1, .int 0), false) :: Fk 19) = true := by decide +kernel
theorem kr_19_3b : lrow 977 600 (((0, .arg 18592, .int 3), true) :: ((0, .arg 18592, .int 0), false) :: ((0, scT 1, .int 3), true) :: ((2, .int 255, scT 3), false) :: ((2, scT 3, .int 0), false) :: ((2, .int 65535, scT 2), false) :: ((2, scT 2, .int 0), false) :: ((2, .int 3, scT 1), false) :: ((2, scT 1, .int 0), false) :: Fk 19) = true := by decide +kernel
theorem kr_19_3c : lrow 977 600 (((2, .arg 1384, .int 16), false) :: ((0, .arg 18592, .int 3), false) :: ((0, .arg 18592, .int 0), false) :: ((0, scT 1, .int 3), true) :: ((2, .int 255, scT 3), false) :: ((2, scT 3, .int 0), false) :: ((2, .int 65535, scT 2), false) :: ((2, scT 2, .int 0), false) :: ((2, .int 3, scT 1), false) :: ((2, scT 1, .int 0), false) :: Fk 19) = true := by decide +kernel
theorem wk_c_set3_1 : wok c_set3_1 = true := by decide +kernel
theorem kp_c_set3_1 {X : pX} {t : Int} : KP X c_set3_1 t := KP_G (0, .int 0, .int 1) (fun _ _ _ _ => decide_eq_false (show ¬ (0 : Int32) = 1 by decide)) (by decide +kernel)
theorem wk_c_set3_2 : wok c_set3_2 = true := by decide +kernel
theorem kp_c_set3_2 {X : pX} {t : Int} : KP X c_set3_2 t := KP_G (0, .int 0, .int 1) (fun _ _ _ _ => decide_eq_false (show ¬ (0 : Int32) = 1 by decide)) (by decide +kernel)
theorem wk_c_set3_4 : wok c_set3_4 = true := by decide +kernel
theorem kp_c_set3_4 {X : pX} {t : Int} : KP X c_set3_4 t := KP_G (0, .int 0, .int 1) (fun _ _ _ _ => decide_eq_false (show ¬ (0 : Int32) = 1 by decide)) (by decide +kernel)
noncomputable def hA_w19 : sF := frH 450 8 [(0, tr 0), (1, scT 1), (2, scT 2), (3, scT 3), (4, scT 4), (5, scT 5), (6, tr 348)] [scT 5, scT 4, scT 3, scT 2, scT 1, tr 0, .int 0, tr 348]
noncomputable def lA_w19 : sF := frL 1005 zLv []
noncomputable def sA_w19 : sS := (hA_w19, [lA_w19], 19, zLw, 103275)
theorem ka_w19_0_1 : crow 977 400 (((2, .arg 1288, .int 16), true) :: ((0, .arg 18496, .int 3), false) :: ((0, .arg 18496, .int 0), false) :: ((0, scT 1, .int 0), true) :: ((0, scT 5, .int 1), true) :: ((2, .int 255, scT 3), false) :: ((2, scT 3, .int 0), false) :: ((2, .int 65535, scT 2), false) :: ((2, scT 2, .int 0), false) :: ((2, .int 3, scT 1), false) :: ((2, scT 1, .int 0), false) :: Fk 19) sA_w19 = true := by decide +kernel
theorem ka_w19_0_2 : crow 977 400 (((2, .arg 1288, .int 16), true) :: ((0, .arg 18496, .int 3), false) :: ((0, .arg 18496, .int 0), false) :: ((0, scT 1, .int 0), true) :: ((0, scT 5, .int 2), true) :: ((2, .int 255, scT 3), false) :: ((2, scT 3, .int 0), false) :: ((2, .int 65535, scT 2), false) :: ((2, scT 2, .int 0), false) :: ((2, .int 3, scT 1), false) :: ((2, scT 1, .int 0), false) :: Fk 19) sA_w19 = true := by decide +kernel
theorem ka_w19_0_4 : crow 977 400 (((2, .arg 1288, .int 16), true) :: ((0, .arg 18496, .int 3), false) :: ((0, .arg 18496, .int 0), false) :: ((0, scT 1, .int 0), true) :: ((0, scT 5, .int 4), true) :: ((2, .int 255, scT 3), false) :: ((2, scT 3, .int 0), false) :: ((2, .int 65535, scT 2), false) :: ((2, scT 2, .int 0), false) :: ((2, .int 3, scT 1), false) :: ((2, scT 1, .int 0), false) :: Fk 19) sA_w19 = true := by decide +kernel
theorem ka_w19_1_1 : crow 977 400 (((2, .arg 1320, .int 16), true) :: ((0, .arg 18528, .int 3), false) :: ((0, .arg 18528, .int 0), false) :: ((0, scT 1, .int 1), true) :: ((0, scT 5, .int 1), true) :: ((2, .int 255, scT 3), false) :: ((2, scT 3, .int 0), false) :: ((2, .int 65535, scT 2), false) :: ((2, scT 2, .int 0), false) :: ((2, .int 3, scT 1), false) :: ((2, scT 1, .int 0), false) :: Fk 19) sA_w19 = true := by decide +kernel
theorem ka_w19_1_2 : crow 977 400 (((2, .arg 1320, .int 16), true) :: ((0, .arg 18528, .int 3), false) :: ((0, .arg 18528, .int 0), false) :: ((0, scT 1, .int 1), true) :: ((0, scT 5, .int 2), true) :: ((2, .int 255, scT 3), false) :: ((2, scT 3, .int 0), false) :: ((2, .int 65535, scT 2), false) :: ((2, scT 2, .int 0), false) :: ((2, .int 3, scT 1), false) :: ((2, scT 1, .int 0), false) :: Fk 19) sA_w19 = true := by decide +kernel
theorem ka_w19_1_4 : crow 977 400 (((2, .arg 1320, .int 16), true) :: ((0, .arg 18528, .int 3), false) :: ((0, .arg 18528, .int 0), false) :: ((0, scT 1, .int 1), true) :: ((0, scT 5, .int 4), true) :: ((2, .int 255, scT 3), false) :: ((2, scT 3, .int 0), false) :: ((2, .int 65535, scT 2), false) :: ((2, scT 2, .int 0), false) :: ((2, .int 3, scT 1), false) :: ((2, scT 1, .int 0), false) :: Fk 19) sA_w19 = true := by decide +kernel
theorem ka_w19_2_1 : crow 977 400 (((2, .arg 1352, .int 16), true) :: ((0, .arg 18560, .int 3), false) :: ((0, .arg 18560, .int 0), false) :: ((0, scT 1, .int 2), true) :: ((0, scT 5, .int 1), true) :: ((2, .int 255, scT 3), false) :: ((2, scT 3, .int 0), false) :: ((2, .int 65535, scT 2), false) :: ((2, scT 2, .int 0), false) :: ((2, .int 3, scT 1), false) :: ((2, scT 1, .int 0), false) :: Fk 19) sA_w19 = true := by decide +kernel
theorem ka_w19_2_2 : crow 977 400 (((2, .arg 1352, .int 16), true) :: ((0, .arg 18560, .int 3), false) :: ((0, .arg 18560, .int 0), false) :: ((0, scT 1, .int 2), true) :: ((0, scT 5, .int 2), true) :: ((2, .int 255, scT 3), false) :: ((2, scT 3, .int 0), false) :: ((2, .int 65535, scT 2), false) :: ((2, scT 2, .int 0), false) :: ((2, .int 3, scT 1), false) :: ((2, scT 1, .int 0), false) :: Fk 19) sA_w19 = true := by decide +kernel
theorem ka_w19_2_4 : crow 977 400 (((2, .arg 1352, .int 16), true) :: ((0, .arg 18560, .int 3), false) :: ((0, .arg 18560, .int 0), false) :: ((0, scT 1, .int 2), true) :: ((0, scT 5, .int 4), true) :: ((2, .int 255, scT 3), false) :: ((2, scT 3, .int 0), false) :: ((2, .int 65535, scT 2), false) :: ((2, scT 2, .int 0), false) :: ((2, .int 3, scT 1), false) :: ((2, scT 1, .int 0), false) :: Fk 19) sA_w19 = true := by decide +kernel
theorem ka_w19_3_1 : crow 977 400 (((2, .arg 1384, .int 16), true) :: ((0, .arg 18592, .int 3), false) :: ((0, .arg 18592, .int 0), false) :: ((0, scT 1, .int 3), true) :: ((0, scT 5, .int 1), true) :: ((2, .int 255, scT 3), false) :: ((2, scT 3, .int 0), false) :: ((2, .int 65535, scT 2), false) :: ((2, scT 2, .int 0), false) :: ((2, .int 3, scT 1), false) :: ((2, scT 1, .int 0), false) :: Fk 19) sA_w19 = true := by decide +kernel
theorem ka_w19_3_2 : crow 977 400 (((2, .arg 1384, .int 16), true) :: ((0, .arg 18592, .int 3), false) :: ((0, .arg 18592, .int 0), false) :: ((0, scT 1, .int 3), true) :: ((0, scT 5, .int 2), true) :: ((2, .int 255, scT 3), false) :: ((2, scT 3, .int 0), false) :: ((2, .int 65535, scT 2), false) :: ((2, scT 2, .int 0), false) :: ((2, .int 3, scT 1), false) :: ((2, scT 1, .int 0), false) :: Fk 19) sA_w19 = true := by decide +kernel
theorem ka_w19_3_4 : crow 977 400 (((2, .arg 1384, .int 16), true) :: ((0, .arg 18592, .int 3), false) :: ((0, .arg 18592, .int 0), false) :: ((0, scT 1, .int 3), true) :: ((0, scT 5, .int 4), true) :: ((2, .int 255, scT 3), false) :: ((2, scT 3, .int 0), false) :: ((2, .int 65535, scT 2), false) :: ((2, scT 2, .int 0), false) :: ((2, .int 3, scT 1), false) :: ((2, scT 1, .int 0), false) :: Fk 19) sA_w19 = true := by decide +kernel
noncomputable def hB_w19 : sF := frH 450 9 [(0, tr 0), (1, scT 1), (2, scT 2), (3, scT 3), (4, scT 4), (5, scT 5), (6, tr 348)] ([.arg 59808] ++ [.int 0, tr 348])
noncomputable def sM_w19 : sS := (frL 1032 ((5, .int 0) :: zLv) [scT 5, scT 4, scT 3, scT 2, scT 1, tr 219], [], 20, foot zLw fL8, 0)
noncomputable def fM_w19 : sFs := [((6, .arg 59841, .op1 .i2l (.arg 59808)), true)]
noncomputable def fZ_w19 : sFs := []
theorem kb_w19 : srun ysN pF pdfl mt_all hlp kR (fun F s => sinstX kR F (sgM s) fM_w19 sM_w19 s) 300 ([] ++ (fZ_w19 ++ Fi6)) (hB_w19, [lA_w19], 19, foot zLw fL8, 0) = true := by decide +kernel
theorem kc_w19 : srun ysN pF pdfl mt_all hlp kR sBkP 300 (((0, .arg 19232, .int 0), true) :: (fM_w19 ++ Fi6)) (frL 1033 ((5, .int 0) :: zLv) ([.arg 59808] ++ []), [], 20, zLw, 103275) = true := by decide +kernel
theorem zcp_19 {L : Nat} {xs : Nat → Int32} (hL : L ≤ 3073) : ZCP L xs 19 977 := by
  intro ρ hB hi IH hK hF hp
  have b1 := hB.1
  have b2 := hB.2.1
  by_cases r0 : (sd (pXs L xs) ρ (scT 1)).1 < (sd (pXs L xs) ρ (.int 0)).1
  · have g : fok (pXs L xs) ρ (((2, scT 1, .int 0), true) :: Fk 19) := ⟨hF.1, fcn (decide_eq_true r0) (hF.2)⟩
    exact lrow_ok hL hB hi IH hK g hp kr_19_0
  by_cases r1 : (sd (pXs L xs) ρ (.int 3)).1 < (sd (pXs L xs) ρ (scT 1)).1
  · have g : fok (pXs L xs) ρ (((2, .int 3, scT 1), true) :: ((2, scT 1, .int 0), false) :: Fk 19) := ⟨hF.1, fcn (decide_eq_true r1) (fcn (decide_eq_false r0) (hF.2))⟩
    exact lrow_ok hL hB hi IH hK g hp kr_19_1
  by_cases r2 : (sd (pXs L xs) ρ (scT 2)).1 < (sd (pXs L xs) ρ (.int 0)).1
  · have g : fok (pXs L xs) ρ (((2, scT 2, .int 0), true) :: ((2, .int 3, scT 1), false) :: ((2, scT 1, .int 0), false) :: Fk 19) := ⟨hF.1, fcn (decide_eq_true r2) (fcn (decide_eq_false r1) (fcn (decide_eq_false r0) (hF.2)))⟩
    exact lrow_ok hL hB hi IH hK g hp kr_19_2
  by_cases r3 : (sd (pXs L xs) ρ (.int 65535)).1 < (sd (pXs L xs) ρ (scT 2)).1
  · have g : fok (pXs L xs) ρ (((2, .int 65535, scT 2), true) :: ((2, scT 2, .int 0), false) :: ((2, .int 3, scT 1), false) :: ((2, scT 1, .int 0), false) :: Fk 19) := ⟨hF.1, fcn (decide_eq_true r3) (fcn (decide_eq_false r2) (fcn (decide_eq_false r1) (fcn (decide_eq_false r0) (hF.2))))⟩
    exact lrow_ok hL hB hi IH hK g hp kr_19_3
  by_cases r4 : (sd (pXs L xs) ρ (scT 3)).1 < (sd (pXs L xs) ρ (.int 0)).1
  · have g : fok (pXs L xs) ρ (((2, scT 3, .int 0), true) :: ((2, .int 65535, scT 2), false) :: ((2, scT 2, .int 0), false) :: ((2, .int 3, scT 1), false) :: ((2, scT 1, .int 0), false) :: Fk 19) := ⟨hF.1, fcn (decide_eq_true r4) (fcn (decide_eq_false r3) (fcn (decide_eq_false r2) (fcn (decide_eq_false r1) (fcn (decide_eq_false r0) (hF.2)))))⟩
    exact lrow_ok hL hB hi IH hK g hp kr_19_4
  by_cases r5 : (sd (pXs L xs) ρ (.int 255)).1 < (sd (pXs L xs) ρ (scT 3)).1
  · have g : fok (pXs L xs) ρ (((2, .int 255, scT 3), true) :: ((2, scT 3, .int 0), false) :: ((2, .int 65535, scT 2), false) :: ((2, scT 2, .int 0), false) :: ((2, .int 3, scT 1), false) :: ((2, scT 1, .int 0), false) :: Fk 19) := ⟨hF.1, fcn (decide_eq_true r5) (fcn (decide_eq_false r4) (fcn (decide_eq_false r3) (fcn (decide_eq_false r2) (fcn (decide_eq_false r1) (fcn (decide_eq_false r0) (hF.2))))))⟩
    exact lrow_ok hL hB hi IH hK g hp kr_19_5
  have w1 : (0 : Int) ≤ ((sd (pXs L xs) ρ (scT 1)).1).toInt := ge_i r0
  have w2 : ((sd (pXs L xs) ρ (scT 1)).1).toInt ≤ (3 : Int) := le_i r1
  by_cases z1 : (sd (pXs L xs) ρ (scT 5)).1 = (sd (pXs L xs) ρ (.int 1)).1
  · rcases (show ((sd (pXs L xs) ρ (scT 1)).1).toInt = 0 ∨ ((sd (pXs L xs) ρ (scT 1)).1).toInt = 1 ∨ ((sd (pXs L xs) ρ (scT 1)).1).toInt = 2 ∨ ((sd (pXs L xs) ρ (scT 1)).1).toInt = 3 by omega) with w | w | w | w
    · have v : (sd (pXs L xs) ρ (scT 1)).1 = 0 := Int32.toInt_inj.mp (by rw [w]; rfl)
      by_cases s0 : (sd (pXs L xs) ρ (.arg 18496)).1 = (sd (pXs L xs) ρ (.int 0)).1
      · have g : fok (pXs L xs) ρ (((0, .arg 18496, .int 0), true) :: ((0, scT 1, .int 0), true) :: ((2, .int 255, scT 3), false) :: ((2, scT 3, .int 0), false) :: ((2, .int 65535, scT 2), false) :: ((2, scT 2, .int 0), false) :: ((2, .int 3, scT 1), false) :: ((2, scT 1, .int 0), false) :: Fk 19) := ⟨hF.1, fcn (decide_eq_true s0) (fcn (decide_eq_true v) (fcn (decide_eq_false r5) (fcn (decide_eq_false r4) (fcn (decide_eq_false r3) (fcn (decide_eq_false r2) (fcn (decide_eq_false r1) (fcn (decide_eq_false r0) (hF.2))))))))⟩
        exact lrow_ok hL hB hi IH hK g hp kr_19_0a
      by_cases s1 : (sd (pXs L xs) ρ (.arg 18496)).1 = (sd (pXs L xs) ρ (.int 3)).1
      · have g : fok (pXs L xs) ρ (((0, .arg 18496, .int 3), true) :: ((0, .arg 18496, .int 0), false) :: ((0, scT 1, .int 0), true) :: ((2, .int 255, scT 3), false) :: ((2, scT 3, .int 0), false) :: ((2, .int 65535, scT 2), false) :: ((2, scT 2, .int 0), false) :: ((2, .int 3, scT 1), false) :: ((2, scT 1, .int 0), false) :: Fk 19) := ⟨hF.1, fcn (decide_eq_true s1) (fcn (decide_eq_false s0) (fcn (decide_eq_true v) (fcn (decide_eq_false r5) (fcn (decide_eq_false r4) (fcn (decide_eq_false r3) (fcn (decide_eq_false r2) (fcn (decide_eq_false r1) (fcn (decide_eq_false r0) (hF.2)))))))))⟩
        exact lrow_ok hL hB hi IH hK g hp kr_19_0b
      by_cases s2 : ¬ ((sd (pXs L xs) ρ (.arg 1288)).1 < (sd (pXs L xs) ρ (.int 16)).1)
      · have g : fok (pXs L xs) ρ (((2, .arg 1288, .int 16), false) :: ((0, .arg 18496, .int 3), false) :: ((0, .arg 18496, .int 0), false) :: ((0, scT 1, .int 0), true) :: ((2, .int 255, scT 3), false) :: ((2, scT 3, .int 0), false) :: ((2, .int 65535, scT 2), false) :: ((2, scT 2, .int 0), false) :: ((2, .int 3, scT 1), false) :: ((2, scT 1, .int 0), false) :: Fk 19) := ⟨hF.1, fcn (decide_eq_false s2) (fcn (decide_eq_false s1) (fcn (decide_eq_false s0) (fcn (decide_eq_true v) (fcn (decide_eq_false r5) (fcn (decide_eq_false r4) (fcn (decide_eq_false r3) (fcn (decide_eq_false r2) (fcn (decide_eq_false r1) (fcn (decide_eq_false r0) (hF.2))))))))))⟩
        exact lrow_ok hL hB hi IH hK g hp kr_19_0c
      have s2 := Classical.not_not.mp s2
      have g : fok (pXs L xs) ρ (((2, .arg 1288, .int 16), true) :: ((0, .arg 18496, .int 3), false) :: ((0, .arg 18496, .int 0), false) :: ((0, scT 1, .int 0), true) :: ((0, scT 5, .int 1), true) :: ((2, .int 255, scT 3), false) :: ((2, scT 3, .int 0), false) :: ((2, .int 65535, scT 2), false) :: ((2, scT 2, .int 0), false) :: ((2, .int 3, scT 1), false) :: ((2, scT 1, .int 0), false) :: Fk 19) := ⟨hF.1, fcn (decide_eq_true s2) (fcn (decide_eq_false s1) (fcn (decide_eq_false s0) (fcn (decide_eq_true v) (fcn (decide_eq_true z1) (fcn (decide_eq_false r5) (fcn (decide_eq_false r4) (fcn (decide_eq_false r3) (fcn (decide_eq_false r2) (fcn (decide_eq_false r1) (fcn (decide_eq_false r0) (hF.2)))))))))))⟩
      refine crow_ok hK g ka_w19_0_1 ?_
      have ag0 : agr 59000 (rset [(60016, (sd (pXs L xs) ρ (scT 2)).1), (60004, (sd (pXs L xs) ρ (scT 3)).1), (60032, (sd (pXs L xs) ρ (scT 4)).1)] ρ) ρ := rset_agr (fun p hp => by
        simp only [List.mem_cons, List.not_mem_nil, or_false] at hp
        rcases hp with rfl | rfl | rfl
        · show 59000 ≤ 60016; decide
        · show 59000 ≤ 60004; decide
        · show 59000 ≤ 60032; decide)
      have av0 : vok (pXs L xs) (rset [(60016, (sd (pXs L xs) ρ (scT 2)).1), (60004, (sd (pXs L xs) ρ (scT 3)).1), (60032, (sd (pXs L xs) ρ (scT 4)).1)] ρ) := rset_vok (fun p hp r hr => by
        simp only [List.mem_cons, List.not_mem_nil, or_false] at hp
        rcases hp with rfl | rfl | rfl
        · rw [show vrng 60016 = some (0, 65535) from rfl] at hr; cases hr; exact ⟨ge_i r2, le_i r3⟩
        · rw [show vrng 60004 = some (0, 255) from rfl] at hr; cases hr; exact ⟨ge_i r4, le_i r5⟩
        · rw [show vrng 60032 = none from rfl] at hr; cases hr) (fun p hp => by
        simp only [List.mem_cons, List.not_mem_nil, or_false] at hp
        rcases hp with rfl | rfl | rfl
        · show (60016 : Nat) % 2 = 0; decide
        · show (60004 : Nat) % 2 = 0; decide
        · show (60032 : Nat) % 2 = 0; decide) hF.1
      have ag := ag0
      have av := av0
      refine lgood (C := wideC c_set0_1) (t := 40 * (ρ.1 59744).toInt) (tq := 40 * (ρ.1 59744).toInt) (vt := [.arg 59808]) (FZ := fZ_w19) (nB := 300) (nC := 300) (SREL_w1 sT_set0_1 wk_c_set0_1) rfl (by decide +kernel) (hQ_I rfl rfl (by decide +kernel) kp_c_set0_1) rfl rfl rfl (by decide +kernel) rfl rfl rfl (by decide +kernel) ⟨1033, rfl⟩ rfl (fun w z => ⟨[], fM_w19, fun _ _ _ f hf => (by cases hf), kb_w19, kc_w19⟩) hL hB hi IH hF.1 (fun f hf => by cases hf) (by omega) ag (rset_kok hK) ⟨av, fcn (decide_eq_false s0) (fcn (decide_eq_false s1) (fcn (decide_eq_true s2) (fcn ((PT_ag ag hp).1.2.1 _ (fin1_ok (by decide +kernel))) (fcn ((PT_ag ag hp).1.2.1 _ (fin1_ok (by decide +kernel))) (fcn ((PT_ag ag hp).1.2.1 _ (fin1_ok (by decide +kernel))) (fcn ((PT_ag ag hp).1.2.1 _ (fin1_ok (by decide +kernel))) (fcn ((PT_ag ag hp).1.2.1 _ (fin1_ok (by decide +kernel))) (fcn ((PT_ag ag hp).1.2.1 _ (fin1_ok (by decide +kernel))) (fcn ((PT_ag ag hp).1.2.1 _ (fin1_ok (by decide +kernel))) (fcn ((PT_ag ag hp).1.2.1 _ (fin1_ok (by decide +kernel))) (fcn ((PT_ag ag hp).1.2.1 _ (fin1_ok (by decide +kernel))) (fcn ((PT_ag ag hp).1.2.1 _ (fin1_ok (by decide +kernel))) (fcn ((PT_ag ag hp).1.2.1 _ (fin1_ok (by decide +kernel))) (fcn ((PT_ag ag hp).1.2.1 _ (fin1_ok (by decide +kernel))) (fcn ((PT_ag ag hp).1.2.1 _ (fin1_ok (by decide +kernel))) (fcn ((PT_ag ag hp).1.2.1 _ (fin1_ok (by decide +kernel))) (fcn ((PT_ag ag hp).1.2.1 _ (fin1_ok (by decide +kernel))) (fcn ((PT_ag ag hp).1.2.1 _ (fin1_ok (by decide +kernel))) (fcn ((PT_ag ag hp).1.2.1 _ (fin1_ok (by decide +kernel))) (fcn ((PT_ag ag hp).1.2.1 _ (fin1_ok (by decide +kernel))) (fcn ((PT_ag ag hp).1.2.1 _ (fin1_ok (by decide +kernel))) (fcn ((PT_ag ag hp).1.2.1 _ (fin1_ok (by decide +kernel))) (fcn ((PT_ag ag hp).1.2.1 _ (fin1_ok (by decide +kernel))) (fcn ((PT_ag ag hp).1.2.1 _ (fin1_ok (by decide +kernel))) (fcn ((PT_ag ag hp).1.2.1 _ (fin1_ok (by decide +kernel))) (fcn ((PT_ag ag hp).1.2.1 _ (fin1_ok (by decide +kernel))) (fcn ((PT_ag ag hp).1.2.1 _ (fin1_ok (by decide +kernel))) ((fun f hf => by cases hf)))))))))))))))))))))))))))))⟩ (iok_S (L := im) (by decide +kernel) (PT_ag ag hp).1.2.2) (PT_ag ag hp) ?_ ?_
      · show [Value.ref 0, Value.int (0), Value.int _, Value.int _, Value.int _, Value.int (1)] = [Value.ref 0, sv (pXs L xs) ρ (scT 1), sv (pXs L xs) ρ (scT 2), sv (pXs L xs) ρ (scT 3), sv (pXs L xs) ρ (scT 4), sv (pXs L xs) ρ (scT 5)]
        rw [sv_int (t := scT 1) rfl, show (sd (pXs L xs) ρ (scT 1)).1 = 0 from v, sv_int (t := scT 2) rfl, sv_int (t := scT 3) rfl, sv_int (t := scT 4) rfl, sv_int (t := scT 5) rfl, show (sd (pXs L xs) ρ (scT 5)).1 = 1 from z1]
        rfl
      · show [Value.ref 219, Value.int (0), Value.int _, Value.int _, Value.int _, Value.int (1)] = [Value.ref 219, sv (pXs L xs) ρ (scT 1), sv (pXs L xs) ρ (scT 2), sv (pXs L xs) ρ (scT 3), sv (pXs L xs) ρ (scT 4), sv (pXs L xs) ρ (scT 5)]
        rw [sv_int (t := scT 1) rfl, show (sd (pXs L xs) ρ (scT 1)).1 = 0 from v, sv_int (t := scT 2) rfl, sv_int (t := scT 3) rfl, sv_int (t := scT 4) rfl, sv_int (t := scT 5) rfl, show (sd (pXs L xs) ρ (scT 5)).1 = 1 from z1]
        rfl
    · have v : (sd (pXs L xs) ρ (scT 1)).1 = 1 := Int32.toInt_inj.mp (by rw [w]; rfl)
      by_cases s0 : (sd (pXs L xs) ρ (.arg 18528)).1 = (sd (pXs L xs) ρ (.int 0)).1
      · have g : fok (pXs L xs) ρ (((0, .arg 18528, .int 0), true) :: ((0, scT 1, .int 1), true) :: ((2, .int 255, scT 3), false) :: ((2, scT 3, .int 0), false) :: ((2, .int 65535, scT 2), false) :: ((2, scT 2, .int 0), false) :: ((2, .int 3, scT 1), false) :: ((2, scT 1, .int 0), false) :: Fk 19) := ⟨hF.1, fcn (decide_eq_true s0) (fcn (decide_eq_true v) (fcn (decide_eq_false r5) (fcn (decide_eq_false r4) (fcn (decide_eq_false r3) (fcn (decide_eq_false r2) (fcn (decide_eq_false r1) (fcn (decide_eq_false r0) (hF.2))))))))⟩
        exact lrow_ok hL hB hi IH hK g hp kr_19_1a
      by_cases s1 : (sd (pXs L xs) ρ (.arg 18528)).1 = (sd (pXs L xs) ρ (.int 3)).1
      · have g : fok (pXs L xs) ρ (((0, .arg 18528, .int 3), true) :: ((0, .arg 18528, .int 0), false) :: ((0, scT 1, .int 1), true) :: ((2, .int 255, scT 3), false) :: ((2, scT 3, .int 0), false) :: ((2, .int 65535, scT 2), false) :: ((2, scT 2, .int 0), false) :: ((2, .int 3, scT 1), false) :: ((2, scT 1, .int 0), false) :: Fk 19) := ⟨hF.1, fcn (decide_eq_true s1) (fcn (decide_eq_false s0) (fcn (decide_eq_true v) (fcn (decide_eq_false r5) (fcn (decide_eq_false r4) (fcn (decide_eq_false r3) (fcn (decide_eq_false r2) (fcn (decide_eq_false r1) (fcn (decide_eq_false r0) (hF.2)))))))))⟩
        exact lrow_ok hL hB hi IH hK g hp kr_19_1b
      by_cases s2 : ¬ ((sd (pXs L xs) ρ (.arg 1320)).1 < (sd (pXs L xs) ρ (.int 16)).1)
      · have g : fok (pXs L xs) ρ (((2, .arg 1320, .int 16), false) :: ((0, .arg 18528, .int 3), false) :: ((0, .arg 18528, .int 0), false) :: ((0, scT 1, .int 1), true) :: ((2, .int 255, scT 3), false) :: ((2, scT 3, .int 0), false) :: ((2, .int 65535, scT 2), false) :: ((2, scT 2, .int 0), false) :: ((2, .int 3, scT 1), false) :: ((2, scT 1, .int 0), false) :: Fk 19) := ⟨hF.1, fcn (decide_eq_false s2) (fcn (decide_eq_false s1) (fcn (decide_eq_false s0) (fcn (decide_eq_true v) (fcn (decide_eq_false r5) (fcn (decide_eq_false r4) (fcn (decide_eq_false r3) (fcn (decide_eq_false r2) (fcn (decide_eq_false r1) (fcn (decide_eq_false r0) (hF.2))))))))))⟩
        exact lrow_ok hL hB hi IH hK g hp kr_19_1c
      have s2 := Classical.not_not.mp s2
      have g : fok (pXs L xs) ρ (((2, .arg 1320, .int 16), true) :: ((0, .arg 18528, .int 3), false) :: ((0, .arg 18528, .int 0), false) :: ((0, scT 1, .int 1), true) :: ((0, scT 5, .int 1), true) :: ((2, .int 255, scT 3), false) :: ((2, scT 3, .int 0), false) :: ((2, .int 65535, scT 2), false) :: ((2, scT 2, .int 0), false) :: ((2, .int 3, scT 1), false) :: ((2, scT 1, .int 0), false) :: Fk 19) := ⟨hF.1, fcn (decide_eq_true s2) (fcn (decide_eq_false s1) (fcn (decide_eq_false s0) (fcn (decide_eq_true v) (fcn (decide_eq_true z1) (fcn (decide_eq_false r5) (fcn (decide_eq_false r4) (fcn (decide_eq_false r3) (fcn (decide_eq_false r2) (fcn (decide_eq_false r1) (fcn (decide_eq_false r0) (hF.2)))))))))))⟩
      refine crow_ok hK g ka_w19_1_1 ?_
      have ag0 : agr 59000 (rset [(60016, (sd (pXs L xs) ρ (scT 2)).1), (60004, (sd (pXs L xs) ρ (scT 3)).1), (60032, (sd (pXs L xs) ρ (scT 4)).1)] ρ) ρ := rset_agr (fun p hp => by
        simp only [List.mem_cons, List.not_mem_nil, or_false] at hp
        rcases hp with rfl | rfl | rfl
        · show 59000 ≤ 60016; decide
        · show 59000 ≤ 60004; decide
        · show 59000 ≤ 60032; decide)
      have av0 : vok (pXs L xs) (rset [(60016, (sd (pXs L xs) ρ (scT 2)).1), (60004, (sd (pXs L xs) ρ (scT 3)).1), (60032, (sd (pXs L xs) ρ (scT 4)).1)] ρ) := rset_vok (fun p hp r hr => by
        simp only [List.mem_cons, List.not_mem_nil, or_false] at hp
        rcases hp with rfl | rfl | rfl
        · rw [show vrng 60016 = some (0, 65535) from rfl] at hr; cases hr; exact ⟨ge_i r2, le_i r3⟩
        · rw [show vrng 60004 = some (0, 255) from rfl] at hr; cases hr; exact ⟨ge_i r4, le_i r5⟩
        · rw [show vrng 60032 = none from rfl] at hr; cases hr) (fun p hp => by
        simp only [List.mem_cons, List.not_mem_nil, or_false] at hp
        rcases hp with rfl | rfl | rfl
        · show (60016 : Nat) % 2 = 0; decide
        · show (60004 : Nat) % 2 = 0; decide
        · show (60032 : Nat) % 2 = 0; decide) hF.1
      have ag := ag0
      have av := av0
      refine lgood (C := wideC c_set1_1) (t := 40 * (ρ.1 59744).toInt) (tq := 40 * (ρ.1 59744).toInt) (vt := [.arg 59808]) (FZ := fZ_w19) (nB := 300) (nC := 300) (SREL_w1 sT_set1_1 wk_c_set1_1) rfl (by decide +kernel) (hQ_I rfl rfl (by decide +kernel) kp_c_set1_1) rfl rfl rfl (by decide +kernel) rfl rfl rfl (by decide +kernel) ⟨1033, rfl⟩ rfl (fun w z => ⟨[], fM_w19, fun _ _ _ f hf => (by cases hf), kb_w19, kc_w19⟩) hL hB hi IH hF.1 (fun f hf => by cases hf) (by omega) ag (rset_kok hK) ⟨av, fcn (decide_eq_false s0) (fcn (decide_eq_false s1) (fcn (decide_eq_true s2) (fcn ((PT_ag ag hp).1.2.1 _ (fin1_ok (by decide +kernel))) (fcn ((PT_ag ag hp).1.2.1 _ (fin1_ok (by decide +kernel))) (fcn ((PT_ag ag hp).1.2.1 _ (fin1_ok (by decide +kernel))) (fcn ((PT_ag ag hp).1.2.1 _ (fin1_ok (by decide +kernel))) (fcn ((PT_ag ag hp).1.2.1 _ (fin1_ok (by decide +kernel))) (fcn ((PT_ag ag hp).1.2.1 _ (fin1_ok (by decide +kernel))) (fcn ((PT_ag ag hp).1.2.1 _ (fin1_ok (by decide +kernel))) (fcn ((PT_ag ag hp).1.2.1 _ (fin1_ok (by decide +kernel))) (fcn ((PT_ag ag hp).1.2.1 _ (fin1_ok (by decide +kernel))) (fcn ((PT_ag ag hp).1.2.1 _ (fin1_ok (by decide +kernel))) (fcn ((PT_ag ag hp).1.2.1 _ (fin1_ok (by decide +kernel))) (fcn ((PT_ag ag hp).1.2.1 _ (fin1_ok (by decide +kernel))) (fcn ((PT_ag ag hp).1.2.1 _ (fin1_ok (by decide +kernel))) (fcn ((PT_ag ag hp).1.2.1 _ (fin1_ok (by decide +kernel))) (fcn ((PT_ag ag hp).1.2.1 _ (fin1_ok (by decide +kernel))) (fcn ((PT_ag ag hp).1.2.1 _ (fin1_ok (by decide +kernel))) (fcn ((PT_ag ag hp).1.2.1 _ (fin1_ok (by decide +kernel))) (fcn ((PT_ag ag hp).1.2.1 _ (fin1_ok (by decide +kernel))) (fcn ((PT_ag ag hp).1.2.1 _ (fin1_ok (by decide +kernel))) (fcn ((PT_ag ag hp).1.2.1 _ (fin1_ok (by decide +kernel))) (fcn ((PT_ag ag hp).1.2.1 _ (fin1_ok (by decide +kernel))) (fcn ((PT_ag ag hp).1.2.1 _ (fin1_ok (by decide +kernel))) (fcn ((PT_ag ag hp).1.2.1 _ (fin1_ok (by decide +kernel))) (fcn ((PT_ag ag hp).1.2.1 _ (fin1_ok (by decide +kernel))) (fcn ((PT_ag ag hp).1.2.1 _ (fin1_ok (by decide +kernel))) ((fun f hf => by cases hf)))))))))))))))))))))))))))))⟩ (iok_S (L := im) (by decide +kernel) (PT_ag ag hp).1.2.2) (PT_ag ag hp) ?_ ?_
      · show [Value.ref 0, Value.int (1), Value.int _, Value.int _, Value.int _, Value.int (1)] = [Value.ref 0, sv (pXs L xs) ρ (scT 1), sv (pXs L xs) ρ (scT 2), sv (pXs L xs) ρ (scT 3), sv (pXs L xs) ρ (scT 4), sv (pXs L xs) ρ (scT 5)]
        rw [sv_int (t := scT 1) rfl, show (sd (pXs L xs) ρ (scT 1)).1 = 1 from v, sv_int (t := scT 2) rfl, sv_int (t := scT 3) rfl, sv_int (t := scT 4) rfl, sv_int (t := scT 5) rfl, show (sd (pXs L xs) ρ (scT 5)).1 = 1 from z1]
        rfl
      · show [Value.ref 219, Value.int (1), Value.int _, Value.int _, Value.int _, Value.int (1)] = [Value.ref 219, sv (pXs L xs) ρ (scT 1), sv (pXs L xs) ρ (scT 2), sv (pXs L xs) ρ (scT 3), sv (pXs L xs) ρ (scT 4), sv (pXs L xs) ρ (scT 5)]
        rw [sv_int (t := scT 1) rfl, show (sd (pXs L xs) ρ (scT 1)).1 = 1 from v, sv_int (t := scT 2) rfl, sv_int (t := scT 3) rfl, sv_int (t := scT 4) rfl, sv_int (t := scT 5) rfl, show (sd (pXs L xs) ρ (scT 5)).1 = 1 from z1]
        rfl
    · have v : (sd (pXs L xs) ρ (scT 1)).1 = 2 := Int32.toInt_inj.mp (by rw [w]; rfl)
      by_cases s0 : (sd (pXs L xs) ρ (.arg 18560)).1 = (sd (pXs L xs) ρ (.int 0)).1
      · have g : fok (pXs L xs) ρ (((0, .arg 18560, .int 0), true) :: ((0, scT 1, .int 2), true) :: ((2, .int 255, scT 3), false) :: ((2, scT 3, .int 0), false) :: ((2, .int 65535, scT 2), false) :: ((2, scT 2, .int 0), false) :: ((2, .int 3, scT 1), false) :: ((2, scT 1, .int 0), false) :: Fk 19) := ⟨hF.1, fcn (decide_eq_true s0) (fcn (decide_eq_true v) (fcn (decide_eq_false r5) (fcn (decide_eq_false r4) (fcn (decide_eq_false r3) (fcn (decide_eq_false r2) (fcn (decide_eq_false r1) (fcn (decide_eq_false r0) (hF.2))))))))⟩
        exact lrow_ok hL hB hi IH hK g hp kr_19_2a
      by_cases s1 : (sd (pXs L xs) ρ (.arg 18560)).1 = (sd (pXs L xs) ρ (.int 3)).1
      · have g : fok (pXs L xs) ρ (((0, .arg 18560, .int 3), true) :: ((0, .arg 18560, .int 0), false) :: ((0, scT 1, .int 2), true) :: ((2, .int 255, scT 3), false) :: ((2, scT 3, .int 0), false) :: ((2, .int 65535, scT 2), false) :: ((2, scT 2, .int 0), false) :: ((2, .int 3, scT 1), false) :: ((2, scT 1, .int 0), false) :: Fk 19) := ⟨hF.1, fcn (decide_eq_true s1) (fcn (decide_eq_false s0) (fcn (decide_eq_true v) (fcn (decide_eq_false r5) (fcn (decide_eq_false r4) (fcn (decide_eq_false r3) (fcn (decide_eq_false r2) (fcn (decide_eq_false r1) (fcn (decide_eq_false r0) (hF.2)))))))))⟩
        exact lrow_ok hL hB hi IH hK g hp kr_19_2b
      by_cases s2 : ¬ ((sd (pXs L xs) ρ (.arg 1352)).1 < (sd (pXs L xs) ρ (.int 16)).1)
      · have g : fok (pXs L xs) ρ (((2, .arg 1352, .int 16), false) :: ((0, .arg 18560, .int 3), false) :: ((0, .arg 18560, .int 0), false) :: ((0, scT 1, .int 2), true) :: ((2, .int 255, scT 3), false) :: ((2, scT 3, .int 0), false) :: ((2, .int 65535, scT 2), false) :: ((2, scT 2, .int 0), false) :: ((2, .int 3, scT 1), false) :: ((2, scT 1, .int 0), false) :: Fk 19) := ⟨hF.1, fcn (decide_eq_false s2) (fcn (decide_eq_false s1) (fcn (decide_eq_false s0) (fcn (decide_eq_true v) (fcn (decide_eq_false r5) (fcn (decide_eq_false r4) (fcn (decide_eq_false r3) (fcn (decide_eq_false r2) (fcn (decide_eq_false r1) (fcn (decide_eq_false r0) (hF.2))))))))))⟩
        exact lrow_ok hL hB hi IH hK g hp kr_19_2c
      have s2 := Classical.not_not.mp s2
      have g : fok (pXs L xs) ρ (((2, .arg 1352, .int 16), true) :: ((0, .arg 18560, .int 3), false) :: ((0, .arg 18560, .int 0), false) :: ((0, scT 1, .int 2), true) :: ((0, scT 5, .int 1), true) :: ((2, .int 255, scT 3), false) :: ((2, scT 3, .int 0), false) :: ((2, .int 65535, scT 2), false) :: ((2, scT 2, .int 0), false) :: ((2, .int 3, scT 1), false) :: ((2, scT 1, .int 0), false) :: Fk 19) := ⟨hF.1, fcn (decide_eq_true s2) (fcn (decide_eq_false s1) (fcn (decide_eq_false s0) (fcn (decide_eq_true v) (fcn (decide_eq_true z1) (fcn (decide_eq_false r5) (fcn (decide_eq_false r4) (fcn (decide_eq_false r3) (fcn (decide_eq_false r2) (fcn (decide_eq_false r1) (fcn (decide_eq_false r0) (hF.2)))))))))))⟩
      refine crow_ok hK g ka_w19_2_1 ?_
      have ag0 : agr 59000 (rset [(60016, (sd (pXs L xs) ρ (scT 2)).1), (60004, (sd (pXs L xs) ρ (scT 3)).1), (60032, (sd (pXs L xs) ρ (scT 4)).1)] ρ) ρ := rset_agr (fun p hp => by
        simp only [List.mem_cons, List.not_mem_nil, or_false] at hp
        rcases hp with rfl | rfl | rfl
        · show 59000 ≤ 60016; decide
        · show 59000 ≤ 60004; decide
        · show 59000 ≤ 60032; decide)
      have av0 : vok (pXs L xs) (rset [(60016, (sd (pXs L xs) ρ (scT 2)).1), (60004, (sd (pXs L xs) ρ (scT 3)).1), (60032, (sd (pXs L xs) ρ (scT 4)).1)] ρ) := rset_vok (fun p hp r hr => by
        simp only [List.mem_cons, List.not_mem_nil, or_false] at hp
        rcases hp with rfl | rfl | rfl
        · rw [show vrng 60016 = some (0, 65535) from rfl] at hr; cases hr; exact ⟨ge_i r2, le_i r3⟩
        · rw [show vrng 60004 = some (0, 255) from rfl] at hr; cases hr; exact ⟨ge_i r4, le_i r5⟩
        · rw [show vrng 60032 = none from rfl] at hr; cases hr) (fun p hp => by
        simp only [List.mem_cons, List.not_mem_nil, or_false] at hp
        rcases hp with rfl | rfl | rfl
        · show (60016 : Nat) % 2 = 0; decide
        · show (60004 : Nat) % 2 = 0; decide
        · show (60032 : Nat) % 2 = 0; decide) hF.1
      have ag := ag0
      have av := av0
      refine lgood (C := wideC c_set2_1) (t := 40 * (ρ.1 59744).toInt) (tq := 40 * (ρ.1 59744).toInt) (vt := [.arg 59808]) (FZ := fZ_w19) (nB := 300) (nC := 300) (SREL_w1 sT_set2_1 wk_c_set2_1) rfl (by decide +kernel) (hQ_I rfl rfl (by decide +kernel) kp_c_set2_1) rfl rfl rfl (by decide +kernel) rfl rfl rfl (by decide +kernel) ⟨1033, rfl⟩ rfl (fun w z => ⟨[], fM_w19, fun _ _ _ f hf => (by cases hf), kb_w19, kc_w19⟩) hL hB hi IH hF.1 (fun f hf => by cases hf) (by omega) ag (rset_kok hK) ⟨av, fcn (decide_eq_false s0) (fcn (decide_eq_false s1) (fcn (decide_eq_true s2) (fcn ((PT_ag ag hp).1.2.1 _ (fin1_ok (by decide +kernel))) (fcn ((PT_ag ag hp).1.2.1 _ (fin1_ok (by decide +kernel))) (fcn ((PT_ag ag hp).1.2.1 _ (fin1_ok (by decide +kernel))) (fcn ((PT_ag ag hp).1.2.1 _ (fin1_ok (by decide +kernel))) (fcn ((PT_ag ag hp).1.2.1 _ (fin1_ok (by decide +kernel))) (fcn ((PT_ag ag hp).1.2.1 _ (fin1_ok (by decide +kernel))) (fcn ((PT_ag ag hp).1.2.1 _ (fin1_ok (by decide +kernel))) (fcn ((PT_ag ag hp).1.2.1 _ (fin1_ok (by decide +kernel))) (fcn ((PT_ag ag hp).1.2.1 _ (fin1_ok (by decide +kernel))) (fcn ((PT_ag ag hp).1.2.1 _ (fin1_ok (by decide +kernel))) (fcn ((PT_ag ag hp).1.2.1 _ (fin1_ok (by decide +kernel))) (fcn ((PT_ag ag hp).1.2.1 _ (fin1_ok (by decide +kernel))) (fcn ((PT_ag ag hp).1.2.1 _ (fin1_ok (by decide +kernel))) (fcn ((PT_ag ag hp).1.2.1 _ (fin1_ok (by decide +kernel))) (fcn ((PT_ag ag hp).1.2.1 _ (fin1_ok (by decide +kernel))) (fcn ((PT_ag ag hp).1.2.1 _ (fin1_ok (by decide +kernel))) (fcn ((PT_ag ag hp).1.2.1 _ (fin1_ok (by decide +kernel))) (fcn ((PT_ag ag hp).1.2.1 _ (fin1_ok (by decide +kernel))) (fcn ((PT_ag ag hp).1.2.1 _ (fin1_ok (by decide +kernel))) (fcn ((PT_ag ag hp).1.2.1 _ (fin1_ok (by decide +kernel))) (fcn ((PT_ag ag hp).1.2.1 _ (fin1_ok (by decide +kernel))) (fcn ((PT_ag ag hp).1.2.1 _ (fin1_ok (by decide +kernel))) (fcn ((PT_ag ag hp).1.2.1 _ (fin1_ok (by decide +kernel))) (fcn ((PT_ag ag hp).1.2.1 _ (fin1_ok (by decide +kernel))) (fcn ((PT_ag ag hp).1.2.1 _ (fin1_ok (by decide +kernel))) ((fun f hf => by cases hf)))))))))))))))))))))))))))))⟩ (iok_S (L := im) (by decide +kernel) (PT_ag ag hp).1.2.2) (PT_ag ag hp) ?_ ?_
      · show [Value.ref 0, Value.int (2), Value.int _, Value.int _, Value.int _, Value.int (1)] = [Value.ref 0, sv (pXs L xs) ρ (scT 1), sv (pXs L xs) ρ (scT 2), sv (pXs L xs) ρ (scT 3), sv (pXs L xs) ρ (scT 4), sv (pXs L xs) ρ (scT 5)]
        rw [sv_int (t := scT 1) rfl, show (sd (pXs L xs) ρ (scT 1)).1 = 2 from v, sv_int (t := scT 2) rfl, sv_int (t := scT 3) rfl, sv_int (t := scT 4) rfl, sv_int (t := scT 5) rfl, show (sd (pXs L xs) ρ (scT 5)).1 = 1 from z1]
        rfl
      · show [Value.ref 219, Value.int (2), Value.int _, Value.int _, Value.int _, Value.int (1)] = [Value.ref 219, sv (pXs L xs) ρ (scT 1), sv (pXs L xs) ρ (scT 2), sv (pXs L xs) ρ (scT 3), sv (pXs L xs) ρ (scT 4), sv (pXs L xs) ρ (scT 5)]
        rw [sv_int (t := scT 1) rfl, show (sd (pXs L xs) ρ (scT 1)).1 = 2 from v, sv_int (t := scT 2) rfl, sv_int (t := scT 3) rfl, sv_int (t := scT 4) rfl, sv_int (t := scT 5) rfl, show (sd (pXs L xs) ρ (scT 5)).1 = 1 from z1]
        rfl
    · have v : (sd (pXs L xs) ρ (scT 1)).1 = 3 := Int32.toInt_inj.mp (by rw [w]; rfl)
      by_cases s0 : (sd (pXs L xs) ρ (.arg 18592)).1 = (sd (pXs L xs) ρ (.int 0)).1
      · have g : fok (pXs L xs) ρ (((0, .arg 18592, .int 0), true) :: ((0, scT 1, .int 3), true) :: ((2, .int 255, scT 3), false) :: ((2, scT 3, .int 0), false) :: ((2, .int 65535, scT 2), false) :: ((2, scT 2, .int 0), false) :: ((2, .int 3, scT 1), false) :: ((2, scT 1, .int 0), false) :: Fk 19) := ⟨hF.1, fcn (decide_eq_true s0) (fcn (decide_eq_true v) (fcn (decide_eq_false r5) (fcn (decide_eq_false r4) (fcn (decide_eq_false r3) (fcn (decide_eq_false r2) (fcn (decide_eq_false r1) (fcn (decide_eq_false r0) (hF.2))))))))⟩
        exact lrow_ok hL hB hi IH hK g hp kr_19_3a
      by_cases s1 : (sd (pXs L xs) ρ (.arg 18592)).1 = (sd (pXs L xs) ρ (.int 3)).1
      · have g : fok (pXs L xs) ρ (((0, .arg 18592, .int 3), true) :: ((0, .arg 18592, .int 0), false) :: ((0, scT 1, .int 3), true) :: ((2, .int 255, scT 3), false) :: ((2, scT 3, .int 0), false) :: ((2, .int 65535, scT 2), false) :: ((2, scT 2, .int 0), false) :: ((2, .int 3, scT 1), false) :: ((2, scT 1, .int 0), false) :: Fk 19) := ⟨hF.1, fcn (decide_eq_true s1) (fcn (decide_eq_false s0) (fcn (decide_eq_true v) (fcn (decide_eq_false r5) (fcn (decide_eq_false r4) (fcn (decide_eq_false r3) (fcn (decide_eq_false r2) (fcn (decide_eq_false r1) (fcn (decide_eq_false r0) (hF.2)))))))))⟩
        exact lrow_ok hL hB hi IH hK g hp kr_19_3b
      by_cases s2 : ¬ ((sd (pXs L xs) ρ (.arg 1384)).1 < (sd (pXs L xs) ρ (.int 16)).1)
      · have g : fok (pXs L xs) ρ (((2, .arg 1384, .int 16), false) :: ((0, .arg 18592, .int 3), false) :: ((0, .arg 18592, .int 0), false) :: ((0, scT 1, .int 3), true) :: ((2, .int 255, scT 3), false) :: ((2, scT 3, .int 0), false) :: ((2, .int 65535, scT 2), false) :: ((2, scT 2, .int 0), false) :: ((2, .int 3, scT 1), false) :: ((2, scT 1, .int 0), false) :: Fk 19) := ⟨hF.1, fcn (decide_eq_false s2) (fcn (decide_eq_false s1) (fcn (decide_eq_false s0) (fcn (decide_eq_true v) (fcn (decide_eq_false r5) (fcn (decide_eq_false r4) (fcn (decide_eq_false r3) (fcn (decide_eq_false r2) (fcn (decide_eq_false r1) (fcn (decide_eq_false r0) (hF.2))))))))))⟩
        exact lrow_ok hL hB hi IH hK g hp kr_19_3c
      have s2 := Classical.not_not.mp s2
      have g : fok (pXs L xs) ρ (((2, .arg 1384, .int 16), true) :: ((0, .arg 18592, .int 3), false) :: ((0, .arg 18592, .int 0), false) :: ((0, scT 1, .int 3), true) :: ((0, scT 5, .int 1), true) :: ((2, .int 255, scT 3), false) :: ((2, scT 3, .int 0), false) :: ((2, .int 65535, scT 2), false) :: ((2, scT 2, .int 0), false) :: ((2, .int 3, scT 1), false) :: ((2, scT 1, .int 0), false) :: Fk 19) := ⟨hF.1, fcn (decide_eq_true s2) (fcn (decide_eq_false s1) (fcn (decide_eq_false s0) (fcn (decide_eq_true v) (fcn (decide_eq_true z1) (fcn (decide_eq_false r5) (fcn (decide_eq_false r4) (fcn (decide_eq_false r3) (fcn (decide_eq_false r2) (fcn (decide_eq_false r1) (fcn (decide_eq_false r0) (hF.2)))))))))))⟩
      refine crow_ok hK g ka_w19_3_1 ?_
      have ag0 : agr 59000 (rset [(60016, (sd (pXs L xs) ρ (scT 2)).1), (60004, (sd (pXs L xs) ρ (scT 3)).1), (60032, (sd (pXs L xs) ρ (scT 4)).1)] ρ) ρ := rset_agr (fun p hp => by
        simp only [List.mem_cons, List.not_mem_nil, or_false] at hp
        rcases hp with rfl | rfl | rfl
        · show 59000 ≤ 60016; decide
        · show 59000 ≤ 60004; decide
        · show 59000 ≤ 60032; decide)
      have av0 : vok (pXs L xs) (rset [(60016, (sd (pXs L xs) ρ (scT 2)).1), (60004, (sd (pXs L xs) ρ (scT 3)).1), (60032, (sd (pXs L xs) ρ (scT 4)).1)] ρ) := rset_vok (fun p hp r hr => by
        simp only [List.mem_cons, List.not_mem_nil, or_false] at hp
        rcases hp with rfl | rfl | rfl
        · rw [show vrng 60016 = some (0, 65535) from rfl] at hr; cases hr; exact ⟨ge_i r2, le_i r3⟩
        · rw [show vrng 60004 = some (0, 255) from rfl] at hr; cases hr; exact ⟨ge_i r4, le_i r5⟩
        · rw [show vrng 60032 = none from rfl] at hr; cases hr) (fun p hp => by
        simp only [List.mem_cons, List.not_mem_nil, or_false] at hp
        rcases hp with rfl | rfl | rfl
        · show (60016 : Nat) % 2 = 0; decide
        · show (60004 : Nat) % 2 = 0; decide
        · show (60032 : Nat) % 2 = 0; decide) hF.1
      have ag := ag0
      have av := av0
      refine lgood (C := wideC c_set3_1) (t := 40 * (ρ.1 59744).toInt) (tq := 40 * (ρ.1 59744).toInt) (vt := [.arg 59808]) (FZ := fZ_w19) (nB := 300) (nC := 300) (SREL_w1 sT_set3_1 wk_c_set3_1) rfl (by decide +kernel) (hQ_I rfl rfl (by decide +kernel) kp_c_set3_1) rfl rfl rfl (by decide +kernel) rfl rfl rfl (by decide +kernel) ⟨1033, rfl⟩ rfl (fun w z => ⟨[], fM_w19, fun _ _ _ f hf => (by cases hf), kb_w19, kc_w19⟩) hL hB hi IH hF.1 (fun f hf => by cases hf) (by omega) ag (rset_kok hK) ⟨av, fcn (decide_eq_false s0) (fcn (decide_eq_false s1) (fcn (decide_eq_true s2) (fcn ((PT_ag ag hp).1.2.1 _ (fin1_ok (by decide +kernel))) (fcn ((PT_ag ag hp).1.2.1 _ (fin1_ok (by decide +kernel))) (fcn ((PT_ag ag hp).1.2.1 _ (fin1_ok (by decide +kernel))) (fcn ((PT_ag ag hp).1.2.1 _ (fin1_ok (by decide +kernel))) (fcn ((PT_ag ag hp).1.2.1 _ (fin1_ok (by decide +kernel))) (fcn ((PT_ag ag hp).1.2.1 _ (fin1_ok (by decide +kernel))) (fcn ((PT_ag ag hp).1.2.1 _ (fin1_ok (by decide +kernel))) (fcn ((PT_ag ag hp).1.2.1 _ (fin1_ok (by decide +kernel))) (fcn ((PT_ag ag hp).1.2.1 _ (fin1_ok (by decide +kernel))) (fcn ((PT_ag ag hp).1.2.1 _ (fin1_ok (by decide +kernel))) (fcn ((PT_ag ag hp).1.2.1 _ (fin1_ok (by decide +kernel))) (fcn ((PT_ag ag hp).1.2.1 _ (fin1_ok (by decide +kernel))) (fcn ((PT_ag ag hp).1.2.1 _ (fin1_ok (by decide +kernel))) (fcn ((PT_ag ag hp).1.2.1 _ (fin1_ok (by decide +kernel))) (fcn ((PT_ag ag hp).1.2.1 _ (fin1_ok (by decide +kernel))) (fcn ((PT_ag ag hp).1.2.1 _ (fin1_ok (by decide +kernel))) (fcn ((PT_ag ag hp).1.2.1 _ (fin1_ok (by decide +kernel))) (fcn ((PT_ag ag hp).1.2.1 _ (fin1_ok (by decide +kernel))) (fcn ((PT_ag ag hp).1.2.1 _ (fin1_ok (by decide +kernel))) (fcn ((PT_ag ag hp).1.2.1 _ (fin1_ok (by decide +kernel))) (fcn ((PT_ag ag hp).1.2.1 _ (fin1_ok (by decide +kernel))) (fcn ((PT_ag ag hp).1.2.1 _ (fin1_ok (by decide +kernel))) (fcn ((PT_ag ag hp).1.2.1 _ (fin1_ok (by decide +kernel))) (fcn ((PT_ag ag hp).1.2.1 _ (fin1_ok (by decide +kernel))) (fcn ((PT_ag ag hp).1.2.1 _ (fin1_ok (by decide +kernel))) ((fun f hf => by cases hf)))))))))))))))))))))))))))))⟩ (iok_S (L := im) (by decide +kernel) (PT_ag ag hp).1.2.2) (PT_ag ag hp) ?_ ?_
      · show [Value.ref 0, Value.int (3), Value.int _, Value.int _, Value.int _, Value.int (1)] = [Value.ref 0, sv (pXs L xs) ρ (scT 1), sv (pXs L xs) ρ (scT 2), sv (pXs L xs) ρ (scT 3), sv (pXs L xs) ρ (scT 4), sv (pXs L xs) ρ (scT 5)]
        rw [sv_int (t := scT 1) rfl, show (sd (pXs L xs) ρ (scT 1)).1 = 3 from v, sv_int (t := scT 2) rfl, sv_int (t := scT 3) rfl, sv_int (t := scT 4) rfl, sv_int (t := scT 5) rfl, show (sd (pXs L xs) ρ (scT 5)).1 = 1 from z1]
        rfl
      · show [Value.ref 219, Value.int (3), Value.int _, Value.int _, Value.int _, Value.int (1)] = [Value.ref 219, sv (pXs L xs) ρ (scT 1), sv (pXs L xs) ρ (scT 2), sv (pXs L xs) ρ (scT 3), sv (pXs L xs) ρ (scT 4), sv (pXs L xs) ρ (scT 5)]
        rw [sv_int (t := scT 1) rfl, show (sd (pXs L xs) ρ (scT 1)).1 = 3 from v, sv_int (t := scT 2) rfl, sv_int (t := scT 3) rfl, sv_int (t := scT 4) rfl, sv_int (t := scT 5) rfl, show (sd (pXs L xs) ρ (scT 5)).1 = 1 from z1]
        rfl
  by_cases z2 : (sd (pXs L xs) ρ (scT 5)).1 = (sd (pXs L xs) ρ (.int 2)).1
  · rcases (show ((sd (pXs L xs) ρ (scT 1)).1).toInt = 0 ∨ ((sd (pXs L xs) ρ (scT 1)).1).toInt = 1 ∨ ((sd (pXs L xs) ρ (scT 1)).1).toInt = 2 ∨ ((sd (pXs L xs) ρ (scT 1)).1).toInt = 3 by omega) with w | w | w | w
    · have v : (sd (pXs L xs) ρ (scT 1)).1 = 0 := Int32.toInt_inj.mp (by rw [w]; rfl)
      by_cases s0 : (sd (pXs L xs) ρ (.arg 18496)).1 = (sd (pXs L xs) ρ (.int 0)).1
      · have g : fok (pXs L xs) ρ (((0, .arg 18496, .int 0), true) :: ((0, scT 1, .int 0), true) :: ((2, .int 255, scT 3), false) :: ((2, scT 3, .int 0), false) :: ((2, .int 65535, scT 2), false) :: ((2, scT 2, .int 0), false) :: ((2, .int 3, scT 1), false) :: ((2, scT 1, .int 0), false) :: Fk 19) := ⟨hF.1, fcn (decide_eq_true s0) (fcn (decide_eq_true v) (fcn (decide_eq_false r5) (fcn (decide_eq_false r4) (fcn (decide_eq_false r3) (fcn (decide_eq_false r2) (fcn (decide_eq_false r1) (fcn (decide_eq_false r0) (hF.2))))))))⟩
        exact lrow_ok hL hB hi IH hK g hp kr_19_0a
      by_cases s1 : (sd (pXs L xs) ρ (.arg 18496)).1 = (sd (pXs L xs) ρ (.int 3)).1
      · have g : fok (pXs L xs) ρ (((0, .arg 18496, .int 3), true) :: ((0, .arg 18496, .int 0), false) :: ((0, scT 1, .int 0), true) :: ((2, .int 255, scT 3), false) :: ((2, scT 3, .int 0), false) :: ((2, .int 65535, scT 2), false) :: ((2, scT 2, .int 0), false) :: ((2, .int 3, scT 1), false) :: ((2, scT 1, .int 0), false) :: Fk 19) := ⟨hF.1, fcn (decide_eq_true s1) (fcn (decide_eq_false s0) (fcn (decide_eq_true v) (fcn (decide_eq_false r5) (fcn (decide_eq_false r4) (fcn (decide_eq_false r3) (fcn (decide_eq_false r2) (fcn (decide_eq_false r1) (fcn (decide_eq_false r0) (hF.2)))))))))⟩
        exact lrow_ok hL hB hi IH hK g hp kr_19_0b
      by_cases s2 : ¬ ((sd (pXs L xs) ρ (.arg 1288)).1 < (sd (pXs L xs) ρ (.int 16)).1)
      · have g : fok (pXs L xs) ρ (((2, .arg 1288, .int 16), false) :: ((0, .arg 18496, .int 3), false) :: ((0, .arg 18496, .int 0), false) :: ((0, scT 1, .int 0), true) :: ((2, .int 255, scT 3), false) :: ((2, scT 3, .int 0), false) :: ((2, .int 65535, scT 2), false) :: ((2, scT 2, .int 0), false) :: ((2, .int 3, scT 1), false) :: ((2, scT 1, .int 0), false) :: Fk 19) := ⟨hF.1, fcn (decide_eq_false s2) (fcn (decide_eq_false s1) (fcn (decide_eq_false s0) (fcn (decide_eq_true v) (fcn (decide_eq_false r5) (fcn (decide_eq_false r4) (fcn (decide_eq_false r3) (fcn (decide_eq_false r2) (fcn (decide_eq_false r1) (fcn (decide_eq_false r0) (hF.2))))))))))⟩
        exact lrow_ok hL hB hi IH hK g hp kr_19_0c
      have s2 := Classical.not_not.mp s2
      have g : fok (pXs L xs) ρ (((2, .arg 1288, .int 16), true) :: ((0, .arg 18496, .int 3), false) :: ((0, .arg 18496, .int 0), false) :: ((0, scT 1, .int 0), true) :: ((0, scT 5, .int 2), true) :: ((2, .int 255, scT 3), false) :: ((2, scT 3, .int 0), false) :: ((2, .int 65535, scT 2), false) :: ((2, scT 2, .int 0), false) :: ((2, .int 3, scT 1), false) :: ((2, scT 1, .int 0), false) :: Fk 19) := ⟨hF.1, fcn (decide_eq_true s2) (fcn (decide_eq_false s1) (fcn (decide_eq_false s0) (fcn (decide_eq_true v) (fcn (decide_eq_true z2) (fcn (decide_eq_false r5) (fcn (decide_eq_false r4) (fcn (decide_eq_false r3) (fcn (decide_eq_false r2) (fcn (decide_eq_false r1) (fcn (decide_eq_false r0) (hF.2)))))))))))⟩
      refine crow_ok hK g ka_w19_0_2 ?_
      have ag0 : agr 59000 (rset [(60016, (sd (pXs L xs) ρ (scT 2)).1), (60004, (sd (pXs L xs) ρ (scT 3)).1), (60032, (sd (pXs L xs) ρ (scT 4)).1)] ρ) ρ := rset_agr (fun p hp => by
        simp only [List.mem_cons, List.not_mem_nil, or_false] at hp
        rcases hp with rfl | rfl | rfl
        · show 59000 ≤ 60016; decide
        · show 59000 ≤ 60004; decide
        · show 59000 ≤ 60032; decide)
      have av0 : vok (pXs L xs) (rset [(60016, (sd (pXs L xs) ρ (scT 2)).1), (60004, (sd (pXs L xs) ρ (scT 3)).1), (60032, (sd (pXs L xs) ρ (scT 4)).1)] ρ) := rset_vok (fun p hp r hr => by
        simp only [List.mem_cons, List.not_mem_nil, or_false] at hp
        rcases hp with rfl | rfl | rfl
        · rw [show vrng 60016 = some (0, 65535) from rfl] at hr; cases hr; exact ⟨ge_i r2, le_i r3⟩
        · rw [show vrng 60004 = some (0, 255) from rfl] at hr; cases hr; exact ⟨ge_i r4, le_i r5⟩
        · rw [show vrng 60032 = none from rfl] at hr; cases hr) (fun p hp => by
        simp only [List.mem_cons, List.not_mem_nil, or_false] at hp
        rcases hp with rfl | rfl | rfl
        · show (60016 : Nat) % 2 = 0; decide
        · show (60004 : Nat) % 2 = 0; decide
        · show (60032 : Nat) % 2 = 0; decide) hF.1
      have ag := ag0
      have av := av0
      refine lgood (C := wideC c_set0_2) (t := 40 * (ρ.1 59744).toInt) (tq := 40 * (ρ.1 59744).toInt) (vt := [.arg 59808]) (FZ := fZ_w19) (nB := 300) (nC := 300) (SREL_w1 sT_set0_2 wk_c_set0_2) rfl (by decide +kernel) (hQ_I rfl rfl (by decide +kernel) kp_c_set0_2) rfl rfl rfl (by decide +kernel) rfl rfl rfl (by decide +kernel) ⟨1033, rfl⟩ rfl (fun w z => ⟨[], fM_w19, fun _ _ _ f hf => (by cases hf), kb_w19, kc_w19⟩) hL hB hi IH hF.1 (fun f hf => by cases hf) (by omega) ag (rset_kok hK) ⟨av, fcn (decide_eq_false s0) (fcn (decide_eq_false s1) (fcn (decide_eq_true s2) (fcn ((PT_ag ag hp).1.2.1 _ (fin1_ok (by decide +kernel))) (fcn ((PT_ag ag hp).1.2.1 _ (fin1_ok (by decide +kernel))) (fcn ((PT_ag ag hp).1.2.1 _ (fin1_ok (by decide +kernel))) (fcn ((PT_ag ag hp).1.2.1 _ (fin1_ok (by decide +kernel))) (fcn ((PT_ag ag hp).1.2.1 _ (fin1_ok (by decide +kernel))) (fcn ((PT_ag ag hp).1.2.1 _ (fin1_ok (by decide +kernel))) (fcn ((PT_ag ag hp).1.2.1 _ (fin1_ok (by decide +kernel))) (fcn ((PT_ag ag hp).1.2.1 _ (fin1_ok (by decide +kernel))) (fcn ((PT_ag ag hp).1.2.1 _ (fin1_ok (by decide +kernel))) (fcn ((PT_ag ag hp).1.2.1 _ (fin1_ok (by decide +kernel))) (fcn ((PT_ag ag hp).1.2.1 _ (fin1_ok (by decide +kernel))) (fcn ((PT_ag ag hp).1.2.1 _ (fin1_ok (by decide +kernel))) (fcn ((PT_ag ag hp).1.2.1 _ (fin1_ok (by decide +kernel))) (fcn ((PT_ag ag hp).1.2.1 _ (fin1_ok (by decide +kernel))) (fcn ((PT_ag ag hp).1.2.1 _ (fin1_ok (by decide +kernel))) (fcn ((PT_ag ag hp).1.2.1 _ (fin1_ok (by decide +kernel))) (fcn ((PT_ag ag hp).1.2.1 _ (fin1_ok (by decide +kernel))) (fcn ((PT_ag ag hp).1.2.1 _ (fin1_ok (by decide +kernel))) (fcn ((PT_ag ag hp).1.2.1 _ (fin1_ok (by decide +kernel))) (fcn ((PT_ag ag hp).1.2.1 _ (fin1_ok (by decide +kernel))) (fcn ((PT_ag ag hp).1.2.1 _ (fin1_ok (by decide +kernel))) (fcn ((PT_ag ag hp).1.2.1 _ (fin1_ok (by decide +kernel))) (fcn ((PT_ag ag hp).1.2.1 _ (fin1_ok (by decide +kernel))) (fcn ((PT_ag ag hp).1.2.1 _ (fin1_ok (by decide +kernel))) (fcn ((PT_ag ag hp).1.2.1 _ (fin1_ok (by decide +kernel))) ((fun f hf => by cases hf)))))))))))))))))))))))))))))⟩ (iok_S (L := im) (by decide +kernel) (PT_ag ag hp).1.2.2) (PT_ag ag hp) ?_ ?_
      · show [Value.ref 0, Value.int (0), Value.int _, Value.int _, Value.int _, Value.int (2)] = [Value.ref 0, sv (pXs L xs) ρ (scT 1), sv (pXs L xs) ρ (scT 2), sv (pXs L xs) ρ (scT 3), sv (pXs L xs) ρ (scT 4), sv (pXs L xs) ρ (scT 5)]
        rw [sv_int (t := scT 1) rfl, show (sd (pXs L xs) ρ (scT 1)).1 = 0 from v, sv_int (t := scT 2) rfl, sv_int (t := scT 3) rfl, sv_int (t := scT 4) rfl, sv_int (t := scT 5) rfl, show (sd (pXs L xs) ρ (scT 5)).1 = 2 from z2]
        rfl
      · show [Value.ref 219, Value.int (0), Value.int _, Value.int _, Value.int _, Value.int (2)] = [Value.ref 219, sv (pXs L xs) ρ (scT 1), sv (pXs L xs) ρ (scT 2), sv (pXs L xs) ρ (scT 3), sv (pXs L xs) ρ (scT 4), sv (pXs L xs) ρ (scT 5)]
        rw [sv_int (t := scT 1) rfl, show (sd (pXs L xs) ρ (scT 1)).1 = 0 from v, sv_int (t := scT 2) rfl, sv_int (t := scT 3) rfl, sv_int (t := scT 4) rfl, sv_int (t := scT 5) rfl, show (sd (pXs L xs) ρ (scT 5)).1 = 2 from z2]
        rfl
    · have v : (sd (pXs L xs) ρ (scT 1)).1 = 1 := Int32.toInt_inj.mp (by rw [w]; rfl)
      by_cases s0 : (sd (pXs L xs) ρ (.arg 18528)).1 = (sd (pXs L xs) ρ (.int 0)).1
      · have g : fok (pXs L xs) ρ (((0, .arg 18528, .int 0), true) :: ((0, scT 1, .int 1), true) :: ((2, .int 255, scT 3), false) :: ((2, scT 3, .int 0), false) :: ((2, .int 65535, scT 2), false) :: ((2, scT 2, .int 0), false) :: ((2, .int 3, scT 1), false) :: ((2, scT 1, .int 0), false) :: Fk 19) := ⟨hF.1, fcn (decide_eq_true s0) (fcn (decide_eq_true v) (fcn (decide_eq_false r5) (fcn (decide_eq_false r4) (fcn (decide_eq_false r3) (fcn (decide_eq_false r2) (fcn (decide_eq_false r1) (fcn (decide_eq_false r0) (hF.2))))))))⟩
        exact lrow_ok hL hB hi IH hK g hp kr_19_1a
      by_cases s1 : (sd (pXs L xs) ρ (.arg 18528)).1 = (sd (pXs L xs) ρ (.int 3)).1
      · have g : fok (pXs L xs) ρ (((0, .arg 18528, .int 3), true) :: ((0, .arg 18528, .int 0), false) :: ((0, scT 1, .int 1), true) :: ((2, .int 255, scT 3), false) :: ((2, scT 3, .int 0), false) :: ((2, .int 65535, scT 2), false) :: ((2, scT 2, .int 0), false) :: ((2, .int 3, scT 1), false) :: ((2, scT 1, .int 0), false) :: Fk 19) := ⟨hF.1, fcn (decide_eq_true s1) (fcn (decide_eq_false s0) (fcn (decide_eq_true v) (fcn (decide_eq_false r5) (fcn (decide_eq_false r4) (fcn (decide_eq_false r3) (fcn (decide_eq_false r2) (fcn (decide_eq_false r1) (fcn (decide_eq_false r0) (hF.2)))))))))⟩
        exact lrow_ok hL hB hi IH hK g hp kr_19_1b
      by_cases s2 : ¬ ((sd (pXs L xs) ρ (.arg 1320)).1 < (sd (pXs L xs) ρ (.int 16)).1)
      · have g : fok (pXs L xs) ρ (((2, .arg 1320, .int 16), false) :: ((0, .arg 18528, .int 3), false) :: ((0, .arg 18528, .int 0), false) :: ((0, scT 1, .int 1), true) :: ((2, .int 255, scT 3), false) :: ((2, scT 3, .int 0), false) :: ((2, .int 65535, scT 2), false) :: ((2, scT 2, .int 0), false) :: ((2, .int 3, scT 1), false) :: ((2, scT 1, .int 0), false) :: Fk 19) := ⟨hF.1, fcn (decide_eq_false s2) (fcn (decide_eq_false s1) (fcn (decide_eq_false s0) (fcn (decide_eq_true v) (fcn (decide_eq_false r5) (fcn (decide_eq_false r4) (fcn (decide_eq_false r3) (fcn (decide_eq_false r2) (fcn (decide_eq_false r1) (fcn (decide_eq_false r0) (hF.2))))))))))⟩
        exact lrow_ok hL hB hi IH hK g hp kr_19_1c
      have s2 := Classical.not_not.mp s2
      have g : fok (pXs L xs) ρ (((2, .arg 1320, .int 16), true) :: ((0, .arg 18528, .int 3), false) :: ((0, .arg 18528, .int 0), false) :: ((0, scT 1, .int 1), true) :: ((0, scT 5, .int 2), true) :: ((2, .int 255, scT 3), false) :: ((2, scT 3, .int 0), false) :: ((2, .int 65535, scT 2), false) :: ((2, scT 2, .int 0), false) :: ((2, .int 3, scT 1), false) :: ((2, scT 1, .int 0), false) :: Fk 19) := ⟨hF.1, fcn (decide_eq_true s2) (fcn (decide_eq_false s1) (fcn (decide_eq_false s0) (fcn (decide_eq_true v) (fcn (decide_eq_true z2) (fcn (decide_eq_false r5) (fcn (decide_eq_false r4) (fcn (decide_eq_false r3) (fcn (decide_eq_false r2) (fcn (decide_eq_false r1) (fcn (decide_eq_false r0) (hF.2)))))))))))⟩
      refine crow_ok hK g ka_w19_1_2 ?_
      have ag0 : agr 59000 (rset [(60016, (sd (pXs L xs) ρ (scT 2)).1), (60004, (sd (pXs L xs) ρ (scT 3)).1), (60032, (sd (pXs L xs) ρ (scT 4)).1)] ρ) ρ := rset_agr (fun p hp => by
        simp only [List.mem_cons, List.not_mem_nil, or_false] at hp
        rcases hp with rfl | rfl | rfl
        · show 59000 ≤ 60016; decide
        · show 59000 ≤ 60004; decide
        · show 59000 ≤ 60032; decide)
      have av0 : vok (pXs L xs) (rset [(60016, (sd (pXs L xs) ρ (scT 2)).1), (60004, (sd (pXs L xs) ρ (scT 3)).1), (60032, (sd (pXs L xs) ρ (scT 4)).1)] ρ) := rset_vok (fun p hp r hr => by
        simp only [List.mem_cons, List.not_mem_nil, or_false] at hp
        rcases hp with rfl | rfl | rfl
        · rw [show vrng 60016 = some (0, 65535) from rfl] at hr; cases hr; exact ⟨ge_i r2, le_i r3⟩
        · rw [show vrng 60004 = some (0, 255) from rfl] at hr; cases hr; exact ⟨ge_i r4, le_i r5⟩
        · rw [show vrng 60032 = none from rfl] at hr; cases hr) (fun p hp => by
        simp only [List.mem_cons, List.not_mem_nil, or_false] at hp
        rcases hp with rfl | rfl | rfl
        · show (60016 : Nat) % 2 = 0; decide
        · show (60004 : Nat) % 2 = 0; decide
        · show (60032 : Nat) % 2 = 0; decide) hF.1
      have ag := ag0
      have av := av0
      refine lgood (C := wideC c_set1_2) (t := 40 * (ρ.1 59744).toInt) (tq := 40 * (ρ.1 59744).toInt) (vt := [.arg 59808]) (FZ := fZ_w19) (nB := 300) (nC := 300) (SREL_w1 sT_set1_2 wk_c_set1_2) rfl (by decide +kernel) (hQ_I rfl rfl (by decide +kernel) kp_c_set1_2) rfl rfl rfl (by decide +kernel) rfl rfl rfl (by decide +kernel) ⟨1033, rfl⟩ rfl (fun w z => ⟨[], fM_w19, fun _ _ _ f hf => (by cases hf), kb_w19, kc_w19⟩) hL hB hi IH hF.1 (fun f hf => by cases hf) (by omega) ag (rset_kok hK) ⟨av, fcn (decide_eq_false s0) (fcn (decide_eq_false s1) (fcn (decide_eq_true s2) (fcn ((PT_ag ag hp).1.2.1 _ (fin1_ok (by decide +kernel))) (fcn ((PT_ag ag hp).1.2.1 _ (fin1_ok (by decide +kernel))) (fcn ((PT_ag ag hp).1.2.1 _ (fin1_ok (by decide +kernel))) (fcn ((PT_ag ag hp).1.2.1 _ (fin1_ok (by decide +kernel))) (fcn ((PT_ag ag hp).1.2.1 _ (fin1_ok (by decide +kernel))) (fcn ((PT_ag ag hp).1.2.1 _ (fin1_ok (by decide +kernel))) (fcn ((PT_ag ag hp).1.2.1 _ (fin1_ok (by decide +kernel))) (fcn ((PT_ag ag hp).1.2.1 _ (fin1_ok (by decide +kernel))) (fcn ((PT_ag ag hp).1.2.1 _ (fin1_ok (by decide +kernel))) (fcn ((PT_ag ag hp).1.2.1 _ (fin1_ok (by decide +kernel))) (fcn ((PT_ag ag hp).1.2.1 _ (fin1_ok (by decide +kernel))) (fcn ((PT_ag ag hp).1.2.1 _ (fin1_ok (by decide +kernel))) (fcn ((PT_ag ag hp).1.2.1 _ (fin1_ok (by decide +kernel))) (fcn ((PT_ag ag hp).1.2.1 _ (fin1_ok (by decide +kernel))) (fcn ((PT_ag ag hp).1.2.1 _ (fin1_ok (by decide +kernel))) (fcn ((PT_ag ag hp).1.2.1 _ (fin1_ok (by decide +kernel))) (fcn ((PT_ag ag hp).1.2.1 _ (fin1_ok (by decide +kernel))) (fcn ((PT_ag ag hp).1.2.1 _ (fin1_ok (by decide +kernel))) (fcn ((PT_ag ag hp).1.2.1 _ (fin1_ok (by decide +kernel))) (fcn ((PT_ag ag hp).1.2.1 _ (fin1_ok (by decide +kernel))) (fcn ((PT_ag ag hp).1.2.1 _ (fin1_ok (by decide +kernel))) (fcn ((PT_ag ag hp).1.2.1 _ (fin1_ok (by decide +kernel))) (fcn ((PT_ag ag hp).1.2.1 _ (fin1_ok (by decide +kernel))) (fcn ((PT_ag ag hp).1.2.1 _ (fin1_ok (by decide +kernel))) (fcn ((PT_ag ag hp).1.2.1 _ (fin1_ok (by decide +kernel))) ((fun f hf => by cases hf)))))))))))))))))))))))))))))⟩ (iok_S (L := im) (by decide +kernel) (PT_ag ag hp).1.2.2) (PT_ag ag hp) ?_ ?_
      · show [Value.ref 0, Value.int (1), Value.int _, Value.int _, Value.int _, Value.int (2)] = [Value.ref 0, sv (pXs L xs) ρ (scT 1), sv (pXs L xs) ρ (scT 2), sv (pXs L xs) ρ (scT 3), sv (pXs L xs) ρ (scT 4), sv (pXs L xs) ρ (scT 5)]
        rw [sv_int (t := scT 1) rfl, show (sd (pXs L xs) ρ (scT 1)).1 = 1 from v, sv_int (t := scT 2) rfl, sv_int (t := scT 3) rfl, sv_int (t := scT 4) rfl, sv_int (t := scT 5) rfl, show (sd (pXs L xs) ρ (scT 5)).1 = 2 from z2]
        rfl
      · show [Value.ref 219, Value.int (1), Value.int _, Value.int _, Value.int _, Value.int (2)] = [Value.ref 219, sv (pXs L xs) ρ (scT 1), sv (pXs L xs) ρ (scT 2), sv (pXs L xs) ρ (scT 3), sv (pXs L xs) ρ (scT 4), sv (pXs L xs) ρ (scT 5)]
        rw [sv_int (t := scT 1) rfl, show (sd (pXs L xs) ρ (scT 1)).1 = 1 from v, sv_int (t := scT 2) rfl, sv_int (t := scT 3) rfl, sv_int (t := scT 4) rfl, sv_int (t := scT 5) rfl, show (sd (pXs L xs) ρ (scT 5)).1 = 2 from z2]
        rfl
    · have v : (sd (pXs L xs) ρ (scT 1)).1 = 2 := Int32.toInt_inj.mp (by rw [w]; rfl)
      by_cases s0 : (sd (pXs L xs) ρ (.arg 18560)).1 = (sd (pXs L xs) ρ (.int 0)).1
      · have g : fok (pXs L xs) ρ (((0, .arg 18560, .int 0), true) :: ((0, scT 1, .int 2), true) :: ((2, .int 255, scT 3), false) :: ((2, scT 3, .int 0), false) :: ((2, .int 65535, scT 2), false) :: ((2, scT 2, .int 0), false) :: ((2, .int 3, scT 1), false) :: ((2, scT 1, .int 0), false) :: Fk 19) := ⟨hF.1, fcn (decide_eq_true s0) (fcn (decide_eq_true v) (fcn (decide_eq_false r5) (fcn (decide_eq_false r4) (fcn (decide_eq_false r3) (fcn (decide_eq_false r2) (fcn (decide_eq_false r1) (fcn (decide_eq_false r0) (hF.2))))))))⟩
        exact lrow_ok hL hB hi IH hK g hp kr_19_2a
      by_cases s1 : (sd (pXs L xs) ρ (.arg 18560)).1 = (sd (pXs L xs) ρ (.int 3)).1
      · have g : fok (pXs L xs) ρ (((0, .arg 18560, .int 3), true) :: ((0, .arg 18560, .int 0), false) :: ((0, scT 1, .int 2), true) :: ((2, .int 255, scT 3), false) :: ((2, scT 3, .int 0), false) :: ((2, .int 65535, scT 2), false) :: ((2, scT 2, .int 0), false) :: ((2, .int 3, scT 1), false) :: ((2, scT 1, .int 0), false) :: Fk 19) := ⟨hF.1, fcn (decide_eq_true s1) (fcn (decide_eq_false s0) (fcn (decide_eq_true v) (fcn (decide_eq_false r5) (fcn (decide_eq_false r4) (fcn (decide_eq_false r3) (fcn (decide_eq_false r2) (fcn (decide_eq_false r1) (fcn (decide_eq_false r0) (hF.2)))))))))⟩
        exact lrow_ok hL hB hi IH hK g hp kr_19_2b
      by_cases s2 : ¬ ((sd (pXs L xs) ρ (.arg 1352)).1 < (sd (pXs L xs) ρ (.int 16)).1)
      · have g : fok (pXs L xs) ρ (((2, .arg 1352, .int 16), false) :: ((0, .arg 18560, .int 3), false) :: ((0, .arg 18560, .int 0), false) :: ((0, scT 1, .int 2), true) :: ((2, .int 255, scT 3), false) :: ((2, scT 3, .int 0), false) :: ((2, .int 65535, scT 2), false) :: ((2, scT 2, .int 0), false) :: ((2, .int 3, scT 1), false) :: ((2, scT 1, .int 0), false) :: Fk 19) := ⟨hF.1, fcn (decide_eq_false s2) (fcn (decide_eq_false s1) (fcn (decide_eq_false s0) (fcn (decide_eq_true v) (fcn (decide_eq_false r5) (fcn (decide_eq_false r4) (fcn (decide_eq_false r3) (fcn (decide_eq_false r2) (fcn (decide_eq_false r1) (fcn (decide_eq_false r0) (hF.2))))))))))⟩
        exact lrow_ok hL hB hi IH hK g hp kr_19_2c
      have s2 := Classical.not_not.mp s2
      have g : fok (pXs L xs) ρ (((2, .arg 1352, .int 16), true) :: ((0, .arg 18560, .int 3), false) :: ((0, .arg 18560, .int 0), false) :: ((0, scT 1, .int 2), true) :: ((0, scT 5, .int 2), true) :: ((2, .int 255, scT 3), false) :: ((2, scT 3, .int 0), false) :: ((2, .int 65535, scT 2), false) :: ((2, scT 2, .int 0), false) :: ((2, .int 3, scT 1), false) :: ((2, scT 1, .int 0), false) :: Fk 19) := ⟨hF.1, fcn (decide_eq_true s2) (fcn (decide_eq_false s1) (fcn (decide_eq_false s0) (fcn (decide_eq_true v) (fcn (decide_eq_true z2) (fcn (decide_eq_false r5) (fcn (decide_eq_false r4) (fcn (decide_eq_false r3) (fcn (decide_eq_false r2) (fcn (decide_eq_false r1) (fcn (decide_eq_false r0) (hF.2)))))))))))⟩
      refine crow_ok hK g ka_w19_2_2 ?_
      have ag0 : agr 59000 (rset [(60016, (sd (pXs L xs) ρ (scT 2)).1), (60004, (sd (pXs L xs) ρ (scT 3)).1), (60032, (sd (pXs L xs) ρ (scT 4)).1)] ρ) ρ := rset_agr (fun p hp => by
        simp only [List.mem_cons, List.not_mem_nil, or_false] at hp
        rcases hp with rfl | rfl | rfl
        · show 59000 ≤ 60016; decide
        · show 59000 ≤ 60004; decide
        · show 59000 ≤ 60032; decide)
      have av0 : vok (pXs L xs) (rset [(60016, (sd (pXs L xs) ρ (scT 2)).1), (60004, (sd (pXs L xs) ρ (scT 3)).1), (60032, (sd (pXs L xs) ρ (scT 4)).1)] ρ) := rset_vok (fun p hp r hr => by
        simp only [List.mem_cons, List.not_mem_nil, or_false] at hp
        rcases hp with rfl | rfl | rfl
        · rw [show vrng 60016 = some (0, 65535) from rfl] at hr; cases hr; exact ⟨ge_i r2, le_i r3⟩
        · rw [show vrng 60004 = some (0, 255) from rfl] at hr; cases hr; exact ⟨ge_i r4, le_i r5⟩
        · rw [show vrng 60032 = none from rfl] at hr; cases hr) (fun p hp => by
        simp only [List.mem_cons, List.not_mem_nil, or_false] at hp
        rcases hp with rfl | rfl | rfl
        · show (60016 : Nat) % 2 = 0; decide
        · show (60004 : Nat) % 2 = 0; decide
        · show (60032 : Nat) % 2 = 0; decide) hF.1
      have ag := ag0
      have av := av0
      refine lgood (C := wideC c_set2_2) (t := 40 * (ρ.1 59744).toInt) (tq := 40 * (ρ.1 59744).toInt) (vt := [.arg 59808]) (FZ := fZ_w19) (nB := 300) (nC := 300) (SREL_w1 sT_set2_2 wk_c_set2_2) rfl (by decide +kernel) (hQ_I rfl rfl (by decide +kernel) kp_c_set2_2) rfl rfl rfl (by decide +kernel) rfl rfl rfl (by decide +kernel) ⟨1033, rfl⟩ rfl (fun w z => ⟨[], fM_w19, fun _ _ _ f hf => (by cases hf), kb_w19, kc_w19⟩) hL hB hi IH hF.1 (fun f hf => by cases hf) (by omega) ag (rset_kok hK) ⟨av, fcn (decide_eq_false s0) (fcn (decide_eq_false s1) (fcn (decide_eq_true s2) (fcn ((PT_ag ag hp).1.2.1 _ (fin1_ok (by decide +kernel))) (fcn ((PT_ag ag hp).1.2.1 _ (fin1_ok (by decide +kernel))) (fcn ((PT_ag ag hp).1.2.1 _ (fin1_ok (by decide +kernel))) (fcn ((PT_ag ag hp).1.2.1 _ (fin1_ok (by decide +kernel))) (fcn ((PT_ag ag hp).1.2.1 _ (fin1_ok (by decide +kernel))) (fcn ((PT_ag ag hp).1.2.1 _ (fin1_ok (by decide +kernel))) (fcn ((PT_ag ag hp).1.2.1 _ (fin1_ok (by decide +kernel))) (fcn ((PT_ag ag hp).1.2.1 _ (fin1_ok (by decide +kernel))) (fcn ((PT_ag ag hp).1.2.1 _ (fin1_ok (by decide +kernel))) (fcn ((PT_ag ag hp).1.2.1 _ (fin1_ok (by decide +kernel))) (fcn ((PT_ag ag hp).1.2.1 _ (fin1_ok (by decide +kernel))) (fcn ((PT_ag ag hp).1.2.1 _ (fin1_ok (by decide +kernel))) (fcn ((PT_ag ag hp).1.2.1 _ (fin1_ok (by decide +kernel))) (fcn ((PT_ag ag hp).1.2.1 _ (fin1_ok (by decide +kernel))) (fcn ((PT_ag ag hp).1.2.1 _ (fin1_ok (by decide +kernel))) (fcn ((PT_ag ag hp).1.2.1 _ (fin1_ok (by decide +kernel))) (fcn ((PT_ag ag hp).1.2.1 _ (fin1_ok (by decide +kernel))) (fcn ((PT_ag ag hp).1.2.1 _ (fin1_ok (by decide +kernel))) (fcn ((PT_ag ag hp).1.2.1 _ (fin1_ok (by decide +kernel))) (fcn ((PT_ag ag hp).1.2.1 _ (fin1_ok (by decide +kernel))) (fcn ((PT_ag ag hp).1.2.1 _ (fin1_ok (by decide +kernel))) (fcn ((PT_ag ag hp).1.2.1 _ (fin1_ok (by decide +kernel))) (fcn ((PT_ag ag hp).1.2.1 _ (fin1_ok (by decide +kernel))) (fcn ((PT_ag ag hp).1.2.1 _ (fin1_ok (by decide +kernel))) (fcn ((PT_ag ag hp).1.2.1 _ (fin1_ok (by decide +kernel))) ((fun f hf => by cases hf)))))))))))))))))))))))))))))⟩ (iok_S (L := im) (by decide +kernel) (PT_ag ag hp).1.2.2) (PT_ag ag hp) ?_ ?_
      · show [Value.ref 0, Value.int (2), Value.int _, Value.int _, Value.int _, Value.int (2)] = [Value.ref 0, sv (pXs L xs) ρ (scT 1), sv (pXs L xs) ρ (scT 2), sv (pXs L xs) ρ (scT 3), sv (pXs L xs) ρ (scT 4), sv (pXs L xs) ρ (scT 5)]
        rw [sv_int (t := scT 1) rfl, show (sd (pXs L xs) ρ (scT 1)).1 = 2 from v, sv_int (t := scT 2) rfl, sv_int (t := scT 3) rfl, sv_int (t := scT 4) rfl, sv_int (t := scT 5) rfl, show (sd (pXs L xs) ρ (scT 5)).1 = 2 from z2]
        rfl
      · show [Value.ref 219, Value.int (2), Value.int _, Value.int _, Value.int _, Value.int (2)] = [Value.ref 219, sv (pXs L xs) ρ (scT 1), sv (pXs L xs) ρ (scT 2), sv (pXs L xs) ρ (scT 3), sv (pXs L xs) ρ (scT 4), sv (pXs L xs) ρ (scT 5)]
        rw [sv_int (t := scT 1) rfl, show (sd (pXs L xs) ρ (scT 1)).1 = 2 from v, sv_int (t := scT 2) rfl, sv_int (t := scT 3) rfl, sv_int (t := scT 4) rfl, sv_int (t := scT 5) rfl, show (sd (pXs L xs) ρ (scT 5)).1 = 2 from z2]
        rfl
    · have v : (sd (pXs L xs) ρ (scT 1)).1 = 3 := Int32.toInt_inj.mp (by rw [w]; rfl)
      by_cases s0 : (sd (pXs L xs) ρ (.arg 18592)).1 = (sd (pXs L xs) ρ (.int 0)).1
      · have g : fok (pXs L xs) ρ (((0, .arg 18592, .int 0), true) :: ((0, scT 1, .int 3), true) :: ((2, .int 255, scT 3), false) :: ((2, scT 3, .int 0), false) :: ((2, .int 65535, scT 2), false) :: ((2, scT 2, .int 0), false) :: ((2, .int 3, scT 1), false) :: ((2, scT 1, .int 0), false) :: Fk 19) := ⟨hF.1, fcn (decide_eq_true s0) (fcn (decide_eq_true v) (fcn (decide_eq_false r5) (fcn (decide_eq_false r4) (fcn (decide_eq_false r3) (fcn (decide_eq_false r2) (fcn (decide_eq_false r1) (fcn (decide_eq_false r0) (hF.2))))))))⟩
        exact lrow_ok hL hB hi IH hK g hp kr_19_3a
      by_cases s1 : (sd (pXs L xs) ρ (.arg 18592)).1 = (sd (pXs L xs) ρ (.int 3)).1
      · have g : fok (pXs L xs) ρ (((0, .arg 18592, .int 3), true) :: ((0, .arg 18592, .int 0), false) :: ((0, scT 1, .int 3), true) :: ((2, .int 255, scT 3), false) :: ((2, scT 3, .int 0), false) :: ((2, .int 65535, scT 2), false) :: ((2, scT 2, .int 0), false) :: ((2, .int 3, scT 1), false) :: ((2, scT 1, .int 0), false) :: Fk 19) := ⟨hF.1, fcn (decide_eq_true s1) (fcn (decide_eq_false s0) (fcn (decide_eq_true v) (fcn (decide_eq_false r5) (fcn (decide_eq_false r4) (fcn (decide_eq_false r3) (fcn (decide_eq_false r2) (fcn (decide_eq_false r1) (fcn (decide_eq_false r0) (hF.2)))))))))⟩
        exact lrow_ok hL hB hi IH hK g hp kr_19_3b
      by_cases s2 : ¬ ((sd (pXs L xs) ρ (.arg 1384)).1 < (sd (pXs L xs) ρ (.int 16)).1)
      · have g : fok (pXs L xs) ρ (((2, .arg 1384, .int 16), false) :: ((0, .arg 18592, .int 3), false) :: ((0, .arg 18592, .int 0), false) :: ((0, scT 1, .int 3), true) :: ((2, .int 255, scT 3), false) :: ((2, scT 3, .int 0), false) :: ((2, .int 65535, scT 2), false) :: ((2, scT 2, .int 0), false) :: ((2, .int 3, scT 1), false) :: ((2, scT 1, .int 0), false) :: Fk 19) := ⟨hF.1, fcn (decide_eq_false s2) (fcn (decide_eq_false s1) (fcn (decide_eq_false s0) (fcn (decide_eq_true v) (fcn (decide_eq_false r5) (fcn (decide_eq_false r4) (fcn (decide_eq_false r3) (fcn (decide_eq_false r2) (fcn (decide_eq_false r1) (fcn (decide_eq_false r0) (hF.2))))))))))⟩
        exact lrow_ok hL hB hi IH hK g hp kr_19_3c
      have s2 := Classical.not_not.mp s2
      have g : fok (pXs L xs) ρ (((2, .arg 1384, .int 16), true) :: ((0, .arg 18592, .int 3), false) :: ((0, .arg 18592, .int 0), false) :: ((0, scT 1, .int 3), true) :: ((0, scT 5, .int 2), true) :: ((2, .int 255, scT 3), false) :: ((2, scT 3, .int 0), false) :: ((2, .int 65535, scT 2), false) :: ((2, scT 2, .int 0), false) :: ((2, .int 3, scT 1), false) :: ((2, scT 1, .int 0), false) :: Fk 19) := ⟨hF.1, fcn (decide_eq_true s2) (fcn (decide_eq_false s1) (fcn (decide_eq_false s0) (fcn (decide_eq_true v) (fcn (decide_eq_true z2) (fcn (decide_eq_false r5) (fcn (decide_eq_false r4) (fcn (decide_eq_false r3) (fcn (decide_eq_false r2) (fcn (decide_eq_false r1) (fcn (decide_eq_false r0) (hF.2)))))))))))⟩
      refine crow_ok hK g ka_w19_3_2 ?_
      have ag0 : agr 59000 (rset [(60016, (sd (pXs L xs) ρ (scT 2)).1), (60004, (sd (pXs L xs) ρ (scT 3)).1), (60032, (sd (pXs L xs) ρ (scT 4)).1)] ρ) ρ := rset_agr (fun p hp => by
        simp only [List.mem_cons, List.not_mem_nil, or_false] at hp
        rcases hp with rfl | rfl | rfl
        · show 59000 ≤ 60016; decide
        · show 59000 ≤ 60004; decide
        · show 59000 ≤ 60032; decide)
      have av0 : vok (pXs L xs) (rset [(60016, (sd (pXs L xs) ρ (scT 2)).1), (60004, (sd (pXs L xs) ρ (scT 3)).1), (60032, (sd (pXs L xs) ρ (scT 4)).1)] ρ) := rset_vok (fun p hp r hr => by
        simp only [List.mem_cons, List.not_mem_nil, or_false] at hp
        rcases hp with rfl | rfl | rfl
        · rw [show vrng 60016 = some (0, 65535) from rfl] at hr; cases hr; exact ⟨ge_i r2, le_i r3⟩
        · rw [show vrng 60004 = some (0, 255) from rfl] at hr; cases hr; exact ⟨ge_i r4, le_i r5⟩
        · rw [show vrng 60032 = none from rfl] at hr; cases hr) (fun p hp => by
        simp only [List.mem_cons, List.not_mem_nil, or_false] at hp
        rcases hp with rfl | rfl | rfl
        · show (60016 : Nat) % 2 = 0; decide
        · show (60004 : Nat) % 2 = 0; decide
        · show (60032 : Nat) % 2 = 0; decide) hF.1
      have ag := ag0
      have av := av0
      refine lgood (C := wideC c_set3_2) (t := 40 * (ρ.1 59744).toInt) (tq := 40 * (ρ.1 59744).toInt) (vt := [.arg 59808]) (FZ := fZ_w19) (nB := 300) (nC := 300) (SREL_w1 sT_set3_2 wk_c_set3_2) rfl (by decide +kernel) (hQ_I rfl rfl (by decide +kernel) kp_c_set3_2) rfl rfl rfl (by decide +kernel) rfl rfl rfl (by decide +kernel) ⟨1033, rfl⟩ rfl (fun w z => ⟨[], fM_w19, fun _ _ _ f hf => (by cases hf), kb_w19, kc_w19⟩) hL hB hi IH hF.1 (fun f hf => by cases hf) (by omega) ag (rset_kok hK) ⟨av, fcn (decide_eq_false s0) (fcn (decide_eq_false s1) (fcn (decide_eq_true s2) (fcn ((PT_ag ag hp).1.2.1 _ (fin1_ok (by decide +kernel))) (fcn ((PT_ag ag hp).1.2.1 _ (fin1_ok (by decide +kernel))) (fcn ((PT_ag ag hp).1.2.1 _ (fin1_ok (by decide +kernel))) (fcn ((PT_ag ag hp).1.2.1 _ (fin1_ok (by decide +kernel))) (fcn ((PT_ag ag hp).1.2.1 _ (fin1_ok (by decide +kernel))) (fcn ((PT_ag ag hp).1.2.1 _ (fin1_ok (by decide +kernel))) (fcn ((PT_ag ag hp).1.2.1 _ (fin1_ok (by decide +kernel))) (fcn ((PT_ag ag hp).1.2.1 _ (fin1_ok (by decide +kernel))) (fcn ((PT_ag ag hp).1.2.1 _ (fin1_ok (by decide +kernel))) (fcn ((PT_ag ag hp).1.2.1 _ (fin1_ok (by decide +kernel))) (fcn ((PT_ag ag hp).1.2.1 _ (fin1_ok (by decide +kernel))) (fcn ((PT_ag ag hp).1.2.1 _ (fin1_ok (by decide +kernel))) (fcn ((PT_ag ag hp).1.2.1 _ (fin1_ok (by decide +kernel))) (fcn ((PT_ag ag hp).1.2.1 _ (fin1_ok (by decide +kernel))) (fcn ((PT_ag ag hp).1.2.1 _ (fin1_ok (by decide +kernel))) (fcn ((PT_ag ag hp).1.2.1 _ (fin1_ok (by decide +kernel))) (fcn ((PT_ag ag hp).1.2.1 _ (fin1_ok (by decide +kernel))) (fcn ((PT_ag ag hp).1.2.1 _ (fin1_ok (by decide +kernel))) (fcn ((PT_ag ag hp).1.2.1 _ (fin1_ok (by decide +kernel))) (fcn ((PT_ag ag hp).1.2.1 _ (fin1_ok (by decide +kernel))) (fcn ((PT_ag ag hp).1.2.1 _ (fin1_ok (by decide +kernel))) (fcn ((PT_ag ag hp).1.2.1 _ (fin1_ok (by decide +kernel))) (fcn ((PT_ag ag hp).1.2.1 _ (fin1_ok (by decide +kernel))) (fcn ((PT_ag ag hp).1.2.1 _ (fin1_ok (by decide +kernel))) (fcn ((PT_ag ag hp).1.2.1 _ (fin1_ok (by decide +kernel))) ((fun f hf => by cases hf)))))))))))))))))))))))))))))⟩ (iok_S (L := im) (by decide +kernel) (PT_ag ag hp).1.2.2) (PT_ag ag hp) ?_ ?_
      · show [Value.ref 0, Value.int (3), Value.int _, Value.int _, Value.int _, Value.int (2)] = [Value.ref 0, sv (pXs L xs) ρ (scT 1), sv (pXs L xs) ρ (scT 2), sv (pXs L xs) ρ (scT 3), sv (pXs L xs) ρ (scT 4), sv (pXs L xs) ρ (scT 5)]
        rw [sv_int (t := scT 1) rfl, show (sd (pXs L xs) ρ (scT 1)).1 = 3 from v, sv_int (t := scT 2) rfl, sv_int (t := scT 3) rfl, sv_int (t := scT 4) rfl, sv_int (t := scT 5) rfl, show (sd (pXs L xs) ρ (scT 5)).1 = 2 from z2]
        rfl
      · show [Value.ref 219, Value.int (3), Value.int _, Value.int _, Value.int _, Value.int (2)] = [Value.ref 219, sv (pXs L xs) ρ (scT 1), sv (pXs L xs) ρ (scT 2), sv (pXs L xs) ρ (scT 3), sv (pXs L xs) ρ (scT 4), sv (pXs L xs) ρ (scT 5)]
        rw [sv_int (t := scT 1) rfl, show (sd (pXs L xs) ρ (scT 1)).1 = 3 from v, sv_int (t := scT 2) rfl, sv_int (t := scT 3) rfl, sv_int (t := scT 4) rfl, sv_int (t := scT 5) rfl, show (sd (pXs L xs) ρ (scT 5)).1 = 2 from z2]
        rfl
  by_cases z4 : (sd (pXs L xs) ρ (scT 5)).1 = (sd (pXs L xs) ρ (.int 4)).1
  · rcases (show ((sd (pXs L xs) ρ (scT 1)).1).toInt = 0 ∨ ((sd (pXs L xs) ρ (scT 1)).1).toInt = 1 ∨ ((sd (pXs L xs) ρ (scT 1)).1).toInt = 2 ∨ ((sd (pXs L xs) ρ (scT 1)).1).toInt = 3 by omega) with w | w | w | w
    · have v : (sd (pXs L xs) ρ (scT 1)).1 = 0 := Int32.toInt_inj.mp (by rw [w]; rfl)
      by_cases s0 : (sd (pXs L xs) ρ (.arg 18496)).1 = (sd (pXs L xs) ρ (.int 0)).1
      · have g : fok (pXs L xs) ρ (((0, .arg 18496, .int 0), true) :: ((0, scT 1, .int 0), true) :: ((2, .int 255, scT 3), false) :: ((2, scT 3, .int 0), false) :: ((2, .int 65535, scT 2), false) :: ((2, scT 2, .int 0), false) :: ((2, .int 3, scT 1), false) :: ((2, scT 1, .int 0), false) :: Fk 19) := ⟨hF.1, fcn (decide_eq_true s0) (fcn (decide_eq_true v) (fcn (decide_eq_false r5) (fcn (decide_eq_false r4) (fcn (decide_eq_false r3) (fcn (decide_eq_false r2) (fcn (decide_eq_false r1) (fcn (decide_eq_false r0) (hF.2))))))))⟩
        exact lrow_ok hL hB hi IH hK g hp kr_19_0a
      by_cases s1 : (sd (pXs L xs) ρ (.arg 18496)).1 = (sd (pXs L xs) ρ (.int 3)).1
      · have g : fok (pXs L xs) ρ (((0, .arg 18496, .int 3), true) :: ((0, .arg 18496, .int 0), false) :: ((0, scT 1, .int 0), true) :: ((2, .int 255, scT 3), false) :: ((2, scT 3, .int 0), false) :: ((2, .int 65535, scT 2), false) :: ((2, scT 2, .int 0), false) :: ((2, .int 3, scT 1), false) :: ((2, scT 1, .int 0), false) :: Fk 19) := ⟨hF.1, fcn (decide_eq_true s1) (fcn (decide_eq_false s0) (fcn (decide_eq_true v) (fcn (decide_eq_false r5) (fcn (decide_eq_false r4) (fcn (decide_eq_false r3) (fcn (decide_eq_false r2) (fcn (decide_eq_false r1) (fcn (decide_eq_false r0) (hF.2)))))))))⟩
        exact lrow_ok hL hB hi IH hK g hp kr_19_0b
      by_cases s2 : ¬ ((sd (pXs L xs) ρ (.arg 1288)).1 < (sd (pXs L xs) ρ (.int 16)).1)
      · have g : fok (pXs L xs) ρ (((2, .arg 1288, .int 16), false) :: ((0, .arg 18496, .int 3), false) :: ((0, .arg 18496, .int 0), false) :: ((0, scT 1, .int 0), true) :: ((2, .int 255, scT 3), false) :: ((2, scT 3, .int 0), false) :: ((2, .int 65535, scT 2), false) :: ((2, scT 2, .int 0), false) :: ((2, .int 3, scT 1), false) :: ((2, scT 1, .int 0), false) :: Fk 19) := ⟨hF.1, fcn (decide_eq_false s2) (fcn (decide_eq_false s1) (fcn (decide_eq_false s0) (fcn (decide_eq_true v) (fcn (decide_eq_false r5) (fcn (decide_eq_false r4) (fcn (decide_eq_false r3) (fcn (decide_eq_false r2) (fcn (decide_eq_false r1) (fcn (decide_eq_false r0) (hF.2))))))))))⟩
        exact lrow_ok hL hB hi IH hK g hp kr_19_0c
      have s2 := Classical.not_not.mp s2
      have g : fok (pXs L xs) ρ (((2, .arg 1288, .int 16), true) :: ((0, .arg 18496, .int 3), false) :: ((0, .arg 18496, .int 0), false) :: ((0, scT 1, .int 0), true) :: ((0, scT 5, .int 4), true) :: ((2, .int 255, scT 3), false) :: ((2, scT 3, .int 0), false) :: ((2, .int 65535, scT 2), false) :: ((2, scT 2, .int 0), false) :: ((2, .int 3, scT 1), false) :: ((2, scT 1, .int 0), false) :: Fk 19) := ⟨hF.1, fcn (decide_eq_true s2) (fcn (decide_eq_false s1) (fcn (decide_eq_false s0) (fcn (decide_eq_true v) (fcn (decide_eq_true z4) (fcn (decide_eq_false r5) (fcn (decide_eq_false r4) (fcn (decide_eq_false r3) (fcn (decide_eq_false r2) (fcn (decide_eq_false r1) (fcn (decide_eq_false r0) (hF.2)))))))))))⟩
      refine crow_ok hK g ka_w19_0_4 ?_
      have ag0 : agr 59000 (rset [(60016, (sd (pXs L xs) ρ (scT 2)).1), (60004, (sd (pXs L xs) ρ (scT 3)).1), (60032, (sd (pXs L xs) ρ (scT 4)).1)] ρ) ρ := rset_agr (fun p hp => by
        simp only [List.mem_cons, List.not_mem_nil, or_false] at hp
        rcases hp with rfl | rfl | rfl
        · show 59000 ≤ 60016; decide
        · show 59000 ≤ 60004; decide
        · show 59000 ≤ 60032; decide)
      have av0 : vok (pXs L xs) (rset [(60016, (sd (pXs L xs) ρ (scT 2)).1), (60004, (sd (pXs L xs) ρ (scT 3)).1), (60032, (sd (pXs L xs) ρ (scT 4)).1)] ρ) := rset_vok (fun p hp r hr => by
        simp only [List.mem_cons, List.not_mem_nil, or_false] at hp
        rcases hp with rfl | rfl | rfl
        · rw [show vrng 60016 = some (0, 65535) from rfl] at hr; cases hr; exact ⟨ge_i r2, le_i r3⟩
        · rw [show vrng 60004 = some (0, 255) from rfl] at hr; cases hr; exact ⟨ge_i r4, le_i r5⟩
        · rw [show vrng 60032 = none from rfl] at hr; cases hr) (fun p hp => by
        simp only [List.mem_cons, List.not_mem_nil, or_false] at hp
        rcases hp with rfl | rfl | rfl
        · show (60016 : Nat) % 2 = 0; decide
        · show (60004 : Nat) % 2 = 0; decide
        · show (60032 : Nat) % 2 = 0; decide) hF.1
      have ag := ag0
      have av := av0
      refine lgood (C := wideC c_set0_4) (t := 40 * (ρ.1 59744).toInt) (tq := 40 * (ρ.1 59744).toInt) (vt := [.arg 59808]) (FZ := fZ_w19) (nB := 300) (nC := 300) (SREL_w1 sT_set0_4 wk_c_set0_4) rfl (by decide +kernel) (hQ_I rfl rfl (by decide +kernel) kp_c_set0_4) rfl rfl rfl (by decide +kernel) rfl rfl rfl (by decide +kernel) ⟨1033, rfl⟩ rfl (fun w z => ⟨[], fM_w19, fun _ _ _ f hf => (by cases hf), kb_w19, kc_w19⟩) hL hB hi IH hF.1 (fun f hf => by cases hf) (by omega) ag (rset_kok hK) ⟨av, fcn (decide_eq_false s0) (fcn (decide_eq_false s1) (fcn (decide_eq_true s2) (fcn ((PT_ag ag hp).1.2.1 _ (fin1_ok (by decide +kernel))) (fcn ((PT_ag ag hp).1.2.1 _ (fin1_ok (by decide +kernel))) (fcn ((PT_ag ag hp).1.2.1 _ (fin1_ok (by decide +kernel))) (fcn ((PT_ag ag hp).1.2.1 _ (fin1_ok (by decide +kernel))) (fcn ((PT_ag ag hp).1.2.1 _ (fin1_ok (by decide +kernel))) (fcn ((PT_ag ag hp).1.2.1 _ (fin1_ok (by decide +kernel))) (fcn ((PT_ag ag hp).1.2.1 _ (fin1_ok (by decide +kernel))) (fcn ((PT_ag ag hp).1.2.1 _ (fin1_ok (by decide +kernel))) (fcn ((PT_ag ag hp).1.2.1 _ (fin1_ok (by decide +kernel))) (fcn ((PT_ag ag hp).1.2.1 _ (fin1_ok (by decide +kernel))) (fcn ((PT_ag ag hp).1.2.1 _ (fin1_ok (by decide +kernel))) (fcn ((PT_ag ag hp).1.2.1 _ (fin1_ok (by decide +kernel))) (fcn ((PT_ag ag hp).1.2.1 _ (fin1_ok (by decide +kernel))) (fcn ((PT_ag ag hp).1.2.1 _ (fin1_ok (by decide +kernel))) (fcn ((PT_ag ag hp).1.2.1 _ (fin1_ok (by decide +kernel))) (fcn ((PT_ag ag hp).1.2.1 _ (fin1_ok (by decide +kernel))) (fcn ((PT_ag ag hp).1.2.1 _ (fin1_ok (by decide +kernel))) (fcn ((PT_ag ag hp).1.2.1 _ (fin1_ok (by decide +kernel))) (fcn ((PT_ag ag hp).1.2.1 _ (fin1_ok (by decide +kernel))) (fcn ((PT_ag ag hp).1.2.1 _ (fin1_ok (by decide +kernel))) (fcn ((PT_ag ag hp).1.2.1 _ (fin1_ok (by decide +kernel))) (fcn ((PT_ag ag hp).1.2.1 _ (fin1_ok (by decide +kernel))) (fcn ((PT_ag ag hp).1.2.1 _ (fin1_ok (by decide +kernel))) (fcn ((PT_ag ag hp).1.2.1 _ (fin1_ok (by decide +kernel))) (fcn ((PT_ag ag hp).1.2.1 _ (fin1_ok (by decide +kernel))) ((fun f hf => by cases hf)))))))))))))))))))))))))))))⟩ (iok_S (L := im) (by decide +kernel) (PT_ag ag hp).1.2.2) (PT_ag ag hp) ?_ ?_
      · show [Value.ref 0, Value.int (0), Value.int _, Value.int _, Value.int _, Value.int (4)] = [Value.ref 0, sv (pXs L xs) ρ (scT 1), sv (pXs L xs) ρ (scT 2), sv (pXs L xs) ρ (scT 3), sv (pXs L xs) ρ (scT 4), sv (pXs L xs) ρ (scT 5)]
        rw [sv_int (t := scT 1) rfl, show (sd (pXs L xs) ρ (scT 1)).1 = 0 from v, sv_int (t := scT 2) rfl, sv_int (t := scT 3) rfl, sv_int (t := scT 4) rfl, sv_int (t := scT 5) rfl, show (sd (pXs L xs) ρ (scT 5)).1 = 4 from z4]
        rfl
      · show [Value.ref 219, Value.int (0), Value.int _, Value.int _, Value.int _, Value.int (4)] = [Value.ref 219, sv (pXs L xs) ρ (scT 1), sv (pXs L xs) ρ (scT 2), sv (pXs L xs) ρ (scT 3), sv (pXs L xs) ρ (scT 4), sv (pXs L xs) ρ (scT 5)]
        rw [sv_int (t := scT 1) rfl, show (sd (pXs L xs) ρ (scT 1)).1 = 0 from v, sv_int (t := scT 2) rfl, sv_int (t := scT 3) rfl, sv_int (t := scT 4) rfl, sv_int (t := scT 5) rfl, show (sd (pXs L xs) ρ (scT 5)).1 = 4 from z4]
        rfl
    · have v : (sd (pXs L xs) ρ (scT 1)).1 = 1 := Int32.toInt_inj.mp (by rw [w]; rfl)
      by_cases s0 : (sd (pXs L xs) ρ (.arg 18528)).1 = (sd (pXs L xs) ρ (.int 0)).1
      · have g : fok (pXs L xs) ρ (((0, .arg 18528, .int 0), true) :: ((0, scT 1, .int 1), true) :: ((2, .int 255, scT 3), false) :: ((2, scT 3, .int 0), false) :: ((2, .int 65535, scT 2), false) :: ((2, scT 2, .int 0), false) :: ((2, .int 3, scT 1), false) :: ((2, scT 1, .int 0), false) :: Fk 19) := ⟨hF.1, fcn (decide_eq_true s0) (fcn (decide_eq_true v) (fcn (decide_eq_false r5) (fcn (decide_eq_false r4) (fcn (decide_eq_false r3) (fcn (decide_eq_false r2) (fcn (decide_eq_false r1) (fcn (decide_eq_false r0) (hF.2))))))))⟩
        exact lrow_ok hL hB hi IH hK g hp kr_19_1a
      by_cases s1 : (sd (pXs L xs) ρ (.arg 18528)).1 = (sd (pXs L xs) ρ (.int 3)).1
      · have g : fok (pXs L xs) ρ (((0, .arg 18528, .int 3), true) :: ((0, .arg 18528, .int 0), false) :: ((0, scT 1, .int 1), true) :: ((2, .int 255, scT 3), false) :: ((2, scT 3, .int 0), false) :: ((2, .int 65535, scT 2), false) :: ((2, scT 2, .int 0), false) :: ((2, .int 3, scT 1), false) :: ((2, scT 1, .int 0), false) :: Fk 19) := ⟨hF.1, fcn (decide_eq_true s1) (fcn (decide_eq_false s0) (fcn (decide_eq_true v) (fcn (decide_eq_false r5) (fcn (decide_eq_false r4) (fcn (decide_eq_false r3) (fcn (decide_eq_false r2) (fcn (decide_eq_false r1) (fcn (decide_eq_false r0) (hF.2)))))))))⟩
        exact lrow_ok hL hB hi IH hK g hp kr_19_1b
      by_cases s2 : ¬ ((sd (pXs L xs) ρ (.arg 1320)).1 < (sd (pXs L xs) ρ (.int 16)).1)
      · have g : fok (pXs L xs) ρ (((2, .arg 1320, .int 16), false) :: ((0, .arg 18528, .int 3), false) :: ((0, .arg 18528, .int 0), false) :: ((0, scT 1, .int 1), true) :: ((2, .int 255, scT 3), false) :: ((2, scT 3, .int 0), false) :: ((2, .int 65535, scT 2), false) :: ((2, scT 2, .int 0), false) :: ((2, .int 3, scT 1), false) :: ((2, scT 1, .int 0), false) :: Fk 19) := ⟨hF.1, fcn (decide_eq_false s2) (fcn (decide_eq_false s1) (fcn (decide_eq_false s0) (fcn (decide_eq_true v) (fcn (decide_eq_false r5) (fcn (decide_eq_false r4) (fcn (decide_eq_false r3) (fcn (decide_eq_false r2) (fcn (decide_eq_false r1) (fcn (decide_eq_false r0) (hF.2))))))))))⟩
        exact lrow_ok hL hB hi IH hK g hp kr_19_1c
      have s2 := Classical.not_not.mp s2
      have g : fok (pXs L xs) ρ (((2, .arg 1320, .int 16), true) :: ((0, .arg 18528, .int 3), false) :: ((0, .arg 18528, .int 0), false) :: ((0, scT 1, .int 1), true) :: ((0, scT 5, .int 4), true) :: ((2, .int 255, scT 3), false) :: ((2, scT 3, .int 0), false) :: ((2, .int 65535, scT 2), false) :: ((2, scT 2, .int 0), false) :: ((2, .int 3, scT 1), false) :: ((2, scT 1, .int 0), false) :: Fk 19) := ⟨hF.1, fcn (decide_eq_true s2) (fcn (decide_eq_false s1) (fcn (decide_eq_false s0) (fcn (decide_eq_true v) (fcn (decide_eq_true z4) (fcn (decide_eq_false r5) (fcn (decide_eq_false r4) (fcn (decide_eq_false r3) (fcn (decide_eq_false r2) (fcn (decide_eq_false r1) (fcn (decide_eq_false r0) (hF.2)))))))))))⟩
      refine crow_ok hK g ka_w19_1_4 ?_
      have ag0 : agr 59000 (rset [(60016, (sd (pXs L xs) ρ (scT 2)).1), (60004, (sd (pXs L xs) ρ (scT 3)).1), (60032, (sd (pXs L xs) ρ (scT 4)).1)] ρ) ρ := rset_agr (fun p hp => by
        simp only [List.mem_cons, List.not_mem_nil, or_false] at hp
        rcases hp with rfl | rfl | rfl
        · show 59000 ≤ 60016; decide
        · show 59000 ≤ 60004; decide
        · show 59000 ≤ 60032; decide)
      have av0 : vok (pXs L xs) (rset [(60016, (sd (pXs L xs) ρ (scT 2)).1), (60004, (sd (pXs L xs) ρ (scT 3)).1), (60032, (sd (pXs L xs) ρ (scT 4)).1)] ρ) := rset_vok (fun p hp r hr => by
        simp only [List.mem_cons, List.not_mem_nil, or_false] at hp
        rcases hp with rfl | rfl | rfl
        · rw [show vrng 60016 = some (0, 65535) from rfl] at hr; cases hr; exact ⟨ge_i r2, le_i r3⟩
        · rw [show vrng 60004 = some (0, 255) from rfl] at hr; cases hr; exact ⟨ge_i r4, le_i r5⟩
        · rw [show vrng 60032 = none from rfl] at hr; cases hr) (fun p hp => by
        simp only [List.mem_cons, List.not_mem_nil, or_false] at hp
        rcases hp with rfl | rfl | rfl
        · show (60016 : Nat) % 2 = 0; decide
        · show (60004 : Nat) % 2 = 0; decide
        · show (60032 : Nat) % 2 = 0; decide) hF.1
      have ag := ag0
      have av := av0
      refine lgood (C := wideC c_set1_4) (t := 40 * (ρ.1 59744).toInt) (tq := 40 * (ρ.1 59744).toInt) (vt := [.arg 59808]) (FZ := fZ_w19) (nB := 300) (nC := 300) (SREL_w1 sT_set1_4 wk_c_set1_4) rfl (by decide +kernel) (hQ_I rfl rfl (by decide +kernel) kp_c_set1_4) rfl rfl rfl (by decide +kernel) rfl rfl rfl (by decide +kernel) ⟨1033, rfl⟩ rfl (fun w z => ⟨[], fM_w19, fun _ _ _ f hf => (by cases hf), kb_w19, kc_w19⟩) hL hB hi IH hF.1 (fun f hf => by cases hf) (by omega) ag (rset_kok hK) ⟨av, fcn (decide_eq_false s0) (fcn (decide_eq_false s1) (fcn (decide_eq_true s2) (fcn ((PT_ag ag hp).1.2.1 _ (fin1_ok (by decide +kernel))) (fcn ((PT_ag ag hp).1.2.1 _ (fin1_ok (by decide +kernel))) (fcn ((PT_ag ag hp).1.2.1 _ (fin1_ok (by decide +kernel))) (fcn ((PT_ag ag hp).1.2.1 _ (fin1_ok (by decide +kernel))) (fcn ((PT_ag ag hp).1.2.1 _ (fin1_ok (by decide +kernel))) (fcn ((PT_ag ag hp).1.2.1 _ (fin1_ok (by decide +kernel))) (fcn ((PT_ag ag hp).1.2.1 _ (fin1_ok (by decide +kernel))) (fcn ((PT_ag ag hp).1.2.1 _ (fin1_ok (by decide +kernel))) (fcn ((PT_ag ag hp).1.2.1 _ (fin1_ok (by decide +kernel))) (fcn ((PT_ag ag hp).1.2.1 _ (fin1_ok (by decide +kernel))) (fcn ((PT_ag ag hp).1.2.1 _ (fin1_ok (by decide +kernel))) (fcn ((PT_ag ag hp).1.2.1 _ (fin1_ok (by decide +kernel))) (fcn ((PT_ag ag hp).1.2.1 _ (fin1_ok (by decide +kernel))) (fcn ((PT_ag ag hp).1.2.1 _ (fin1_ok (by decide +kernel))) (fcn ((PT_ag ag hp).1.2.1 _ (fin1_ok (by decide +kernel))) (fcn ((PT_ag ag hp).1.2.1 _ (fin1_ok (by decide +kernel))) (fcn ((PT_ag ag hp).1.2.1 _ (fin1_ok (by decide +kernel))) (fcn ((PT_ag ag hp).1.2.1 _ (fin1_ok (by decide +kernel))) (fcn ((PT_ag ag hp).1.2.1 _ (fin1_ok (by decide +kernel))) (fcn ((PT_ag ag hp).1.2.1 _ (fin1_ok (by decide +kernel))) (fcn ((PT_ag ag hp).1.2.1 _ (fin1_ok (by decide +kernel))) (fcn ((PT_ag ag hp).1.2.1 _ (fin1_ok (by decide +kernel))) (fcn ((PT_ag ag hp).1.2.1 _ (fin1_ok (by decide +kernel))) (fcn ((PT_ag ag hp).1.2.1 _ (fin1_ok (by decide +kernel))) (fcn ((PT_ag ag hp).1.2.1 _ (fin1_ok (by decide +kernel))) ((fun f hf => by cases hf)))))))))))))))))))))))))))))⟩ (iok_S (L := im) (by decide +kernel) (PT_ag ag hp).1.2.2) (PT_ag ag hp) ?_ ?_
      · show [Value.ref 0, Value.int (1), Value.int _, Value.int _, Value.int _, Value.int (4)] = [Value.ref 0, sv (pXs L xs) ρ (scT 1), sv (pXs L xs) ρ (scT 2), sv (pXs L xs) ρ (scT 3), sv (pXs L xs) ρ (scT 4), sv (pXs L xs) ρ (scT 5)]
        rw [sv_int (t := scT 1) rfl, show (sd (pXs L xs) ρ (scT 1)).1 = 1 from v, sv_int (t := scT 2) rfl, sv_int (t := scT 3) rfl, sv_int (t := scT 4) rfl, sv_int (t := scT 5) rfl, show (sd (pXs L xs) ρ (scT 5)).1 = 4 from z4]
        rfl
      · show [Value.ref 219, Value.int (1), Value.int _, Value.int _, Value.int _, Value.int (4)] = [Value.ref 219, sv (pXs L xs) ρ (scT 1), sv (pXs L xs) ρ (scT 2), sv (pXs L xs) ρ (scT 3), sv (pXs L xs) ρ (scT 4), sv (pXs L xs) ρ (scT 5)]
        rw [sv_int (t := scT 1) rfl, show (sd (pXs L xs) ρ (scT 1)).1 = 1 from v, sv_int (t := scT 2) rfl, sv_int (t := scT 3) rfl, sv_int (t := scT 4) rfl, sv_int (t := scT 5) rfl, show (sd (pXs L xs) ρ (scT 5)).1 = 4 from z4]
        rfl
    · have v : (sd (pXs L xs) ρ (scT 1)).1 = 2 := Int32.toInt_inj.mp (by rw [w]; rfl)
      by_cases s0 : (sd (pXs L xs) ρ (.arg 18560)).1 = (sd (pXs L xs) ρ (.int 0)).1
      · have g : fok (pXs L xs) ρ (((0, .arg 18560, .int 0), true) :: ((0, scT 1, .int 2), true) :: ((2, .int 255, scT 3), false) :: ((2, scT 3, .int 0), false) :: ((2, .int 65535, scT 2), false) :: ((2, scT 2, .int 0), false) :: ((2, .int 3, scT 1), false) :: ((2, scT 1, .int 0), false) :: Fk 19) := ⟨hF.1, fcn (decide_eq_true s0) (fcn (decide_eq_true v) (fcn (decide_eq_false r5) (fcn (decide_eq_false r4) (fcn (decide_eq_false r3) (fcn (decide_eq_false r2) (fcn (decide_eq_false r1) (fcn (decide_eq_false r0) (hF.2))))))))⟩
        exact lrow_ok hL hB hi IH hK g hp kr_19_2a
      by_cases s1 : (sd (pXs L xs) ρ (.arg 18560)).1 = (sd (pXs L xs) ρ (.int 3)).1
      · have g : fok (pXs L xs) ρ (((0, .arg 18560, .int 3), true) :: ((0, .arg 18560, .int 0), false) :: ((0, scT 1, .int 2), true) :: ((2, .int 255, scT 3), false) :: ((2, scT 3, .int 0), false) :: ((2, .int 65535, scT 2), false) :: ((2, scT 2, .int 0), false) :: ((2, .int 3, scT 1), false) :: ((2, scT 1, .int 0), false) :: Fk 19) := ⟨hF.1, fcn (decide_eq_true s1) (fcn (decide_eq_false s0) (fcn (decide_eq_true v) (fcn (decide_eq_false r5) (fcn (decide_eq_false r4) (fcn (decide_eq_false r3) (fcn (decide_eq_false r2) (fcn (decide_eq_false r1) (fcn (decide_eq_false r0) (hF.2)))))))))⟩
        exact lrow_ok hL hB hi IH hK g hp kr_19_2b
      by_cases s2 : ¬ ((sd (pXs L xs) ρ (.arg 1352)).1 < (sd (pXs L xs) ρ (.int 16)).1)
      · have g : fok (pXs L xs) ρ (((2, .arg 1352, .int 16), false) :: ((0, .arg 18560, .int 3), false) :: ((0, .arg 18560, .int 0), false) :: ((0, scT 1, .int 2), true) :: ((2, .int 255, scT 3), false) :: ((2, scT 3, .int 0), false) :: ((2, .int 65535, scT 2), false) :: ((2, scT 2, .int 0), false) :: ((2, .int 3, scT 1), false) :: ((2, scT 1, .int 0), false) :: Fk 19) := ⟨hF.1, fcn (decide_eq_false s2) (fcn (decide_eq_false s1) (fcn (decide_eq_false s0) (fcn (decide_eq_true v) (fcn (decide_eq_false r5) (fcn (decide_eq_false r4) (fcn (decide_eq_false r3) (fcn (decide_eq_false r2) (fcn (decide_eq_false r1) (fcn (decide_eq_false r0) (hF.2))))))))))⟩
        exact lrow_ok hL hB hi IH hK g hp kr_19_2c
      have s2 := Classical.not_not.mp s2
      have g : fok (pXs L xs) ρ (((2, .arg 1352, .int 16), true) :: ((0, .arg 18560, .int 3), false) :: ((0, .arg 18560, .int 0), false) :: ((0, scT 1, .int 2), true) :: ((0, scT 5, .int 4), true) :: ((2, .int 255, scT 3), false) :: ((2, scT 3, .int 0), false) :: ((2, .int 65535, scT 2), false) :: ((2, scT 2, .int 0), false) :: ((2, .int 3, scT 1), false) :: ((2, scT 1, .int 0), false) :: Fk 19) := ⟨hF.1, fcn (decide_eq_true s2) (fcn (decide_eq_false s1) (fcn (decide_eq_false s0) (fcn (decide_eq_true v) (fcn (decide_eq_true z4) (fcn (decide_eq_false r5) (fcn (decide_eq_false r4) (fcn (decide_eq_false r3) (fcn (decide_eq_false r2) (fcn (decide_eq_false r1) (fcn (decide_eq_false r0) (hF.2)))))))))))⟩
      refine crow_ok hK g ka_w19_2_4 ?_
      have ag0 : agr 59000 (rset [(60016, (sd (pXs L xs) ρ (scT 2)).1), (60004, (sd (pXs L xs) ρ (scT 3)).1), (60032, (sd (pXs L xs) ρ (scT 4)).1)] ρ) ρ := rset_agr (fun p hp => by
        simp only [List.mem_cons, List.not_mem_nil, or_false] at hp
        rcases hp with rfl | rfl | rfl
        · show 59000 ≤ 60016; decide
        · show 59000 ≤ 60004; decide
        · show 59000 ≤ 60032; decide)
      have av0 : vok (pXs L xs) (rset [(60016, (sd (pXs L xs) ρ (scT 2)).1), (60004, (sd (pXs L xs) ρ (scT 3)).1), (60032, (sd (pXs L xs) ρ (scT 4)).1)] ρ) := rset_vok (fun p hp r hr => by
        simp only [List.mem_cons, List.not_mem_nil, or_false] at hp
        rcases hp with rfl | rfl | rfl
        · rw [show vrng 60016 = some (0, 65535) from rfl] at hr; cases hr; exact ⟨ge_i r2, le_i r3⟩
        · rw [show vrng 60004 = some (0, 255) from rfl] at hr; cases hr; exact ⟨ge_i r4, le_i r5⟩
        · rw [show vrng 60032 = none from rfl] at hr; cases hr) (fun p hp => by
        simp only [List.mem_cons, List.not_mem_nil, or_false] at hp
        rcases hp with rfl | rfl | rfl
        · show (60016 : Nat) % 2 = 0; decide
        · show (60004 : Nat) % 2 = 0; decide
        · show (60032 : Nat) % 2 = 0; decide) hF.1
      have ag := ag0
      have av := av0
      refine lgood (C := wideC c_set2_4) (t := 40 * (ρ.1 59744).toInt) (tq := 40 * (ρ.1 59744).toInt) (vt := [.arg 59808]) (FZ := fZ_w19) (nB := 300) (nC := 300) (SREL_w1 sT_set2_4 wk_c_set2_4) rfl (by decide +kernel) (hQ_I rfl rfl (by decide +kernel) kp_c_set2_4) rfl rfl rfl (by decide +kernel) rfl rfl rfl (by decide +kernel) ⟨1033, rfl⟩ rfl (fun w z => ⟨[], fM_w19, fun _ _ _ f hf => (by cases hf), kb_w19, kc_w19⟩) hL hB hi IH hF.1 (fun f hf => by cases hf) (by omega) ag (rset_kok hK) ⟨av, fcn (decide_eq_false s0) (fcn (decide_eq_false s1) (fcn (decide_eq_true s2) (fcn ((PT_ag ag hp).1.2.1 _ (fin1_ok (by decide +kernel))) (fcn ((PT_ag ag hp).1.2.1 _ (fin1_ok (by decide +kernel))) (fcn ((PT_ag ag hp).1.2.1 _ (fin1_ok (by decide +kernel))) (fcn ((PT_ag ag hp).1.2.1 _ (fin1_ok (by decide +kernel))) (fcn ((PT_ag ag hp).1.2.1 _ (fin1_ok (by decide +kernel))) (fcn ((PT_ag ag hp).1.2.1 _ (fin1_ok (by decide +kernel))) (fcn ((PT_ag ag hp).1.2.1 _ (fin1_ok (by decide +kernel))) (fcn ((PT_ag ag hp).1.2.1 _ (fin1_ok (by decide +kernel))) (fcn ((PT_ag ag hp).1.2.1 _ (fin1_ok (by decide +kernel))) (fcn ((PT_ag ag hp).1.2.1 _ (fin1_ok (by decide +kernel))) (fcn ((PT_ag ag hp).1.2.1 _ (fin1_ok (by decide +kernel))) (fcn ((PT_ag ag hp).1.2.1 _ (fin1_ok (by decide +kernel))) (fcn ((PT_ag ag hp).1.2.1 _ (fin1_ok (by decide +kernel))) (fcn ((PT_ag ag hp).1.2.1 _ (fin1_ok (by decide +kernel))) (fcn ((PT_ag ag hp).1.2.1 _ (fin1_ok (by decide +kernel))) (fcn ((PT_ag ag hp).1.2.1 _ (fin1_ok (by decide +kernel))) (fcn ((PT_ag ag hp).1.2.1 _ (fin1_ok (by decide +kernel))) (fcn ((PT_ag ag hp).1.2.1 _ (fin1_ok (by decide +kernel))) (fcn ((PT_ag ag hp).1.2.1 _ (fin1_ok (by decide +kernel))) (fcn ((PT_ag ag hp).1.2.1 _ (fin1_ok (by decide +kernel))) (fcn ((PT_ag ag hp).1.2.1 _ (fin1_ok (by decide +kernel))) (fcn ((PT_ag ag hp).1.2.1 _ (fin1_ok (by decide +kernel))) (fcn ((PT_ag ag hp).1.2.1 _ (fin1_ok (by decide +kernel))) (fcn ((PT_ag ag hp).1.2.1 _ (fin1_ok (by decide +kernel))) (fcn ((PT_ag ag hp).1.2.1 _ (fin1_ok (by decide +kernel))) ((fun f hf => by cases hf)))))))))))))))))))))))))))))⟩ (iok_S (L := im) (by decide +kernel) (PT_ag ag hp).1.2.2) (PT_ag ag hp) ?_ ?_
      · show [Value.ref 0, Value.int (2), Value.int _, Value.int _, Value.int _, Value.int (4)] = [Value.ref 0, sv (pXs L xs) ρ (scT 1), sv (pXs L xs) ρ (scT 2), sv (pXs L xs) ρ (scT 3), sv (pXs L xs) ρ (scT 4), sv (pXs L xs) ρ (scT 5)]
        rw [sv_int (t := scT 1) rfl, show (sd (pXs L xs) ρ (scT 1)).1 = 2 from v, sv_int (t := scT 2) rfl, sv_int (t := scT 3) rfl, sv_int (t := scT 4) rfl, sv_int (t := scT 5) rfl, show (sd (pXs L xs) ρ (scT 5)).1 = 4 from z4]
        rfl
      · show [Value.ref 219, Value.int (2), Value.int _, Value.int _, Value.int _, Value.int (4)] = [Value.ref 219, sv (pXs L xs) ρ (scT 1), sv (pXs L xs) ρ (scT 2), sv (pXs L xs) ρ (scT 3), sv (pXs L xs) ρ (scT 4), sv (pXs L xs) ρ (scT 5)]
        rw [sv_int (t := scT 1) rfl, show (sd (pXs L xs) ρ (scT 1)).1 = 2 from v, sv_int (t := scT 2) rfl, sv_int (t := scT 3) rfl, sv_int (t := scT 4) rfl, sv_int (t := scT 5) rfl, show (sd (pXs L xs) ρ (scT 5)).1 = 4 from z4]
        rfl
    · have v : (sd (pXs L xs) ρ (scT 1)).1 = 3 := Int32.toInt_inj.mp (by rw [w]; rfl)
      by_cases s0 : (sd (pXs L xs) ρ (.arg 18592)).1 = (sd (pXs L xs) ρ (.int 0)).1
      · have g : fok (pXs L xs) ρ (((0, .arg 18592, .int 0), true) :: ((0, scT 1, .int 3), true) :: ((2, .int 255, scT 3), false) :: ((2, scT 3, .int 0), false) :: ((2, .int 65535, scT 2), false) :: ((2, scT 2, .int 0), false) :: ((2, .int 3, scT 1), false) :: ((2, scT 1, .int 0), false) :: Fk 19) := ⟨hF.1, fcn (decide_eq_true s0) (fcn (decide_eq_true v) (fcn (decide_eq_false r5) (fcn (decide_eq_false r4) (fcn (decide_eq_false r3) (fcn (decide_eq_false r2) (fcn (decide_eq_false r1) (fcn (decide_eq_false r0) (hF.2))))))))⟩
        exact lrow_ok hL hB hi IH hK g hp kr_19_3a
      by_cases s1 : (sd (pXs L xs) ρ (.arg 18592)).1 = (sd (pXs L xs) ρ (.int 3)).1
      · have g : fok (pXs L xs) ρ (((0, .arg 18592, .int 3), true) :: ((0, .arg 18592, .int 0), false) :: ((0, scT 1, .int 3), true) :: ((2, .int 255, scT 3), false) :: ((2, scT 3, .int 0), false) :: ((2, .int 65535, scT 2), false) :: ((2, scT 2, .int 0), false) :: ((2, .int 3, scT 1), false) :: ((2, scT 1, .int 0), false) :: Fk 19) := ⟨hF.1, fcn (decide_eq_true s1) (fcn (decide_eq_false s0) (fcn (decide_eq_true v) (fcn (decide_eq_false r5) (fcn (decide_eq_false r4) (fcn (decide_eq_false r3) (fcn (decide_eq_false r2) (fcn (decide_eq_false r1) (fcn (decide_eq_false r0) (hF.2)))))))))⟩
        exact lrow_ok hL hB hi IH hK g hp kr_19_3b
      by_cases s2 : ¬ ((sd (pXs L xs) ρ (.arg 1384)).1 < (sd (pXs L xs) ρ (.int 16)).1)
      · have g : fok (pXs L xs) ρ (((2, .arg 1384, .int 16), false) :: ((0, .arg 18592, .int 3), false) :: ((0, .arg 18592, .int 0), false) :: ((0, scT 1, .int 3), true) :: ((2, .int 255, scT 3), false) :: ((2, scT 3, .int 0), false) :: ((2, .int 65535, scT 2), false) :: ((2, scT 2, .int 0), false) :: ((2, .int 3, scT 1), false) :: ((2, scT 1, .int 0), false) :: Fk 19) := ⟨hF.1, fcn (decide_eq_false s2) (fcn (decide_eq_false s1) (fcn (decide_eq_false s0) (fcn (decide_eq_true v) (fcn (decide_eq_false r5) (fcn (decide_eq_false r4) (fcn (decide_eq_false r3) (fcn (decide_eq_false r2) (fcn (decide_eq_false r1) (fcn (decide_eq_false r0) (hF.2))))))))))⟩
        exact lrow_ok hL hB hi IH hK g hp kr_19_3c
      have s2 := Classical.not_not.mp s2
      have g : fok (pXs L xs) ρ (((2, .arg 1384, .int 16), true) :: ((0, .arg 18592, .int 3), false) :: ((0, .arg 18592, .int 0), false) :: ((0, scT 1, .int 3), true) :: ((0, scT 5, .int 4), true) :: ((2, .int 255, scT 3), false) :: ((2, scT 3, .int 0), false) :: ((2, .int 65535, scT 2), false) :: ((2, scT 2, .int 0), false) :: ((2, .int 3, scT 1), false) :: ((2, scT 1, .int 0), false) :: Fk 19) := ⟨hF.1, fcn (decide_eq_true s2) (fcn (decide_eq_false s1) (fcn (decide_eq_false s0) (fcn (decide_eq_true v) (fcn (decide_eq_true z4) (fcn (decide_eq_false r5) (fcn (decide_eq_false r4) (fcn (decide_eq_false r3) (fcn (decide_eq_false r2) (fcn (decide_eq_false r1) (fcn (decide_eq_false r0) (hF.2)))))))))))⟩
      refine crow_ok hK g ka_w19_3_4 ?_
      have ag0 : agr 59000 (rset [(60016, (sd (pXs L xs) ρ (scT 2)).1), (60004, (sd (pXs L xs) ρ (scT 3)).1), (60032, (sd (pXs L xs) ρ (scT 4)).1)] ρ) ρ := rset_agr (fun p hp => by
        simp only [List.mem_cons, List.not_mem_nil, or_false] at hp
        rcases hp with rfl | rfl | rfl
        · show 59000 ≤ 60016; decide
        · show 59000 ≤ 60004; decide
        · show 59000 ≤ 60032; decide)
      have av0 : vok (pXs L xs) (rset [(60016, (sd (pXs L xs) ρ (scT 2)).1), (60004, (sd (pXs L xs) ρ (scT 3)).1), (60032, (sd (pXs L xs) ρ (scT 4)).1)] ρ) := rset_vok (fun p hp r hr => by
        simp only [List.mem_cons, List.not_mem_nil, or_false] at hp
        rcases hp with rfl | rfl | rfl
        · rw [show vrng 60016 = some (0, 65535) from rfl] at hr; cases hr; exact ⟨ge_i r2, le_i r3⟩
        · rw [show vrng 60004 = some (0, 255) from rfl] at hr; cases hr; exact ⟨ge_i r4, le_i r5⟩
        · rw [show vrng 60032 = none from rfl] at hr; cases hr) (fun p hp => by
        simp only [List.mem_cons, List.not_mem_nil, or_false] at hp
        rcases hp with rfl | rfl | rfl
        · show (60016 : Nat) % 2 = 0; decide
        · show (60004 : Nat) % 2 = 0; decide
        · show (60032 : Nat) % 2 = 0; decide) hF.1
      have ag := ag0
      have av := av0
      refine lgood (C := wideC c_set3_4) (t := 40 * (ρ.1 59744).toInt) (tq := 40 * (ρ.1 59744).toInt) (vt := [.arg 59808]) (FZ := fZ_w19) (nB := 300) (nC := 300) (SREL_w1 sT_set3_4 wk_c_set3_4) rfl (by decide +kernel) (hQ_I rfl rfl (by decide +kernel) kp_c_set3_4) rfl rfl rfl (by decide +kernel) rfl rfl rfl (by decide +kernel) ⟨1033, rfl⟩ rfl (fun w z => ⟨[], fM_w19, fun _ _ _ f hf => (by cases hf), kb_w19, kc_w19⟩) hL hB hi IH hF.1 (fun f hf => by cases hf) (by omega) ag (rset_kok hK) ⟨av, fcn (decide_eq_false s0) (fcn (decide_eq_false s1) (fcn (decide_eq_true s2) (fcn ((PT_ag ag hp).1.2.1 _ (fin1_ok (by decide +kernel))) (fcn ((PT_ag ag hp).1.2.1 _ (fin1_ok (by decide +kernel))) (fcn ((PT_ag ag hp).1.2.1 _ (fin1_ok (by decide +kernel))) (fcn ((PT_ag ag hp).1.2.1 _ (fin1_ok (by decide +kernel))) (fcn ((PT_ag ag hp).1.2.1 _ (fin1_ok (by decide +kernel))) (fcn ((PT_ag ag hp).1.2.1 _ (fin1_ok (by decide +kernel))) (fcn ((PT_ag ag hp).1.2.1 _ (fin1_ok (by decide +kernel))) (fcn ((PT_ag ag hp).1.2.1 _ (fin1_ok (by decide +kernel))) (fcn ((PT_ag ag hp).1.2.1 _ (fin1_ok (by decide +kernel))) (fcn ((PT_ag ag hp).1.2.1 _ (fin1_ok (by decide +kernel))) (fcn ((PT_ag ag hp).1.2.1 _ (fin1_ok (by decide +kernel))) (fcn ((PT_ag ag hp).1.2.1 _ (fin1_ok (by decide +kernel))) (fcn ((PT_ag ag hp).1.2.1 _ (fin1_ok (by decide +kernel))) (fcn ((PT_ag ag hp).1.2.1 _ (fin1_ok (by decide +kernel))) (fcn ((PT_ag ag hp).1.2.1 _ (fin1_ok (by decide +kernel))) (fcn ((PT_ag ag hp).1.2.1 _ (fin1_ok (by decide +kernel))) (fcn ((PT_ag ag hp).1.2.1 _ (fin1_ok (by decide +kernel))) (fcn ((PT_ag ag hp).1.2.1 _ (fin1_ok (by decide +kernel))) (fcn ((PT_ag ag hp).1.2.1 _ (fin1_ok (by decide +kernel))) (fcn ((PT_ag ag hp).1.2.1 _ (fin1_ok (by decide +kernel))) (fcn ((PT_ag ag hp).1.2.1 _ (fin1_ok (by decide +kernel))) (fcn ((PT_ag ag hp).1.2.1 _ (fin1_ok (by decide +kernel))) (fcn ((PT_ag ag hp).1.2.1 _ (fin1_ok (by decide +kernel))) (fcn ((PT_ag ag hp).1.2.1 _ (fin1_ok (by decide +kernel))) (fcn ((PT_ag ag hp).1.2.1 _ (fin1_ok (by decide +kernel))) ((fun f hf => by cases hf)))))))))))))))))))))))))))))⟩ (iok_S (L := im) (by decide +kernel) (PT_ag ag hp).1.2.2) (PT_ag ag hp) ?_ ?_
      · show [Value.ref 0, Value.int (3), Value.int _, Value.int _, Value.int _, Value.int (4)] = [Value.ref 0, sv (pXs L xs) ρ (scT 1), sv (pXs L xs) ρ (scT 2), sv (pXs L xs) ρ (scT 3), sv (pXs L xs) ρ (scT 4), sv (pXs L xs) ρ (scT 5)]
        rw [sv_int (t := scT 1) rfl, show (sd (pXs L xs) ρ (scT 1)).1 = 3 from v, sv_int (t := scT 2) rfl, sv_int (t := scT 3) rfl, sv_int (t := scT 4) rfl, sv_int (t := scT 5) rfl, show (sd (pXs L xs) ρ (scT 5)).1 = 4 from z4]
        rfl
      · show [Value.ref 219, Value.int (3), Value.int _, Value.int _, Value.int _, Value.int (4)] = [Value.ref 219, sv (pXs L xs) ρ (scT 1), sv (pXs L xs) ρ (scT 2), sv (pXs L xs) ρ (scT 3), sv (pXs L xs) ρ (scT 4), sv (pXs L xs) ρ (scT 5)]
        rw [sv_int (t := scT 1) rfl, show (sd (pXs L xs) ρ (scT 1)).1 = 3 from v, sv_int (t := scT 2) rfl, sv_int (t := scT 3) rfl, sv_int (t := scT 4) rfl, sv_int (t := scT 5) rfl, show (sd (pXs L xs) ρ (scT 5)).1 = 4 from z4]
        rfl
  have g : fok (pXs L xs) ρ (((0, scT 5, .int 4), false) :: ((0, scT 5, .int 2), false) :: ((0, scT 5, .int 1), false) :: ((2, .int 255, scT 3), false) :: ((2, scT 3, .int 0), false) :: ((2, .int 65535, scT 2), false) :: ((2, scT 2, .int 0), false) :: ((2, .int 3, scT 1), false) :: ((2, scT 1, .int 0), false) :: Fk 19) := ⟨hF.1, fcn (decide_eq_false z4) (fcn (decide_eq_false z2) (fcn (decide_eq_false z1) (fcn (decide_eq_false r5) (fcn (decide_eq_false r4) (fcn (decide_eq_false r3) (fcn (decide_eq_false r2) (fcn (decide_eq_false r1) (fcn (decide_eq_false r0) (hF.2)))))))))⟩
  exact lrow_ok hL hB hi IH hK g hp kr_19_z
