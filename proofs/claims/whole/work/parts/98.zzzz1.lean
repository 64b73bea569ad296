set_option maxRecDepth 20000
/-! ===== the law: cases by contracts ===== -/
theorem kr_4_0 : lrow 264 600 (((2, scT 1, .int 0), true) :: Fk 4) = true := by decide +kernel
theorem kr_4_1 : lrow 264 600 (((2, .int 3, scT 1), true) :: ((2, scT 1, .int 0), false) :: Fk 4) = true := by decide +kernel
theorem kr_4_2 : lrow 264 600 (((2, scT 2, .int (-1000000)), true) :: ((2, .int 3, scT 1), false) :: ((2, scT 1, .int 0), false) :: Fk 4) = true := by decide +kernel
theorem kr_4_3 : lrow 264 600 (((2, .int 1000000, scT 2), true) :: ((2, scT 2, .int (-1000000)), false) :: ((2, .int 3, scT 1), false) :: ((2, scT 1, .int 0), false) :: Fk 4) = true := by decide +kernel
noncomputable def hA_w4_0 : sF := frH 436 6 [(0, tr 0), (1, scT 1), (2, scT 2), (3, .int 0), (4, tr 348)] [.int 0, scT 2, scT 1, tr 0, .int 0, tr 348]
noncomputable def lA_w4_0 : sF := frL 286 zLv []
noncomputable def sA_w4_0 : sS := (hA_w4_0, [lA_w4_0], 19, zLw, 103275)
theorem ka_w4_0 : crow 264 400 (((0, scT 3, .int 0), true) :: ((2, .int 1000000, scT 2), false) :: ((2, scT 2, .int (-1000000)), false) :: ((2, .int 3, scT 1), false) :: ((2, scT 1, .int 0), false) :: Fk 4) sA_w4_0 = true := by decide +kernel
noncomputable def hB_w4_0 : sF := frH 436 7 [(0, tr 0), (1, scT 1), (2, scT 2), (3, .int 0), (4, tr 348)] ([.arg 59808] ++ [.int 0, tr 348])
noncomputable def sM_w4_0 : sS := (frL 307 ((5, .int 0) :: zLv) [.int 0, scT 2, scT 1, tr 219], [], 20, foot zLw fL8, 0)
noncomputable def fM_w4_0 : sFs := [((6, .arg 59841, .op1 .i2l (.arg 59808)), true)]
noncomputable def fZ_w4_0 : sFs := [((0, scT 3, .int 0), true)]
theorem kb_w4_0 : srun ysN pF pdfl mt_all hlp kR (fun F s => sinstX kR F (sgM s) fM_w4_0 sM_w4_0 s) 300 ([] ++ (fZ_w4_0 ++ Fi6)) (hB_w4_0, [lA_w4_0], 19, foot zLw fL8, 0) = true := by decide +kernel
theorem kc_w4_0 : srun ysN pF pdfl mt_all hlp kR sBkP 300 (((0, .arg 19232, .int 0), true) :: (fM_w4_0 ++ Fi6)) (frL 308 ((5, .int 0) :: zLv) ([.arg 59808] ++ []), [], 20, zLw, 103275) = true := by decide +kernel
noncomputable def hA_w4_1 : sF := frH 436 6 [(0, tr 0), (1, scT 1), (2, scT 2), (3, .int 1), (4, tr 348)] [.int 1, scT 2, scT 1, tr 0, .int 0, tr 348]
noncomputable def lA_w4_1 : sF := frL 286 zLv []
noncomputable def sA_w4_1 : sS := (hA_w4_1, [lA_w4_1], 19, zLw, 103275)
theorem ka_w4_1 : crow 264 400 (((0, scT 3, .int 0), false) :: ((2, .int 1000000, scT 2), false) :: ((2, scT 2, .int (-1000000)), false) :: ((2, .int 3, scT 1), false) :: ((2, scT 1, .int 0), false) :: Fk 4) sA_w4_1 = true := by decide +kernel
noncomputable def hB_w4_1 : sF := frH 436 7 [(0, tr 0), (1, scT 1), (2, scT 2), (3, .int 1), (4, tr 348)] ([.arg 59808] ++ [.int 0, tr 348])
noncomputable def sM_w4_1 : sS := (frL 307 ((5, .int 0) :: zLv) [.int 1, scT 2, scT 1, tr 219], [], 20, foot zLw fL8, 0)
noncomputable def fM_w4_1 : sFs := [((6, .arg 59841, .op1 .i2l (.arg 59808)), true)]
noncomputable def fZ_w4_1 : sFs := [((0, scT 3, .int 0), false)]
theorem kb_w4_1 : srun ysN pF pdfl mt_all hlp kR (fun F s => sinstX kR F (sgM s) fM_w4_1 sM_w4_1 s) 300 ([] ++ (fZ_w4_1 ++ Fi6)) (hB_w4_1, [lA_w4_1], 19, foot zLw fL8, 0) = true := by decide +kernel
theorem kc_w4_1 : srun ysN pF pdfl mt_all hlp kR sBkP 300 (((0, .arg 19232, .int 0), true) :: (fM_w4_1 ++ Fi6)) (frL 308 ((5, .int 0) :: zLv) ([.arg 59808] ++ []), [], 20, zLw, 103275) = true := by decide +kernel
theorem wk_c_handc : wok c_handc = true := by decide +kernel
theorem kp_c_handc {X : pX} {t : Int} : KP X c_handc t := KP_G (0, .int 0, .int 1) (fun _ _ _ _ => decide_eq_false (show ¬ (0 : Int32) = 1 by decide)) (by decide +kernel)
theorem zcp_4 {L : Nat} {xs : Nat → Int32} (hL : L ≤ 3073) : ZCP L xs 4 264 := by
  intro ρ hB hi IH hK hF hp
  have b1 := hB.1
  have b2 := hB.2.1
  by_cases r0 : (sd (pXs L xs) ρ (scT 1)).1 < (sd (pXs L xs) ρ (.int 0)).1
  · have g : fok (pXs L xs) ρ (((2, scT 1, .int 0), true) :: Fk 4) := ⟨hF.1, fcn (decide_eq_true r0) (hF.2)⟩
    exact lrow_ok hL hB hi IH hK g hp kr_4_0
  by_cases r1 : (sd (pXs L xs) ρ (.int 3)).1 < (sd (pXs L xs) ρ (scT 1)).1
  · have g : fok (pXs L xs) ρ (((2, .int 3, scT 1), true) :: ((2, scT 1, .int 0), false) :: Fk 4) := ⟨hF.1, fcn (decide_eq_true r1) (fcn (decide_eq_false r0) (hF.2))⟩
    exact lrow_ok hL hB hi IH hK g hp kr_4_1
  by_cases r2 : (sd (pXs L xs) ρ (scT 2)).1 < (sd (pXs L xs) ρ (.int (-1000000))).1
  · have g : fok (pXs L xs) ρ (((2, scT 2, .int (-1000000)), true) :: ((2, .int 3, scT 1), false) :: ((2, scT 1, .int 0), false) :: Fk 4) := ⟨hF.1, fcn (decide_eq_true r2) (fcn (decide_eq_false r1) (fcn (decide_eq_false r0) (hF.2)))⟩
    exact lrow_ok hL hB hi IH hK g hp kr_4_2
  by_cases r3 : (sd (pXs L xs) ρ (.int 1000000)).1 < (sd (pXs L xs) ρ (scT 2)).1
  · have g : fok (pXs L xs) ρ (((2, .int 1000000, scT 2), true) :: ((2, scT 2, .int (-1000000)), false) :: ((2, .int 3, scT 1), false) :: ((2, scT 1, .int 0), false) :: Fk 4) := ⟨hF.1, fcn (decide_eq_true r3) (fcn (decide_eq_false r2) (fcn (decide_eq_false r1) (fcn (decide_eq_false r0) (hF.2))))⟩
    exact lrow_ok hL hB hi IH hK g hp kr_4_3
  by_cases hb3 : (sd (pXs L xs) ρ (scT 3)).1 = (sd (pXs L xs) ρ (.int 0)).1
  · have g : fok (pXs L xs) ρ (((0, scT 3, .int 0), true) :: ((2, .int 1000000, scT 2), false) :: ((2, scT 2, .int (-1000000)), false) :: ((2, .int 3, scT 1), false) :: ((2, scT 1, .int 0), false) :: Fk 4) := ⟨hF.1, fcn (decide_eq_true hb3) (fcn (decide_eq_false r3) (fcn (decide_eq_false r2) (fcn (decide_eq_false r1) (fcn (decide_eq_false r0) (hF.2)))))⟩
    refine crow_ok hK g ka_w4_0 ?_
    have ag : agr 59000 (rset [(60028, (sd (pXs L xs) ρ (scT 1)).1), (60032, (sd (pXs L xs) ρ (scT 2)).1), (60002, 0)] ρ) ρ := rset_agr (fun p hp => by
      simp only [List.mem_cons, List.not_mem_nil, or_false] at hp
      rcases hp with rfl | rfl | rfl
      · show 59000 ≤ 60028; decide
      · show 59000 ≤ 60032; decide
      · show 59000 ≤ 60002; decide)
    have av : vok (pXs L xs) (rset [(60028, (sd (pXs L xs) ρ (scT 1)).1), (60032, (sd (pXs L xs) ρ (scT 2)).1), (60002, 0)] ρ) := rset_vok (fun p hp r hr => by
      simp only [List.mem_cons, List.not_mem_nil, or_false] at hp
      rcases hp with rfl | rfl | rfl
      · rw [show vrng 60028 = some (0, 3) from rfl] at hr; cases hr; exact ⟨ge_i r0, le_i r1⟩
      · rw [show vrng 60032 = none from rfl] at hr; cases hr
      · rw [show vrng 60002 = some (0, 1) from rfl] at hr; cases hr; exact ⟨by decide, by decide⟩) (fun p hp => by
      simp only [List.mem_cons, List.not_mem_nil, or_false] at hp
      rcases hp with rfl | rfl | rfl
      · show (60028 : Nat) % 2 = 0; decide
      · show (60032 : Nat) % 2 = 0; decide
      · show (60002 : Nat) % 2 = 0; decide) hF.1
    refine lgood (C := wideC c_handc) (t := 40 * (ρ.1 59744).toInt) (tq := 40 * (ρ.1 59744).toInt) (vt := [.arg 59808]) (FZ := fZ_w4_0) (nB := 300) (nC := 300) (SREL_w1 sT_handc wk_c_handc) rfl (by decide +kernel) (hQ_I rfl rfl (by decide +kernel) kp_c_handc) rfl rfl rfl (by decide +kernel) rfl rfl rfl (by decide +kernel) ⟨308, rfl⟩ rfl (fun w z => ⟨[], fM_w4_0, fun _ _ _ f hf => (by cases hf), kb_w4_0, kc_w4_0⟩) hL hB hi IH hF.1 (fall_S (L := ((0, scT 3, .int 0), true) :: ((2, .int 1000000, scT 2), false) :: ((2, scT 2, .int (-1000000)), false) :: ((2, .int 3, scT 1), false) :: ((2, scT 1, .int 0), false) :: Fk 4) (by decide +kernel) g.2) (by omega) ag (rset_kok hK) ⟨av, fcn (decide_eq_false r2) (fcn (decide_eq_false r3) ((fun f hf => by cases hf)))⟩ (iok_TD (by decide +kernel) (PT_ag ag hp).1) (PT_ag ag hp) ?_ ?_
    · show [Value.ref 0, Value.int _, Value.int _, Value.int _] = [Value.ref 0, sv (pXs L xs) ρ (scT 1), sv (pXs L xs) ρ (scT 2), Value.int 0]
      rw [sv_int (t := scT 1) rfl, sv_int (t := scT 2) rfl]
      rfl
    · show [Value.ref 219, Value.int _, Value.int _, Value.int _] = [Value.ref 219, sv (pXs L xs) ρ (scT 1), sv (pXs L xs) ρ (scT 2), Value.int 0]
      rw [sv_int (t := scT 1) rfl, sv_int (t := scT 2) rfl]
      rfl
  · have g : fok (pXs L xs) ρ (((0, scT 3, .int 0), false) :: ((2, .int 1000000, scT 2), false) :: ((2, scT 2, .int (-1000000)), false) :: ((2, .int 3, scT 1), false) :: ((2, scT 1, .int 0), false) :: Fk 4) := ⟨hF.1, fcn (decide_eq_false hb3) (fcn (decide_eq_false r3) (fcn (decide_eq_false r2) (fcn (decide_eq_false r1) (fcn (decide_eq_false r0) (hF.2)))))⟩
    refine crow_ok hK g ka_w4_1 ?_
    have ag : agr 59000 (rset [(60028, (sd (pXs L xs) ρ (scT 1)).1), (60032, (sd (pXs L xs) ρ (scT 2)).1), (60002, 1)] ρ) ρ := rset_agr (fun p hp => by
      simp only [List.mem_cons, List.not_mem_nil, or_false] at hp
      rcases hp with rfl | rfl | rfl
      · show 59000 ≤ 60028; decide
      · show 59000 ≤ 60032; decide
      · show 59000 ≤ 60002; decide)
    have av : vok (pXs L xs) (rset [(60028, (sd (pXs L xs) ρ (scT 1)).1), (60032, (sd (pXs L xs) ρ (scT 2)).1), (60002, 1)] ρ) := rset_vok (fun p hp r hr => by
      simp only [List.mem_cons, List.not_mem_nil, or_false] at hp
      rcases hp with rfl | rfl | rfl
      · rw [show vrng 60028 = some (0, 3) from rfl] at hr; cases hr; exact ⟨ge_i r0, le_i r1⟩
      · rw [show vrng 60032 = none from rfl] at hr; cases hr
      · rw [show vrng 60002 = some (0, 1) from rfl] at hr; cases hr; exact ⟨by decide, by decide⟩) (fun p hp => by
      simp only [List.mem_cons, List.not_mem_nil, or_false] at hp
      rcases hp with rfl | rfl | rfl
      · show (60028 : Nat) % 2 = 0; decide
      · show (60032 : Nat) % 2 = 0; decide
      · show (60002 : Nat) % 2 = 0; decide) hF.1
    refine lgood (C := wideC c_handc) (t := 40 * (ρ.1 59744).toInt) (tq := 40 * (ρ.1 59744).toInt) (vt := [.arg 59808]) (FZ := fZ_w4_1) (nB := 300) (nC := 300) (SREL_w1 sT_handc wk_c_handc) rfl (by decide +kernel) (hQ_I rfl rfl (by decide +kernel) kp_c_handc) rfl rfl rfl (by decide +kernel) rfl rfl rfl (by decide +kernel) ⟨308, rfl⟩ rfl (fun w z => ⟨[], fM_w4_1, fun _ _ _ f hf => (by cases hf), kb_w4_1, kc_w4_1⟩) hL hB hi IH hF.1 (fall_S (L := ((0, scT 3, .int 0), false) :: ((2, .int 1000000, scT 2), false) :: ((2, scT 2, .int (-1000000)), false) :: ((2, .int 3, scT 1), false) :: ((2, scT 1, .int 0), false) :: Fk 4) (by decide +kernel) g.2) (by omega) ag (rset_kok hK) ⟨av, fcn (decide_eq_false r2) (fcn (decide_eq_false r3) ((fun f hf => by cases hf)))⟩ (iok_TD (by decide +kernel) (PT_ag ag hp).1) (PT_ag ag hp) ?_ ?_
    · show [Value.ref 0, Value.int _, Value.int _, Value.int _] = [Value.ref 0, sv (pXs L xs) ρ (scT 1), sv (pXs L xs) ρ (scT 2), Value.int 1]
      rw [sv_int (t := scT 1) rfl, sv_int (t := scT 2) rfl]
      rfl
    · show [Value.ref 219, Value.int _, Value.int _, Value.int _] = [Value.ref 219, sv (pXs L xs) ρ (scT 1), sv (pXs L xs) ρ (scT 2), Value.int 1]
      rw [sv_int (t := scT 1) rfl, sv_int (t := scT 2) rfl]
      rfl
theorem kr_11_0 : lrow 625 600 (((2, scT 1, .int 0), true) :: Fk 11) = true := by decide +kernel
theorem kr_11_1 : lrow 625 600 (((2, .int 3, scT 1), true) :: ((2, scT 1, .int 0), false) :: Fk 11) = true := by decide +kernel
theorem kr_11_2 : lrow 625 600 (((2, scT 2, .int 0), true) :: ((2, .int 3, scT 1), false) :: ((2, scT 1, .int 0), false) :: Fk 11) = true := by decide +kernel
theorem kr_11_3 : lrow 625 600 (((2, .int 1, scT 2), true) :: ((2, scT 2, .int 0), false) :: ((2, .int 3, scT 1), false) :: ((2, scT 1, .int 0), false) :: Fk 11) = true := by decide +kernel
theorem kr_11_4 : lrow 625 600 (((2, scT 3, .int 0), true) :: ((2, .int 1, scT 2), false) :: ((2, scT 2, .int 0), false) :: ((2, .int 3, scT 1), false) :: ((2, scT 1, .int 0), false) :: Fk 11) = true := by decide +kernel
theorem kr_11_5 : lrow 625 600 (((2, .int 1023, scT 3), true) :: ((2, scT 3, .int 0), false) :: ((2, .int 1, scT 2), false) :: ((2, scT 2, .int 0), false) :: ((2, .int 3, scT 1), false) :: ((2, scT 1, .int 0), false) :: Fk 11) = true := by decide +kernel
noncomputable def hA_w11 : sF := frH 443 6 [(0, tr 0), (1, scT 1), (2, scT 2), (3, scT 3), (4, tr 348)] [scT 3, scT 2, scT 1, tr 0, .int 0, tr 348]
noncomputable def lA_w11 : sF := frL 643 zLv []
noncomputable def sA_w11 : sS := (hA_w11, [lA_w11], 19, zLw, 103275)
theorem ka_w11 : crow 625 400 (((2, .int 1023, scT 3), false) :: ((2, scT 3, .int 0), false) :: ((2, .int 1, scT 2), false) :: ((2, scT 2, .int 0), false) :: ((2, .int 3, scT 1), false) :: ((2, scT 1, .int 0), false) :: Fk 11) sA_w11 = true := by decide +kernel
noncomputable def hB_w11 : sF := frH 443 7 [(0, tr 0), (1, scT 1), (2, scT 2), (3, scT 3), (4, tr 348)] ([.arg 59808] ++ [.int 0, tr 348])
noncomputable def sM_w11 : sS := (frL 660 ((5, .int 0) :: zLv) [scT 3, scT 2, scT 1, tr 219], [], 20, foot zLw fL8, 0)
noncomputable def fM_w11 : sFs := [((6, .arg 59841, .op1 .i2l (.arg 59808)), true)]
noncomputable def fZ_w11 : sFs := []
theorem kb_w11 : srun ysN pF pdfl mt_all hlp kR (fun F s => sinstX kR F (sgM s) fM_w11 sM_w11 s) 300 ([] ++ (fZ_w11 ++ Fi6)) (hB_w11, [lA_w11], 19, foot zLw fL8, 0) = true := by decide +kernel
theorem kc_w11 : srun ysN pF pdfl mt_all hlp kR sBkP 300 (((0, .arg 19232, .int 0), true) :: (fM_w11 ++ Fi6)) (frL 661 ((5, .int 0) :: zLv) ([.arg 59808] ++ []), [], 20, zLw, 103275) = true := by decide +kernel
theorem wk_c_bankc : wok c_bankc = true := by decide +kernel
theorem kp_c_bankc {X : pX} {t : Int} : KP X c_bankc t := KP_of (by decide +kernel)
theorem zcp_11 {L : Nat} {xs : Nat → Int32} (hL : L ≤ 3073) : ZCP L xs 11 625 := by
  intro ρ hB hi IH hK hF hp
  have b1 := hB.1
  have b2 := hB.2.1
  by_cases r0 : (sd (pXs L xs) ρ (scT 1)).1 < (sd (pXs L xs) ρ (.int 0)).1
  · have g : fok (pXs L xs) ρ (((2, scT 1, .int 0), true) :: Fk 11) := ⟨hF.1, fcn (decide_eq_true r0) (hF.2)⟩
    exact lrow_ok hL hB hi IH hK g hp kr_11_0
  by_cases r1 : (sd (pXs L xs) ρ (.int 3)).1 < (sd (pXs L xs) ρ (scT 1)).1
  · have g : fok (pXs L xs) ρ (((2, .int 3, scT 1), true) :: ((2, scT 1, .int 0), false) :: Fk 11) := ⟨hF.1, fcn (decide_eq_true r1) (fcn (decide_eq_false r0) (hF.2))⟩
    exact lrow_ok hL hB hi IH hK g hp kr_11_1
  by_cases r2 : (sd (pXs L xs) ρ (scT 2)).1 < (sd (pXs L xs) ρ (.int 0)).1
  · have g : fok (pXs L xs) ρ (((2, scT 2, .int 0), true) :: ((2, .int 3, scT 1), false) :: ((2, scT 1, .int 0), false) :: Fk 11) := ⟨hF.1, fcn (decide_eq_true r2) (fcn (decide_eq_false r1) (fcn (decide_eq_false r0) (hF.2)))⟩
    exact lrow_ok hL hB hi IH hK g hp kr_11_2
  by_cases r3 : (sd (pXs L xs) ρ (.int 1)).1 < (sd (pXs L xs) ρ (scT 2)).1
  · have g : fok (pXs L xs) ρ (((2, .int 1, scT 2), true) :: ((2, scT 2, .int 0), false) :: ((2, .int 3, scT 1), false) :: ((2, scT 1, .int 0), false) :: Fk 11) := ⟨hF.1, fcn (decide_eq_true r3) (fcn (decide_eq_false r2) (fcn (decide_eq_false r1) (fcn (decide_eq_false r0) (hF.2))))⟩
    exact lrow_ok hL hB hi IH hK g hp kr_11_3
  by_cases r4 : (sd (pXs L xs) ρ (scT 3)).1 < (sd (pXs L xs) ρ (.int 0)).1
  · have g : fok (pXs L xs) ρ (((2, scT 3, .int 0), true) :: ((2, .int 1, scT 2), false) :: ((2, scT 2, .int 0), false) :: ((2, .int 3, scT 1), false) :: ((2, scT 1, .int 0), false) :: Fk 11) := ⟨hF.1, fcn (decide_eq_true r4) (fcn (decide_eq_false r3) (fcn (decide_eq_false r2) (fcn (decide_eq_false r1) (fcn (decide_eq_false r0) (hF.2)))))⟩
    exact lrow_ok hL hB hi IH hK g hp kr_11_4
  by_cases r5 : (sd (pXs L xs) ρ (.int 1023)).1 < (sd (pXs L xs) ρ (scT 3)).1
  · have g : fok (pXs L xs) ρ (((2, .int 1023, scT 3), true) :: ((2, scT 3, .int 0), false) :: ((2, .int 1, scT 2), false) :: ((2, scT 2, .int 0), false) :: ((2, .int 3, scT 1), false) :: ((2, scT 1, .int 0), false) :: Fk 11) := ⟨hF.1, fcn (decide_eq_true r5) (fcn (decide_eq_false r4) (fcn (decide_eq_false r3) (fcn (decide_eq_false r2) (fcn (decide_eq_false r1) (fcn (decide_eq_false r0) (hF.2))))))⟩
    exact lrow_ok hL hB hi IH hK g hp kr_11_5
  have g : fok (pXs L xs) ρ (((2, .int 1023, scT 3), false) :: ((2, scT 3, .int 0), false) :: ((2, .int 1, scT 2), false) :: ((2, scT 2, .int 0), false) :: ((2, .int 3, scT 1), false) :: ((2, scT 1, .int 0), false) :: Fk 11) := ⟨hF.1, fcn (decide_eq_false r5) (fcn (decide_eq_false r4) (fcn (decide_eq_false r3) (fcn (decide_eq_false r2) (fcn (decide_eq_false r1) (fcn (decide_eq_false r0) (hF.2))))))⟩
  refine crow_ok hK g ka_w11 ?_
  have ag : agr 59000 (rset [(60028, (sd (pXs L xs) ρ (scT 1)).1), (60002, (sd (pXs L xs) ρ (scT 2)).1), (60032, (sd (pXs L xs) ρ (scT 3)).1)] ρ) ρ := rset_agr (fun p hp => by
    simp only [List.mem_cons, List.not_mem_nil, or_false] at hp
    rcases hp with rfl | rfl | rfl
    · show 59000 ≤ 60028; decide
    · show 59000 ≤ 60002; decide
    · show 59000 ≤ 60032; decide)
  have av : vok (pXs L xs) (rset [(60028, (sd (pXs L xs) ρ (scT 1)).1), (60002, (sd (pXs L xs) ρ (scT 2)).1), (60032, (sd (pXs L xs) ρ (scT 3)).1)] ρ) := rset_vok (fun p hp r hr => by
    simp only [List.mem_cons, List.not_mem_nil, or_false] at hp
    rcases hp with rfl | rfl | rfl
    · rw [show vrng 60028 = some (0, 3) from rfl] at hr; cases hr; exact ⟨ge_i r0, le_i r1⟩
    · rw [show vrng 60002 = some (0, 1) from rfl] at hr; cases hr; exact ⟨ge_i r2, le_i r3⟩
    · rw [show vrng 60032 = none from rfl] at hr; cases hr) (fun p hp => by
    simp only [List.mem_cons, List.not_mem_nil, or_false] at hp
    rcases hp with rfl | rfl | rfl
    · show (60028 : Nat) % 2 = 0; decide
    · show (60002 : Nat) % 2 = 0; decide
    · show (60032 : Nat) % 2 = 0; decide) hF.1
  refine lgood (C := wideC c_bankc) (t := 40 * (ρ.1 59744).toInt) (tq := 40 * (ρ.1 59744).toInt) (vt := [.arg 59808]) (FZ := fZ_w11) (nB := 300) (nC := 300) (SREL_w1 sT_bankc wk_c_bankc) rfl (by decide +kernel) (hQ_I rfl rfl (by decide +kernel) kp_c_bankc) rfl rfl rfl (by decide +kernel) rfl rfl rfl (by decide +kernel) ⟨661, rfl⟩ rfl (fun w z => ⟨[], fM_w11, fun _ _ _ f hf => (by cases hf), kb_w11, kc_w11⟩) hL hB hi IH hF.1 (fun f hf => by cases hf) (by omega) ag (rset_kok hK) ⟨av, fcn (decide_eq_false r4) (fcn (decide_eq_false r5) ((fun f hf => by cases hf)))⟩ (fun c hc => by cases hc) (PT_ag ag hp) ?_ ?_
  · show [Value.ref 0, Value.int _, Value.int _, Value.int _] = [Value.ref 0, sv (pXs L xs) ρ (scT 1), sv (pXs L xs) ρ (scT 2), sv (pXs L xs) ρ (scT 3)]
    rw [sv_int (t := scT 1) rfl, sv_int (t := scT 2) rfl, sv_int (t := scT 3) rfl]
    rfl
  · show [Value.ref 219, Value.int _, Value.int _, Value.int _] = [Value.ref 219, sv (pXs L xs) ρ (scT 1), sv (pXs L xs) ρ (scT 2), sv (pXs L xs) ρ (scT 3)]
    rw [sv_int (t := scT 1) rfl, sv_int (t := scT 2) rfl, sv_int (t := scT 3) rfl]
    rfl
theorem kr_12_0 : lrow 680 600 (((2, scT 1, .int 0), true) :: Fk 12) = true := by decide +kernel
theorem kr_12_1 : lrow 680 600 (((2, .int 3, scT 1), true) :: ((2, scT 1, .int 0), false) :: Fk 12) = true := by decide +kernel
theorem kr_12_2 : lrow 680 600 (((2, scT 2, .int 0), true) :: ((2, .int 3, scT 1), false) :: ((2, scT 1, .int 0), false) :: Fk 12) = true := by decide +kernel
theorem kr_12_3 : lrow 680 600 (((2, .int 1, scT 2), true) :: ((2, scT 2, .int 0), false) :: ((2, .int 3, scT 1), false) :: ((2, scT 1, .int 0), false) :: Fk 12) = true := by decide +kernel
theorem kr_12_4 : lrow 680 600 (((2, scT 3, .int 0), true) :: ((2, .int 1, scT 2), false) :: ((2, scT 2, .int 0), false) :: ((2, .int 3, scT 1), false) :: ((2, scT 1, .int 0), false) :: Fk 12) = true := by decide +kernel
theorem kr_12_5 : lrow 680 600 (((2, .int 1023, scT 3), true) :: ((2, scT 3, .int 0), false) :: ((2, .int 1, scT 2), false) :: ((2, scT 2, .int 0), false) :: ((2, .int 3, scT 1), false) :: ((2, scT 1, .int 0), false) :: Fk 12) = true := by decide +kernel
theorem kr_12_6 : lrow 680 600 (((2, scT 4, .int 0), true) :: ((2, .int 1023, scT 3), false) :: ((2, scT 3, .int 0), false) :: ((2, .int 1, scT 2), false) :: ((2, scT 2, .int 0), false) :: ((2, .int 3, scT 1), false) :: ((2, scT 1, .int 0), false) :: Fk 12) = true := by decide +kernel
theorem kr_12_7 : lrow 680 600 (((2, .int 255, scT 4), true) :: ((2, scT 4, .int 0), false) :: ((2, .int 1023, scT 3), false) :: ((2, scT 3, .int 0), false) :: ((2, .int 1, scT 2), false) :: ((2, scT 2, .int 0), false) :: ((2, .int 3, scT 1), false) :: ((2, scT 1, .int 0), false) :: Fk 12) = true := by decide +kernel
noncomputable def hA_w12 : sF := frH 444 7 [(0, tr 0), (1, scT 1), (2, scT 2), (3, scT 3), (4, scT 4), (5, tr 348)] [scT 4, scT 3, scT 2, scT 1, tr 0, .int 0, tr 348]
noncomputable def lA_w12 : sF := frL 703 zLv []
noncomputable def sA_w12 : sS := (hA_w12, [lA_w12], 19, zLw, 103275)
theorem ka_w12 : crow 680 400 (((2, .int 255, scT 4), false) :: ((2, scT 4, .int 0), false) :: ((2, .int 1023, scT 3), false) :: ((2, scT 3, .int 0), false) :: ((2, .int 1, scT 2), false) :: ((2, scT 2, .int 0), false) :: ((2, .int 3, scT 1), false) :: ((2, scT 1, .int 0), false) :: Fk 12) sA_w12 = true := by decide +kernel
noncomputable def hB_w12 : sF := frH 444 8 [(0, tr 0), (1, scT 1), (2, scT 2), (3, scT 3), (4, scT 4), (5, tr 348)] ([.arg 59808] ++ [.int 0, tr 348])
noncomputable def sM_w12 : sS := (frL 725 ((5, .int 0) :: zLv) [scT 4, scT 3, scT 2, scT 1, tr 219], [], 20, foot zLw fL8, 0)
noncomputable def fM_w12 : sFs := [((6, .arg 59841, .op1 .i2l (.arg 59808)), true)]
noncomputable def fZ_w12 : sFs := []
theorem kb_w12 : srun ysN pF pdfl mt_all hlp kR (fun F s => sinstX kR F (sgM s) fM_w12 sM_w12 s) 300 ([] ++ (fZ_w12 ++ Fi6)) (hB_w12, [lA_w12], 19, foot zLw fL8, 0) = true := by decide +kernel
theorem kc_w12 : srun ysN pF pdfl mt_all hlp kR sBkP 300 (((0, .arg 19232, .int 0), true) :: (fM_w12 ++ Fi6)) (frL 726 ((5, .int 0) :: zLv) ([.arg 59808] ++ []), [], 20, zLw, 103275) = true := by decide +kernel
theorem wk_c_scratchc : wok c_scratchc = true := by decide +kernel
theorem kp_c_scratchc {X : pX} {t : Int} : KP X c_scratchc t := KP_of (by decide +kernel)
theorem zcp_12 {L : Nat} {xs : Nat → Int32} (hL : L ≤ 3073) : ZCP L xs 12 680 := by
  intro ρ hB hi IH hK hF hp
  have b1 := hB.1
  have b2 := hB.2.1
  by_cases r0 : (sd (pXs L xs) ρ (scT 1)).1 < (sd (pXs L xs) ρ (.int 0)).1
  · have g : fok (pXs L xs) ρ (((2, scT 1, .int 0), true) :: Fk 12) := ⟨hF.1, fcn (decide_eq_true r0) (hF.2)⟩
    exact lrow_ok hL hB hi IH hK g hp kr_12_0
  by_cases r1 : (sd (pXs L xs) ρ (.int 3)).1 < (sd (pXs L xs) ρ (scT 1)).1
  · have g : fok (pXs L xs) ρ (((2, .int 3, scT 1), true) :: ((2, scT 1, .int 0), false) :: Fk 12) := ⟨hF.1, fcn (decide_eq_true r1) (fcn (decide_eq_false r0) (hF.2))⟩
    exact lrow_ok hL hB hi IH hK g hp kr_12_1
  by_cases r2 : (sd (pXs L xs) ρ (scT 2)).1 < (sd (pXs L xs) ρ (.int 0)).1
  · have g : fok (pXs L xs) ρ (((2, scT 2, .int 0), true) :: ((2, .int 3, scT 1), false) :: ((2, scT 1, .int 0), false) :: Fk 12) := ⟨hF.1, fcn (decide_eq_true r2) (fcn (decide_eq_false r1) (fcn (decide_eq_false r0) (hF.2)))⟩
    exact lrow_ok hL hB hi IH hK g hp kr_12_2
  by_cases r3 : (sd (pXs L xs) ρ (.int 1)).1 < (sd (pXs L xs) ρ (scT 2)).1
  · have g : fok (pXs L xs) ρ (((2, .int 1, scT 2), true) :: ((2, scT 2, .int 0), false) :: ((2, .int 3, scT 1), false) :: ((2, scT 1, .int 0), false) :: Fk 12) := ⟨hF.1, fcn (decide_eq_true r3) (fcn (decide_eq_false r2) (fcn (decide_eq_false r1) (fcn (decide_eq_false r0) (hF.2))))⟩
    exact lrow_ok hL hB hi IH hK g hp kr_12_3
  by_cases r4 : (sd (pXs L xs) ρ (scT 3)).1 < (sd (pXs L xs) ρ (.int 0)).1
  · have g : fok (pXs L xs) ρ (((2, scT 3, .int 0), true) :: ((2, .int 1, scT 2), false) :: ((2, scT 2, .int 0), false) :: ((2, .int 3, scT 1), false) :: ((2, scT 1, .int 0), false) :: Fk 12) := ⟨hF.1, fcn (decide_eq_true r4) (fcn (decide_eq_false r3) (fcn (decide_eq_false r2) (fcn (decide_eq_false r1) (fcn (decide_eq_false r0) (hF.2)))))⟩
    exact lrow_ok hL hB hi IH hK g hp kr_12_4
  by_cases r5 : (sd (pXs L xs) ρ (.int 1023)).1 < (sd (pXs L xs) ρ (scT 3)).1
  · have g : fok (pXs L xs) ρ (((2, .int 1023, scT 3), true) :: ((2, scT 3, .int 0), false) :: ((2, .int 1, scT 2), false) :: ((2, scT 2, .int 0), false) :: ((2, .int 3, scT 1), false) :: ((2, scT 1, .int 0), false) :: Fk 12) := ⟨hF.1, fcn (decide_eq_true r5) (fcn (decide_eq_false r4) (fcn (decide_eq_false r3) (fcn (decide_eq_false r2) (fcn (decide_eq_false r1) (fcn (decide_eq_false r0) (hF.2))))))⟩
    exact lrow_ok hL hB hi IH hK g hp kr_12_5
  by_cases r6 : (sd (pXs L xs) ρ (scT 4)).1 < (sd (pXs L xs) ρ (.int 0)).1
  · have g : fok (pXs L xs) ρ (((2, scT 4, .int 0), true) :: ((2, .int 1023, scT 3), false) :: ((2, scT 3, .int 0), false) :: ((2, .int 1, scT 2), false) :: ((2, scT 2, .int 0), false) :: ((2, .int 3, scT 1), false) :: ((2, scT 1, .int 0), false) :: Fk 12) := ⟨hF.1, fcn (decide_eq_true r6) (fcn (decide_eq_false r5) (fcn (decide_eq_false r4) (fcn (decide_eq_false r3) (fcn (decide_eq_false r2) (fcn (decide_eq_false r1) (fcn (decide_eq_false r0) (hF.2)))))))⟩
    exact lrow_ok hL hB hi IH hK g hp kr_12_6
  by_cases r7 : (sd (pXs L xs) ρ (.int 255)).1 < (sd (pXs L xs) ρ (scT 4)).1
  · have g : fok (pXs L xs) ρ (((2, .int 255, scT 4), true) :: ((2, scT 4, .int 0), false) :: ((2, .int 1023, scT 3), false) :: ((2, scT 3, .int 0), false) :: ((2, .int 1, scT 2), false) :: ((2, scT 2, .int 0), false) :: ((2, .int 3, scT 1), false) :: ((2, scT 1, .int 0), false) :: Fk 12) := ⟨hF.1, fcn (decide_eq_true r7) (fcn (decide_eq_false r6) (fcn (decide_eq_false r5) (fcn (decide_eq_false r4) (fcn (decide_eq_false r3) (fcn (decide_eq_false r2) (fcn (decide_eq_false r1) (fcn (decide_eq_false r0) (hF.2))))))))⟩
    exact lrow_ok hL hB hi IH hK g hp kr_12_7
  have g : fok (pXs L xs) ρ (((2, .int 255, scT 4), false) :: ((2, scT 4, .int 0), false) :: ((2, .int 1023, scT 3), false) :: ((2, scT 3, .int 0), false) :: ((2, .int 1, scT 2), false) :: ((2, scT 2, .int 0), false) :: ((2, .int 3, scT 1), false) :: ((2, scT 1, .int 0), false) :: Fk 12) := ⟨hF.1, fcn (decide_eq_false r7) (fcn (decide_eq_false r6) (fcn (decide_eq_false r5) (fcn (decide_eq_false r4) (fcn (decide_eq_false r3) (fcn (decide_eq_false r2) (fcn (decide_eq_false r1) (fcn (decide_eq_false r0) (hF.2))))))))⟩
  refine crow_ok hK g ka_w12 ?_
  have ag : agr 59000 (rset [(60028, (sd (pXs L xs) ρ (scT 1)).1), (60002, (sd (pXs L xs) ρ (scT 2)).1), (60032, (sd (pXs L xs) ρ (scT 3)).1), (60004, (sd (pXs L xs) ρ (scT 4)).1)] ρ) ρ := rset_agr (fun p hp => by
    simp only [List.mem_cons, List.not_mem_nil, or_false] at hp
    rcases hp with rfl | rfl | rfl | rfl
    · show 59000 ≤ 60028; decide
    · show 59000 ≤ 60002; decide
    · show 59000 ≤ 60032; decide
    · show 59000 ≤ 60004; decide)
  have av : vok (pXs L xs) (rset [(60028, (sd (pXs L xs) ρ (scT 1)).1), (60002, (sd (pXs L xs) ρ (scT 2)).1), (60032, (sd (pXs L xs) ρ (scT 3)).1), (60004, (sd (pXs L xs) ρ (scT 4)).1)] ρ) := rset_vok (fun p hp r hr => by
    simp only [List.mem_cons, List.not_mem_nil, or_false] at hp
    rcases hp with rfl | rfl | rfl | rfl
    · rw [show vrng 60028 = some (0, 3) from rfl] at hr; cases hr; exact ⟨ge_i r0, le_i r1⟩
    · rw [show vrng 60002 = some (0, 1) from rfl] at hr; cases hr; exact ⟨ge_i r2, le_i r3⟩
    · rw [show vrng 60032 = none from rfl] at hr; cases hr
    · rw [show vrng 60004 = some (0, 255) from rfl] at hr; cases hr; exact ⟨ge_i r6, le_i r7⟩) (fun p hp => by
    simp only [List.mem_cons, List.not_mem_nil, or_false] at hp
    rcases hp with rfl | rfl | rfl | rfl
    · show (60028 : Nat) % 2 = 0; decide
    · show (60002 : Nat) % 2 = 0; decide
    · show (60032 : Nat) % 2 = 0; decide
    · show (60004 : Nat) % 2 = 0; decide) hF.1
  refine lgood (C := wideC c_scratchc) (t := 40 * (ρ.1 59744).toInt) (tq := 40 * (ρ.1 59744).toInt) (vt := [.arg 59808]) (FZ := fZ_w12) (nB := 300) (nC := 300) (SREL_w1 sT_scratchc wk_c_scratchc) rfl (by decide +kernel) (hQ_I rfl rfl (by decide +kernel) kp_c_scratchc) rfl rfl rfl (by decide +kernel) rfl rfl rfl (by decide +kernel) ⟨726, rfl⟩ rfl (fun w z => ⟨[], fM_w12, fun _ _ _ f hf => (by cases hf), kb_w12, kc_w12⟩) hL hB hi IH hF.1 (fun f hf => by cases hf) (by omega) ag (rset_kok hK) ⟨av, fcn (decide_eq_false r4) (fcn (decide_eq_false r5) ((fun f hf => by cases hf)))⟩ (fun c hc => by cases hc) (PT_ag ag hp) ?_ ?_
  · show [Value.ref 0, Value.int _, Value.int _, Value.int _, Value.int _] = [Value.ref 0, sv (pXs L xs) ρ (scT 1), sv (pXs L xs) ρ (scT 2), sv (pXs L xs) ρ (scT 3), sv (pXs L xs) ρ (scT 4)]
    rw [sv_int (t := scT 1) rfl, sv_int (t := scT 2) rfl, sv_int (t := scT 3) rfl, sv_int (t := scT 4) rfl]
    rfl
  · show [Value.ref 219, Value.int _, Value.int _, Value.int _, Value.int _] = [Value.ref 219, sv (pXs L xs) ρ (scT 1), sv (pXs L xs) ρ (scT 2), sv (pXs L xs) ρ (scT 3), sv (pXs L xs) ρ (scT 4)]
    rw [sv_int (t := scT 1) rfl, sv_int (t := scT 2) rfl, sv_int (t := scT 3) rfl, sv_int (t := scT 4) rfl]
    rfl
theorem kr_18_0 : lrow 935 600 (((2, scT 1, .int 0), true) :: Fk 18) = true := by decide +kernel
theorem kr_18_1 : lrow 935 600 (((2, .int 3, scT 1), true) :: ((2, scT 1, .int 0), false) :: Fk 18) = true := by decide +kernel
theorem kr_18_2 : lrow 935 600 (((2, scT 3, .int 0), true) :: ((2, .int 3, scT 1), false) :: ((2, scT 1, .int 0), false) :: Fk 18) = true := by decide +kernel
theorem kr_18_3 : lrow 935 600 (((2, .int 1000, scT 3), true) :: ((2, scT 3, .int 0), false) :: ((2, .int 3, scT 1), false) :: ((2, scT 1, .int 0), false) :: Fk 18) = true := by decide +kernel
noncomputable def hA_w18 : sF := frH 449 4 [(0, tr 0), (1, scT 1), (2, scT 2), (3, scT 3)] [scT 3, scT 2, scT 1, tr 0]
noncomputable def lA_w18 : sF := frL 952 zLv []
noncomputable def sA_w18 : sS := (hA_w18, [lA_w18], 19, zLw, 103275)
theorem ka_w18 : crow 935 400 (((2, .int 1000, scT 3), false) :: ((2, scT 3, .int 0), false) :: ((2, .int 3, scT 1), false) :: ((2, scT 1, .int 0), false) :: Fk 18) sA_w18 = true := by decide +kernel
noncomputable def hB_w18 : sF := frH 449 5 [(0, tr 0), (1, scT 1), (2, scT 2), (3, scT 3)] ([] ++ [])
noncomputable def sM_w18 : sS := (frL 969 ((5, .int 0) :: zLv) [scT 3, scT 2, scT 1, tr 219], [], 20, foot zLw fL8, 0)
noncomputable def fM_w18 : sFs := []
noncomputable def fZ_w18 : sFs := []
theorem kb_w18 : srun ysN pF pdfl mt_all hlp kR (fun F s => sinstX kR F (sgM s) fM_w18 sM_w18 s) 300 ([] ++ (fZ_w18 ++ Fi6)) (hB_w18, [lA_w18], 19, foot zLw fL8, 0) = true := by decide +kernel
theorem kc_w18 : srun ysN pF pdfl mt_all hlp kR sBkP 300 (((0, .arg 19232, .int 0), true) :: (fM_w18 ++ Fi6)) (frL 970 ((5, .int 0) :: zLv) ([] ++ []), [], 20, zLw, 103275) = true := by decide +kernel
theorem wk_c_planc : wok c_planc = true := by decide +kernel
theorem kp_c_planc {X : pX} {t : Int} : KP X c_planc t := KP_G (0, .int 0, .int 1) (fun _ _ _ _ => decide_eq_false (show ¬ (0 : Int32) = 1 by decide)) (by decide +kernel)
theorem zcp_18 {L : Nat} {xs : Nat → Int32} (hL : L ≤ 3073) : ZCP L xs 18 935 := by
  intro ρ hB hi IH hK hF hp
  have b1 := hB.1
  have b2 := hB.2.1
  by_cases r0 : (sd (pXs L xs) ρ (scT 1)).1 < (sd (pXs L xs) ρ (.int 0)).1
  · have g : fok (pXs L xs) ρ (((2, scT 1, .int 0), true) :: Fk 18) := ⟨hF.1, fcn (decide_eq_true r0) (hF.2)⟩
    exact lrow_ok hL hB hi IH hK g hp kr_18_0
  by_cases r1 : (sd (pXs L xs) ρ (.int 3)).1 < (sd (pXs L xs) ρ (scT 1)).1
  · have g : fok (pXs L xs) ρ (((2, .int 3, scT 1), true) :: ((2, scT 1, .int 0), false) :: Fk 18) := ⟨hF.1, fcn (decide_eq_true r1) (fcn (decide_eq_false r0) (hF.2))⟩
    exact lrow_ok hL hB hi IH hK g hp kr_18_1
  by_cases r2 : (sd (pXs L xs) ρ (scT 3)).1 < (sd (pXs L xs) ρ (.int 0)).1
  · have g : fok (pXs L xs) ρ (((2, scT 3, .int 0), true) :: ((2, .int 3, scT 1), false) :: ((2, scT 1, .int 0), false) :: Fk 18) := ⟨hF.1, fcn (decide_eq_true r2) (fcn (decide_eq_false r1) (fcn (decide_eq_false r0) (hF.2)))⟩
    exact lrow_ok hL hB hi IH hK g hp kr_18_2
  by_cases r3 : (sd (pXs L xs) ρ (.int 1000)).1 < (sd (pXs L xs) ρ (scT 3)).1
  · have g : fok (pXs L xs) ρ (((2, .int 1000, scT 3), true) :: ((2, scT 3, .int 0), false) :: ((2, .int 3, scT 1), false) :: ((2, scT 1, .int 0), false) :: Fk 18) := ⟨hF.1, fcn (decide_eq_true r3) (fcn (decide_eq_false r2) (fcn (decide_eq_false r1) (fcn (decide_eq_false r0) (hF.2))))⟩
    exact lrow_ok hL hB hi IH hK g hp kr_18_3
  have g : fok (pXs L xs) ρ (((2, .int 1000, scT 3), false) :: ((2, scT 3, .int 0), false) :: ((2, .int 3, scT 1), false) :: ((2, scT 1, .int 0), false) :: Fk 18) := ⟨hF.1, fcn (decide_eq_false r3) (fcn (decide_eq_false r2) (fcn (decide_eq_false r1) (fcn (decide_eq_false r0) (hF.2))))⟩
  refine crow_ok hK g ka_w18 ?_
  have ag : agr 59000 (rset [(60028, (sd (pXs L xs) ρ (scT 1)).1), (60032, (sd (pXs L xs) ρ (scT 2)).1), (60064, (sd (pXs L xs) ρ (scT 3)).1)] ρ) ρ := rset_agr (fun p hp => by
    simp only [List.mem_cons, List.not_mem_nil, or_false] at hp
    rcases hp with rfl | rfl | rfl
    · show 59000 ≤ 60028; decide
    · show 59000 ≤ 60032; decide
    · show 59000 ≤ 60064; decide)
  have av : vok (pXs L xs) (rset [(60028, (sd (pXs L xs) ρ (scT 1)).1), (60032, (sd (pXs L xs) ρ (scT 2)).1), (60064, (sd (pXs L xs) ρ (scT 3)).1)] ρ) := rset_vok (fun p hp r hr => by
    simp only [List.mem_cons, List.not_mem_nil, or_false] at hp
    rcases hp with rfl | rfl | rfl
    · rw [show vrng 60028 = some (0, 3) from rfl] at hr; cases hr; exact ⟨ge_i r0, le_i r1⟩
    · rw [show vrng 60032 = none from rfl] at hr; cases hr
    · rw [show vrng 60064 = none from rfl] at hr; cases hr) (fun p hp => by
    simp only [List.mem_cons, List.not_mem_nil, or_false] at hp
    rcases hp with rfl | rfl | rfl
    · show (60028 : Nat) % 2 = 0; decide
    · show (60032 : Nat) % 2 = 0; decide
    · show (60064 : Nat) % 2 = 0; decide) hF.1
  refine lgood (C := wideC c_planc) (t := 40 * (ρ.1 59744).toInt) (tq := 40 * (ρ.1 59744).toInt) (vt := []) (FZ := fZ_w18) (nB := 300) (nC := 300) (SREL_w1 sT_planc wk_c_planc) rfl (by decide +kernel) (hQ_V rfl (by decide +kernel) kp_c_planc) rfl rfl rfl (by decide +kernel) rfl rfl rfl (by decide +kernel) ⟨970, rfl⟩ rfl (fun w z => ⟨[], fM_w18, fun _ _ _ f hf => (by cases hf), kb_w18, kc_w18⟩) hL hB hi IH hF.1 (fun f hf => by cases hf) (by omega) ag (rset_kok hK) ⟨av, fcn (decide_eq_false r2) (fcn (decide_eq_false r3) (fcn ((PT_ag ag hp).1.2.1 _ (fin1_ok (by decide +kernel))) (fcn ((PT_ag ag hp).1.2.1 _ (fin1_ok (by decide +kernel))) (fcn ((PT_ag ag hp).1.2.1 _ (fin1_ok (by decide +kernel))) (fcn ((PT_ag ag hp).1.2.1 _ (fin1_ok (by decide +kernel))) (fcn ((PT_ag ag hp).1.2.1 _ (fin1_ok (by decide +kernel))) (fcn ((PT_ag ag hp).1.2.1 _ (fin1_ok (by decide +kernel))) (fcn ((PT_ag ag hp).1.2.1 _ (fin1_ok (by decide +kernel))) (fcn ((PT_ag ag hp).1.2.1 _ (fin1_ok (by decide +kernel))) (fcn ((PT_ag ag hp).1.2.1 _ (fin1_ok (by decide +kernel))) (fcn ((PT_ag ag hp).1.2.1 _ (fin1_ok (by decide +kernel))) (fcn ((PT_ag ag hp).1.2.1 _ (fin1_ok (by decide +kernel))) (fcn ((PT_ag ag hp).1.2.1 _ (fin1_ok (by decide +kernel))) (fcn ((PT_ag ag hp).1.2.1 _ (fin1_ok (by decide +kernel))) (fcn ((PT_ag ag hp).1.2.1 _ (fin1_ok (by decide +kernel))) (fcn ((PT_ag ag hp).1.2.1 _ (fin1_ok (by decide +kernel))) (fcn ((PT_ag ag hp).1.2.1 _ (fin1_ok (by decide +kernel))) (fcn ((PT_ag ag hp).1.2.1 _ (fin1_ok (by decide +kernel))) (fcn ((PT_ag ag hp).1.2.1 _ (fin1_ok (by decide +kernel))) (fcn ((PT_ag ag hp).1.2.1 _ (fin1_ok (by decide +kernel))) (fcn ((PT_ag ag hp).1.2.1 _ (fin1_ok (by decide +kernel))) (fcn ((PT_ag ag hp).1.2.1 _ (fin1_ok (by decide +kernel))) (fcn ((PT_ag ag hp).1.2.1 _ (fin1_ok (by decide +kernel))) (fcn ((PT_ag ag hp).1.2.1 _ (fin1_ok (by decide +kernel))) (fcn ((PT_ag ag hp).1.2.1 _ (fin1_ok (by decide +kernel))) (fcn ((PT_ag ag hp).1.2.1 _ (fin1_ok (by decide +kernel))) ((fun f hf => by cases hf))))))))))))))))))))))))))))⟩ (iok_S (L := im) (by decide +kernel) (PT_ag ag hp).1.2.2) (PT_ag ag hp) ?_ ?_
  · show [Value.ref 0, Value.int _, Value.int _, Value.int _] = [Value.ref 0, sv (pXs L xs) ρ (scT 1), sv (pXs L xs) ρ (scT 2), sv (pXs L xs) ρ (scT 3)]
    rw [sv_int (t := scT 1) rfl, sv_int (t := scT 2) rfl, sv_int (t := scT 3) rfl]
    rfl
  · show [Value.ref 219, Value.int _, Value.int _, Value.int _] = [Value.ref 219, sv (pXs L xs) ρ (scT 1), sv (pXs L xs) ρ (scT 2), sv (pXs L xs) ρ (scT 3)]
    rw [sv_int (t := scT 1) rfl, sv_int (t := scT 2) rfl, sv_int (t := scT 3) rfl]
    rfl
theorem kr_13_0 : lrow 745 600 (((2, scT 1, .int 0), true) :: Fk 13) = true := by decide +kernel
theorem kr_13_1 : lrow 745 600 (((2, .int 255, scT 1), true) :: ((2, scT 1, .int 0), false) :: Fk 13) = true := by decide +kernel
theorem kr_13_2 : lrow 745 600 (((0, .arg 17728, .int 1), true) :: ((2, .int 255, scT 1), false) :: ((2, scT 1, .int 0), false) :: Fk 13) = true := by decide +kernel
theorem kr_13_3 : lrow 745 600 (((2, .arg 1292, .int 160), false) :: ((0, .arg 17728, .int 1), false) :: ((2, .int 255, scT 1), false) :: ((2, scT 1, .int 0), false) :: Fk 13) = true := by decide +kernel
noncomputable def hA_w13 : sF := frH 445 4 [(0, tr 0), (1, scT 1), (2, tr 348)] [scT 1, tr 0, .int 0, tr 348]
noncomputable def lA_w13 : sF := frL 753 zLv []
noncomputable def sA_w13 : sS := (hA_w13, [lA_w13], 19, zLw, 103275)
theorem ka_w13 : crow 745 400 (((2, .arg 1292, .int 160), true) :: ((0, .arg 17728, .int 1), false) :: ((2, .int 255, scT 1), false) :: ((2, scT 1, .int 0), false) :: Fk 13) sA_w13 = true := by decide +kernel
noncomputable def hB_w13 : sF := frH 445 5 [(0, tr 0), (1, scT 1), (2, tr 348)] ([.arg 59808] ++ [.int 0, tr 348])
noncomputable def sM_w13 : sS := (frL 760 ((5, .int 0) :: zLv) [scT 1, tr 219], [], 20, foot zLw fL8, 0)
noncomputable def fM_w13 : sFs := [((6, .arg 59841, .op1 .i2l (.arg 59808)), true)]
noncomputable def fZ_w13 : sFs := []
theorem kb_w13 : srun ysN pF pdfl mt_all hlp kR (fun F s => sinstX kR F (sgM s) fM_w13 sM_w13 s) 300 ([] ++ (fZ_w13 ++ Fi6)) (hB_w13, [lA_w13], 19, foot zLw fL8, 0) = true := by decide +kernel
theorem kc_w13 : srun ysN pF pdfl mt_all hlp kR sBkP 300 (((0, .arg 19232, .int 0), true) :: (fM_w13 ++ Fi6)) (frL 761 ((5, .int 0) :: zLv) ([.arg 59808] ++ []), [], 20, zLw, 103275) = true := by decide +kernel
theorem wk_c_putc : wok c_putc = true := by decide +kernel
theorem kp_c_putc {X : pX} {t : Int} : KP X c_putc t := KP_G (0, .arg 17728, .int 1) (fun ρ ρ' am f => decide_eq_false (show ¬ ρ'.1 17728 = 1 by rw [kV_e am (i := 17728) (by decide +kernel)]; exact of_decide_eq_false (f.2 _ (fin1_ok (f := ((0, .arg 17728, .int 1), false)) (by decide +kernel))))) (by decide +kernel)
theorem zcp_13 {L : Nat} {xs : Nat → Int32} (hL : L ≤ 3073) : ZCP L xs 13 745 := by
  intro ρ hB hi IH hK hF hp
  have b1 := hB.1
  have b2 := hB.2.1
  by_cases r0 : (sd (pXs L xs) ρ (scT 1)).1 < (sd (pXs L xs) ρ (.int 0)).1
  · have g : fok (pXs L xs) ρ (((2, scT 1, .int 0), true) :: Fk 13) := ⟨hF.1, fcn (decide_eq_true r0) (hF.2)⟩
    exact lrow_ok hL hB hi IH hK g hp kr_13_0
  by_cases r1 : (sd (pXs L xs) ρ (.int 255)).1 < (sd (pXs L xs) ρ (scT 1)).1
  · have g : fok (pXs L xs) ρ (((2, .int 255, scT 1), true) :: ((2, scT 1, .int 0), false) :: Fk 13) := ⟨hF.1, fcn (decide_eq_true r1) (fcn (decide_eq_false r0) (hF.2))⟩
    exact lrow_ok hL hB hi IH hK g hp kr_13_1
  by_cases r2 : (sd (pXs L xs) ρ (.arg 17728)).1 = (sd (pXs L xs) ρ (.int 1)).1
  · have g : fok (pXs L xs) ρ (((0, .arg 17728, .int 1), true) :: ((2, .int 255, scT 1), false) :: ((2, scT 1, .int 0), false) :: Fk 13) := ⟨hF.1, fcn (decide_eq_true r2) (fcn (decide_eq_false r1) (fcn (decide_eq_false r0) (hF.2)))⟩
    exact lrow_ok hL hB hi IH hK g hp kr_13_2
  by_cases r3 : ¬ ((sd (pXs L xs) ρ (.arg 1292)).1 < (sd (pXs L xs) ρ (.int 160)).1)
  · have g : fok (pXs L xs) ρ (((2, .arg 1292, .int 160), false) :: ((0, .arg 17728, .int 1), false) :: ((2, .int 255, scT 1), false) :: ((2, scT 1, .int 0), false) :: Fk 13) := ⟨hF.1, fcn (decide_eq_false r3) (fcn (decide_eq_false r2) (fcn (decide_eq_false r1) (fcn (decide_eq_false r0) (hF.2))))⟩
    exact lrow_ok hL hB hi IH hK g hp kr_13_3
  have r3 := Classical.not_not.mp r3
  have g : fok (pXs L xs) ρ (((2, .arg 1292, .int 160), true) :: ((0, .arg 17728, .int 1), false) :: ((2, .int 255, scT 1), false) :: ((2, scT 1, .int 0), false) :: Fk 13) := ⟨hF.1, fcn (decide_eq_true r3) (fcn (decide_eq_false r2) (fcn (decide_eq_false r1) (fcn (decide_eq_false r0) (hF.2))))⟩
  refine crow_ok hK g ka_w13 ?_
  have ag : agr 59000 (rset [(60004, (sd (pXs L xs) ρ (scT 1)).1)] ρ) ρ := rset_agr (fun p hp => by
    simp only [List.mem_cons, List.not_mem_nil, or_false] at hp
    rcases hp with rfl
    · show 59000 ≤ 60004; decide)
  have av : vok (pXs L xs) (rset [(60004, (sd (pXs L xs) ρ (scT 1)).1)] ρ) := rset_vok (fun p hp r hr => by
    simp only [List.mem_cons, List.not_mem_nil, or_false] at hp
    rcases hp with rfl
    · rw [show vrng 60004 = some (0, 255) from rfl] at hr; cases hr; exact ⟨ge_i r0, le_i r1⟩) (fun p hp => by
    simp only [List.mem_cons, List.not_mem_nil, or_false] at hp
    rcases hp with rfl
    · show (60004 : Nat) % 2 = 0; decide) hF.1
  refine lgood (C := wideC c_putc) (t := 40 * (ρ.1 59744).toInt) (tq := 40 * (ρ.1 59744).toInt) (vt := [.arg 59808]) (FZ := fZ_w13) (nB := 300) (nC := 300) (SREL_w1 sT_putc wk_c_putc) rfl (by decide +kernel) (hQ_I rfl rfl (by decide +kernel) kp_c_putc) rfl rfl rfl (by decide +kernel) rfl rfl rfl (by decide +kernel) ⟨761, rfl⟩ rfl (fun w z => ⟨[], fM_w13, fun _ _ _ f hf => (by cases hf), kb_w13, kc_w13⟩) hL hB hi IH hF.1 (fun f hf => by cases hf) (by omega) ag (rset_kok hK) ⟨av, fcn (decide_eq_false r2) (fcn (decide_eq_true r3) ((fun f hf => by cases hf)))⟩ (fun c hc => by cases hc) (PT_ag ag hp) ?_ ?_
  · show [Value.ref 0, Value.int _] = [Value.ref 0, sv (pXs L xs) ρ (scT 1)]
    rw [sv_int (t := scT 1) rfl]
    rfl
  · show [Value.ref 219, Value.int _] = [Value.ref 219, sv (pXs L xs) ρ (scT 1)]
    rw [sv_int (t := scT 1) rfl]
    rfl
theorem kr_14_0 : lrow 780 600 (((0, .arg 17728, .int 1), true) :: Fk 14) = true := by decide +kernel
noncomputable def hA_w14 : sF := frH 446 3 [(0, tr 0), (1, tr 348)] [tr 0, .int 0, tr 348]
noncomputable def lA_w14 : sF := frL 783 zLv []
noncomputable def sA_w14 : sS := (hA_w14, [lA_w14], 19, zLw, 103275)
theorem ka_w14 : crow 780 400 (((0, .arg 17728, .int 1), false) :: Fk 14) sA_w14 = true := by decide +kernel
noncomputable def hB_w14 : sF := frH 446 4 [(0, tr 0), (1, tr 348)] ([.arg 59808] ++ [.int 0, tr 348])
noncomputable def sM_w14 : sS := (frL 785 ((5, .int 0) :: zLv) [tr 219], [], 20, foot zLw fL8, 0)
noncomputable def fM_w14 : sFs := [((6, .arg 59841, .op1 .i2l (.arg 59808)), true)]
noncomputable def fZ_w14 : sFs := []
theorem kb_w14 : srun ysN pF pdfl mt_all hlp kR (fun F s => sinstX kR F (sgM s) fM_w14 sM_w14 s) 300 ([] ++ (fZ_w14 ++ Fi6)) (hB_w14, [lA_w14], 19, foot zLw fL8, 0) = true := by decide +kernel
theorem kc_w14 : srun ysN pF pdfl mt_all hlp kR sBkP 300 (((0, .arg 19232, .int 0), true) :: (fM_w14 ++ Fi6)) (frL 786 ((5, .int 0) :: zLv) ([.arg 59808] ++ []), [], 20, zLw, 103275) = true := by decide +kernel
theorem wk_c_clearc : wok c_clearc = true := by decide +kernel
theorem kp_c_clearc {X : pX} {t : Int} : KP X c_clearc t := KP_G (0, .arg 17728, .int 1) (fun ρ ρ' am f => decide_eq_false (show ¬ ρ'.1 17728 = 1 by rw [kV_e am (i := 17728) (by decide +kernel)]; exact of_decide_eq_false (f.2 _ (fin1_ok (f := ((0, .arg 17728, .int 1), false)) (by decide +kernel))))) (by decide +kernel)
theorem zcp_14 {L : Nat} {xs : Nat → Int32} (hL : L ≤ 3073) : ZCP L xs 14 780 := by
  intro ρ hB hi IH hK hF hp
  have b1 := hB.1
  have b2 := hB.2.1
  by_cases r0 : (sd (pXs L xs) ρ (.arg 17728)).1 = (sd (pXs L xs) ρ (.int 1)).1
  · have g : fok (pXs L xs) ρ (((0, .arg 17728, .int 1), true) :: Fk 14) := ⟨hF.1, fcn (decide_eq_true r0) (hF.2)⟩
    exact lrow_ok hL hB hi IH hK g hp kr_14_0
  have g : fok (pXs L xs) ρ (((0, .arg 17728, .int 1), false) :: Fk 14) := ⟨hF.1, fcn (decide_eq_false r0) (hF.2)⟩
  refine crow_ok hK g ka_w14 ?_
  have ag : agr 59000 (rset [] ρ) ρ := rset_agr (fun p hp => by cases hp)
  have av : vok (pXs L xs) (rset [] ρ) := hF.1
  refine lgood (C := wideC c_clearc) (t := 40 * (ρ.1 59744).toInt) (tq := 40 * (ρ.1 59744).toInt) (vt := [.arg 59808]) (FZ := fZ_w14) (nB := 300) (nC := 300) (SREL_w1 sT_clearc wk_c_clearc) rfl (by decide +kernel) (hQ_I rfl rfl (by decide +kernel) kp_c_clearc) rfl rfl rfl (by decide +kernel) rfl rfl rfl (by decide +kernel) ⟨786, rfl⟩ rfl (fun w z => ⟨[], fM_w14, fun _ _ _ f hf => (by cases hf), kb_w14, kc_w14⟩) hL hB hi IH hF.1 (fun f hf => by cases hf) (by omega) ag (rset_kok hK) ⟨av, fcn (decide_eq_false r0) ((fun f hf => by cases hf))⟩ (fun c hc => by cases hc) (PT_ag ag hp) ?_ ?_
  · show [Value.ref 0] = [Value.ref 0]
    rfl
  · show [Value.ref 219] = [Value.ref 219]
    rfl
