set_option maxRecDepth 20000
/-! ===== the law: cases by contracts ===== -/
theorem kr_10_0 : lrow 581 600 (((2, scT 1, .int 0), true) :: Fk 10) = true := by decide +kernel
theorem kr_10_1 : lrow 581 600 (((2, .int 3, scT 1), true) :: ((2, scT 1, .int 0), false) :: Fk 10) = true := by decide +kernel
theorem kr_10_2 : lrow 581 600 (((2, scT 2, .int 0), true) :: ((2, .int 3, scT 1), false) :: ((2, scT 1, .int 0), false) :: Fk 10) = true := by decide +kernel
theorem kr_10_3 : lrow 581 600 (((2, .int 3, scT 2), true) :: ((2, scT 2, .int 0), false) :: ((2, .int 3, scT 1), false) :: ((2, scT 1, .int 0), false) :: Fk 10) = true := by decide +kernel
noncomputable def hA_w10 : sF := frH 442 5 [(0, tr 0), (1, scT 1), (2, scT 2), (3, tr 348)] [scT 2, scT 1, tr 0, .int 0, tr 348]
noncomputable def lA_w10 : sF := frL 594 zLv []
noncomputable def sA_w10 : sS := (hA_w10, [lA_w10], 19, zLw, 103275)
theorem ka_w10 : crow 581 400 (((2, .int 3, scT 2), false) :: ((2, scT 2, .int 0), false) :: ((2, .int 3, scT 1), false) :: ((2, scT 1, .int 0), false) :: Fk 10) sA_w10 = true := by decide +kernel
noncomputable def hB_w10 : sF := frH 442 6 [(0, tr 0), (1, scT 1), (2, scT 2), (3, tr 348)] ([.arg 59809] ++ [.int 0, tr 348])
noncomputable def sM_w10 : sS := (frL 606 ((5, .int 0) :: zLv) [scT 2, scT 1, tr 219], [], 20, foot zLw fL8, 0)
noncomputable def fM_w10 : sFs := [((6, .arg 59841, .arg 59809), true)]
noncomputable def fZ_w10 : sFs := []
theorem kb_w10 : srun ysN pF pdfl mt_all hlp kR (fun F s => sinstX kR F (sgM s) fM_w10 sM_w10 s) 300 ([] ++ (fZ_w10 ++ Fi6)) (hB_w10, [lA_w10], 19, foot zLw fL8, 0) = true := by decide +kernel
theorem kc_w10 : srun ysN pF pdfl mt_all hlp kR sBkP 300 (((0, .arg 19232, .int 0), true) :: (fM_w10 ++ Fi6)) (frL 607 ((5, .int 0) :: zLv) ([.arg 59809] ++ []), [], 20, zLw, 103275) = true := by decide +kernel
theorem wk_c_placec : wok c_placec = true := by decide +kernel
theorem kp_c_placec {X : pX} {t : Int} : KP X c_placec t := KP_of (by decide +kernel)
theorem wk_c_place2 : wok c_place2 = true := by decide +kernel
theorem kp_c_place2 {X : pX} {t : Int} : KP X c_place2 t := KP_of (by decide +kernel)
theorem wk_c_place3 : wok c_place3 = true := by decide +kernel
theorem kp_c_place3 {X : pX} {t : Int} : KP X c_place3 t := KP_of (by decide +kernel)
theorem zcp_10 {L : Nat} {xs : Nat → Int32} (hL : L ≤ 3073) : ZCP L xs 10 581 := by
  intro ρ hB hi IH hK hF hp
  have b1 := hB.1
  have b2 := hB.2.1
  by_cases r0 : (sd (pXs L xs) ρ (scT 1)).1 < (sd (pXs L xs) ρ (.int 0)).1
  · have g : fok (pXs L xs) ρ (((2, scT 1, .int 0), true) :: Fk 10) := ⟨hF.1, fcn (decide_eq_true r0) (hF.2)⟩
    exact lrow_ok hL hB hi IH hK g hp kr_10_0
  by_cases r1 : (sd (pXs L xs) ρ (.int 3)).1 < (sd (pXs L xs) ρ (scT 1)).1
  · have g : fok (pXs L xs) ρ (((2, .int 3, scT 1), true) :: ((2, scT 1, .int 0), false) :: Fk 10) := ⟨hF.1, fcn (decide_eq_true r1) (fcn (decide_eq_false r0) (hF.2))⟩
    exact lrow_ok hL hB hi IH hK g hp kr_10_1
  by_cases r2 : (sd (pXs L xs) ρ (scT 2)).1 < (sd (pXs L xs) ρ (.int 0)).1
  · have g : fok (pXs L xs) ρ (((2, scT 2, .int 0), true) :: ((2, .int 3, scT 1), false) :: ((2, scT 1, .int 0), false) :: Fk 10) := ⟨hF.1, fcn (decide_eq_true r2) (fcn (decide_eq_false r1) (fcn (decide_eq_false r0) (hF.2)))⟩
    exact lrow_ok hL hB hi IH hK g hp kr_10_2
  by_cases r3 : (sd (pXs L xs) ρ (.int 3)).1 < (sd (pXs L xs) ρ (scT 2)).1
  · have g : fok (pXs L xs) ρ (((2, .int 3, scT 2), true) :: ((2, scT 2, .int 0), false) :: ((2, .int 3, scT 1), false) :: ((2, scT 1, .int 0), false) :: Fk 10) := ⟨hF.1, fcn (decide_eq_true r3) (fcn (decide_eq_false r2) (fcn (decide_eq_false r1) (fcn (decide_eq_false r0) (hF.2))))⟩
    exact lrow_ok hL hB hi IH hK g hp kr_10_3
  have g : fok (pXs L xs) ρ (((2, .int 3, scT 2), false) :: ((2, scT 2, .int 0), false) :: ((2, .int 3, scT 1), false) :: ((2, scT 1, .int 0), false) :: Fk 10) := ⟨hF.1, fcn (decide_eq_false r3) (fcn (decide_eq_false r2) (fcn (decide_eq_false r1) (fcn (decide_eq_false r0) (hF.2))))⟩
  refine crow_ok hK g ka_w10 ?_
  have w1 : (0 : Int) ≤ ((sd (pXs L xs) ρ (scT 2)).1).toInt := ge_i r2
  have w2 : ((sd (pXs L xs) ρ (scT 2)).1).toInt ≤ (3 : Int) := le_i r3
  rcases (show ((sd (pXs L xs) ρ (scT 2)).1).toInt = 0 ∨ ((sd (pXs L xs) ρ (scT 2)).1).toInt = 1 ∨ ((sd (pXs L xs) ρ (scT 2)).1).toInt = 2 ∨ ((sd (pXs L xs) ρ (scT 2)).1).toInt = 3 by omega) with w | w | w | w
  · have v0 : (sd (pXs L xs) ρ (scT 2)).1 = 0 := Int32.toInt_inj.mp (by rw [w]; rfl)
    have ag : agr 59000 (rset [(60028, (sd (pXs L xs) ρ (scT 1)).1), (60002, (sd (pXs L xs) ρ (scT 2)).1)] ρ) ρ := rset_agr (fun p hp => by
      simp only [List.mem_cons, List.not_mem_nil, or_false] at hp
      rcases hp with rfl | rfl
      · show 59000 ≤ 60028; decide
      · show 59000 ≤ 60002; decide)
    have av : vok (pXs L xs) (rset [(60028, (sd (pXs L xs) ρ (scT 1)).1), (60002, (sd (pXs L xs) ρ (scT 2)).1)] ρ) := rset_vok (fun p hp r hr => by
      simp only [List.mem_cons, List.not_mem_nil, or_false] at hp
      rcases hp with rfl | rfl
      · rw [show vrng 60028 = some (0, 3) from rfl] at hr; cases hr; exact ⟨ge_i r0, le_i r1⟩
      · rw [show vrng 60002 = some (0, 1) from rfl] at hr; cases hr; rw [v0]; exact ⟨by decide, by decide⟩) (fun p hp => by
      simp only [List.mem_cons, List.not_mem_nil, or_false] at hp
      rcases hp with rfl | rfl
      · show (60028 : Nat) % 2 = 0; decide
      · show (60002 : Nat) % 2 = 0; decide) hF.1
    refine lgood (C := wideC c_placec) (t := 40 * (ρ.1 59744).toInt) (tq := 40 * (ρ.1 59744).toInt) (vt := [.arg 59809]) (FZ := fZ_w10) (nB := 300) (nC := 300) (SREL_w1 sT_placec wk_c_placec) rfl (by decide +kernel) (hQ_J rfl rfl (by decide +kernel) kp_c_placec) rfl rfl rfl (by decide +kernel) rfl rfl rfl (by decide +kernel) ⟨607, rfl⟩ rfl (fun w z => ⟨[], fM_w10, fun _ _ _ f hf => (by cases hf), kb_w10, kc_w10⟩) hL hB hi IH hF.1 (fun f hf => by cases hf) (by omega) ag (rset_kok hK) ⟨av, (fun f hf => by cases hf)⟩ (iok_TD (by decide +kernel) (PT_ag ag hp).1) (PT_ag ag hp) ?_ ?_
    · show [Value.ref 0, Value.int _, Value.int _] = [Value.ref 0, sv (pXs L xs) ρ (scT 1), sv (pXs L xs) ρ (scT 2)]
      rw [sv_int (t := scT 1) rfl, sv_int (t := scT 2) rfl]
      rfl
    · show [Value.ref 219, Value.int _, Value.int _] = [Value.ref 219, sv (pXs L xs) ρ (scT 1), sv (pXs L xs) ρ (scT 2)]
      rw [sv_int (t := scT 1) rfl, sv_int (t := scT 2) rfl]
      rfl
  · have v1 : (sd (pXs L xs) ρ (scT 2)).1 = 1 := Int32.toInt_inj.mp (by rw [w]; rfl)
    have ag : agr 59000 (rset [(60028, (sd (pXs L xs) ρ (scT 1)).1), (60002, (sd (pXs L xs) ρ (scT 2)).1)] ρ) ρ := rset_agr (fun p hp => by
      simp only [List.mem_cons, List.not_mem_nil, or_false] at hp
      rcases hp with rfl | rfl
      · show 59000 ≤ 60028; decide
      · show 59000 ≤ 60002; decide)
    have av : vok (pXs L xs) (rset [(60028, (sd (pXs L xs) ρ (scT 1)).1), (60002, (sd (pXs L xs) ρ (scT 2)).1)] ρ) := rset_vok (fun p hp r hr => by
      simp only [List.mem_cons, List.not_mem_nil, or_false] at hp
      rcases hp with rfl | rfl
      · rw [show vrng 60028 = some (0, 3) from rfl] at hr; cases hr; exact ⟨ge_i r0, le_i r1⟩
      · rw [show vrng 60002 = some (0, 1) from rfl] at hr; cases hr; rw [v1]; exact ⟨by decide, by decide⟩) (fun p hp => by
      simp only [List.mem_cons, List.not_mem_nil, or_false] at hp
      rcases hp with rfl | rfl
      · show (60028 : Nat) % 2 = 0; decide
      · show (60002 : Nat) % 2 = 0; decide) hF.1
    refine lgood (C := wideC c_placec) (t := 40 * (ρ.1 59744).toInt) (tq := 40 * (ρ.1 59744).toInt) (vt := [.arg 59809]) (FZ := fZ_w10) (nB := 300) (nC := 300) (SREL_w1 sT_placec wk_c_placec) rfl (by decide +kernel) (hQ_J rfl rfl (by decide +kernel) kp_c_placec) rfl rfl rfl (by decide +kernel) rfl rfl rfl (by decide +kernel) ⟨607, rfl⟩ rfl (fun w z => ⟨[], fM_w10, fun _ _ _ f hf => (by cases hf), kb_w10, kc_w10⟩) hL hB hi IH hF.1 (fun f hf => by cases hf) (by omega) ag (rset_kok hK) ⟨av, (fun f hf => by cases hf)⟩ (iok_TD (by decide +kernel) (PT_ag ag hp).1) (PT_ag ag hp) ?_ ?_
    · show [Value.ref 0, Value.int _, Value.int _] = [Value.ref 0, sv (pXs L xs) ρ (scT 1), sv (pXs L xs) ρ (scT 2)]
      rw [sv_int (t := scT 1) rfl, sv_int (t := scT 2) rfl]
      rfl
    · show [Value.ref 219, Value.int _, Value.int _] = [Value.ref 219, sv (pXs L xs) ρ (scT 1), sv (pXs L xs) ρ (scT 2)]
      rw [sv_int (t := scT 1) rfl, sv_int (t := scT 2) rfl]
      rfl
  · have v2 : (sd (pXs L xs) ρ (scT 2)).1 = 2 := Int32.toInt_inj.mp (by rw [w]; rfl)
    have ag : agr 59000 (rset [(60028, (sd (pXs L xs) ρ (scT 1)).1)] ρ) ρ := rset_agr (fun p hp => by
      simp only [List.mem_cons, List.not_mem_nil, or_false] at hp
      rcases hp with rfl
      · show 59000 ≤ 60028; decide)
    have av : vok (pXs L xs) (rset [(60028, (sd (pXs L xs) ρ (scT 1)).1)] ρ) := rset_vok (fun p hp r hr => by
      simp only [List.mem_cons, List.not_mem_nil, or_false] at hp
      rcases hp with rfl
      · rw [show vrng 60028 = some (0, 3) from rfl] at hr; cases hr; exact ⟨ge_i r0, le_i r1⟩) (fun p hp => by
      simp only [List.mem_cons, List.not_mem_nil, or_false] at hp
      rcases hp with rfl
      · show (60028 : Nat) % 2 = 0; decide) hF.1
    refine lgood (C := wideC c_place2) (t := 40 * (ρ.1 59744).toInt) (tq := 40 * (ρ.1 59744).toInt) (vt := [.arg 59809]) (FZ := fZ_w10) (nB := 300) (nC := 300) (SREL_w1 sT_place2 wk_c_place2) rfl (by decide +kernel) (hQ_J rfl rfl (by decide +kernel) kp_c_place2) rfl rfl rfl (by decide +kernel) rfl rfl rfl (by decide +kernel) ⟨607, rfl⟩ rfl (fun w z => ⟨[], fM_w10, fun _ _ _ f hf => (by cases hf), kb_w10, kc_w10⟩) hL hB hi IH hF.1 (fun f hf => by cases hf) (by omega) ag (rset_kok hK) ⟨av, (fun f hf => by cases hf)⟩ (iok_TD (by decide +kernel) (PT_ag ag hp).1) (PT_ag ag hp) ?_ ?_
    · show [Value.ref 0, Value.int _, Value.int (2)] = [Value.ref 0, sv (pXs L xs) ρ (scT 1), sv (pXs L xs) ρ (scT 2)]
      rw [sv_int (t := scT 1) rfl, sv_int (t := scT 2) rfl, show (sd (pXs L xs) ρ (scT 2)).1 = 2 from v2]
      rfl
    · show [Value.ref 219, Value.int _, Value.int (2)] = [Value.ref 219, sv (pXs L xs) ρ (scT 1), sv (pXs L xs) ρ (scT 2)]
      rw [sv_int (t := scT 1) rfl, sv_int (t := scT 2) rfl, show (sd (pXs L xs) ρ (scT 2)).1 = 2 from v2]
      rfl
  · have v3 : (sd (pXs L xs) ρ (scT 2)).1 = 3 := Int32.toInt_inj.mp (by rw [w]; rfl)
    have ag : agr 59000 (rset [(60028, (sd (pXs L xs) ρ (scT 1)).1)] ρ) ρ := rset_agr (fun p hp => by
      simp only [List.mem_cons, List.not_mem_nil, or_false] at hp
      rcases hp with rfl
      · show 59000 ≤ 60028; decide)
    have av : vok (pXs L xs) (rset [(60028, (sd (pXs L xs) ρ (scT 1)).1)] ρ) := rset_vok (fun p hp r hr => by
      simp only [List.mem_cons, List.not_mem_nil, or_false] at hp
      rcases hp with rfl
      · rw [show vrng 60028 = some (0, 3) from rfl] at hr; cases hr; exact ⟨ge_i r0, le_i r1⟩) (fun p hp => by
      simp only [List.mem_cons, List.not_mem_nil, or_false] at hp
      rcases hp with rfl
      · show (60028 : Nat) % 2 = 0; decide) hF.1
    refine lgood (C := wideC c_place3) (t := 40 * (ρ.1 59744).toInt) (tq := 40 * (ρ.1 59744).toInt) (vt := [.arg 59809]) (FZ := fZ_w10) (nB := 300) (nC := 300) (SREL_w1 sT_place3 wk_c_place3) rfl (by decide +kernel) (hQ_J rfl rfl (by decide +kernel) kp_c_place3) rfl rfl rfl (by decide +kernel) rfl rfl rfl (by decide +kernel) ⟨607, rfl⟩ rfl (fun w z => ⟨[], fM_w10, fun _ _ _ f hf => (by cases hf), kb_w10, kc_w10⟩) hL hB hi IH hF.1 (fun f hf => by cases hf) (by omega) ag (rset_kok hK) ⟨av, (fun f hf => by cases hf)⟩ (iok_TD (by decide +kernel) (PT_ag ag hp).1) (PT_ag ag hp) ?_ ?_
    · show [Value.ref 0, Value.int _, Value.int (3)] = [Value.ref 0, sv (pXs L xs) ρ (scT 1), sv (pXs L xs) ρ (scT 2)]
      rw [sv_int (t := scT 1) rfl, sv_int (t := scT 2) rfl, show (sd (pXs L xs) ρ (scT 2)).1 = 3 from v3]
      rfl
    · show [Value.ref 219, Value.int _, Value.int (3)] = [Value.ref 219, sv (pXs L xs) ρ (scT 1), sv (pXs L xs) ρ (scT 2)]
      rw [sv_int (t := scT 1) rfl, sv_int (t := scT 2) rfl, show (sd (pXs L xs) ρ (scT 2)).1 = 3 from v3]
      rfl
theorem kr_22_0 : lrow 1142 600 (((2, scT 1, .int 0), true) :: Fk 22) = true := by decide +kernel
theorem kr_22_1 : lrow 1142 600 (((2, scT 1, .arg 1376), false) :: ((2, scT 1, .int 0), false) :: Fk 22) = true := by decide +kernel
theorem kr_22_2 : lrow 1142 600 (((2, scT 1, .sub (.arg 1376) (.int 256)), true) :: ((2, scT 1, .arg 1376), true) :: ((2, scT 1, .int 0), false) :: Fk 22) = true := by decide +kernel
theorem kr_22_3 : lrow 1142 600 (((2, scT 2, .int 0), true) :: ((2, scT 1, .sub (.arg 1376) (.int 256)), false) :: ((2, scT 1, .arg 1376), true) :: ((2, scT 1, .int 0), false) :: Fk 22) = true := by decide +kernel
theorem kr_22_4 : lrow 1142 600 (((2, .int 5, scT 2), true) :: ((2, scT 2, .int 0), false) :: ((2, scT 1, .sub (.arg 1376) (.int 256)), false) :: ((2, scT 1, .arg 1376), true) :: ((2, scT 1, .int 0), false) :: Fk 22) = true := by decide +kernel
noncomputable def hA_w22 : sF := frH 453 5 [(0, tr 0), (1, scT 1), (2, scT 2), (3, tr 348)] [scT 2, scT 1, tr 0, .int 0, tr 348]
noncomputable def lA_w22 : sF := frL 1155 zLv []
noncomputable def sA_w22 : sS := (hA_w22, [lA_w22], 19, zLw, 103275)
theorem ka_w22 : crow 1142 400 (((2, .int 5, scT 2), false) :: ((2, scT 2, .int 0), false) :: ((2, scT 1, .sub (.arg 1376) (.int 256)), false) :: ((2, scT 1, .arg 1376), true) :: ((2, scT 1, .int 0), false) :: Fk 22) sA_w22 = true := by decide +kernel
noncomputable def hB_w22 : sF := frH 453 6 [(0, tr 0), (1, scT 1), (2, scT 2), (3, tr 348)] ([.arg 59809] ++ [.int 0, tr 348])
noncomputable def sM_w22 : sS := (frL 1167 ((5, .int 0) :: zLv) [scT 2, scT 1, tr 219], [], 20, foot zLw fL8, 0)
noncomputable def fM_w22 : sFs := [((6, .arg 59841, .arg 59809), true)]
noncomputable def fZ_w22 : sFs := []
theorem kb_w22 : srun ysN pF pdfl mt_all hlp kR (fun F s => sinstX kR F (sgM s) fM_w22 sM_w22 s) 300 ([] ++ (fZ_w22 ++ Fi6)) (hB_w22, [lA_w22], 19, foot zLw fL8, 0) = true := by decide +kernel
theorem kc_w22 : srun ysN pF pdfl mt_all hlp kR sBkP 300 (((0, .arg 19232, .int 0), true) :: (fM_w22 ++ Fi6)) (frL 1168 ((5, .int 0) :: zLv) ([.arg 59809] ++ []), [], 20, zLw, 103275) = true := by decide +kernel
theorem wk_c_log0 : wok c_log0 = true := by decide +kernel
theorem kp_c_log0 {X : pX} {t : Int} : KP X c_log0 t := KP_of (by decide +kernel)
theorem wk_c_log1 : wok c_log1 = true := by decide +kernel
theorem kp_c_log1 {X : pX} {t : Int} : KP X c_log1 t := KP_of (by decide +kernel)
theorem wk_c_log2 : wok c_log2 = true := by decide +kernel
theorem kp_c_log2 {X : pX} {t : Int} : KP X c_log2 t := KP_of (by decide +kernel)
theorem wk_c_log3 : wok c_log3 = true := by decide +kernel
theorem kp_c_log3 {X : pX} {t : Int} : KP X c_log3 t := KP_of (by decide +kernel)
theorem wk_c_log4 : wok c_log4 = true := by decide +kernel
theorem kp_c_log4 {X : pX} {t : Int} : KP X c_log4 t := KP_of (by decide +kernel)
theorem wk_c_log5 : wok c_log5 = true := by decide +kernel
theorem kp_c_log5 {X : pX} {t : Int} : KP X c_log5 t := KP_of (by decide +kernel)
theorem zcp_22 {L : Nat} {xs : Nat → Int32} (hL : L ≤ 3073) : ZCP L xs 22 1142 := by
  intro ρ hB hi IH hK hF hp
  have b1 := hB.1
  have b2 := hB.2.1
  by_cases r0 : (sd (pXs L xs) ρ (scT 1)).1 < (sd (pXs L xs) ρ (.int 0)).1
  · have g : fok (pXs L xs) ρ (((2, scT 1, .int 0), true) :: Fk 22) := ⟨hF.1, fcn (decide_eq_true r0) (hF.2)⟩
    exact lrow_ok hL hB hi IH hK g hp kr_22_0
  by_cases r1 : ¬ ((sd (pXs L xs) ρ (scT 1)).1 < (sd (pXs L xs) ρ (.arg 1376)).1)
  · have g : fok (pXs L xs) ρ (((2, scT 1, .arg 1376), false) :: ((2, scT 1, .int 0), false) :: Fk 22) := ⟨hF.1, fcn (decide_eq_false r1) (fcn (decide_eq_false r0) (hF.2))⟩
    exact lrow_ok hL hB hi IH hK g hp kr_22_1
  have r1 := Classical.not_not.mp r1
  by_cases r2 : (sd (pXs L xs) ρ (scT 1)).1 < (sd (pXs L xs) ρ (.sub (.arg 1376) (.int 256))).1
  · have g : fok (pXs L xs) ρ (((2, scT 1, .sub (.arg 1376) (.int 256)), true) :: ((2, scT 1, .arg 1376), true) :: ((2, scT 1, .int 0), false) :: Fk 22) := ⟨hF.1, fcn (decide_eq_true r2) (fcn (decide_eq_true r1) (fcn (decide_eq_false r0) (hF.2)))⟩
    exact lrow_ok hL hB hi IH hK g hp kr_22_2
  by_cases r3 : (sd (pXs L xs) ρ (scT 2)).1 < (sd (pXs L xs) ρ (.int 0)).1
  · have g : fok (pXs L xs) ρ (((2, scT 2, .int 0), true) :: ((2, scT 1, .sub (.arg 1376) (.int 256)), false) :: ((2, scT 1, .arg 1376), true) :: ((2, scT 1, .int 0), false) :: Fk 22) := ⟨hF.1, fcn (decide_eq_true r3) (fcn (decide_eq_false r2) (fcn (decide_eq_true r1) (fcn (decide_eq_false r0) (hF.2))))⟩
    exact lrow_ok hL hB hi IH hK g hp kr_22_3
  by_cases r4 : (sd (pXs L xs) ρ (.int 5)).1 < (sd (pXs L xs) ρ (scT 2)).1
  · have g : fok (pXs L xs) ρ (((2, .int 5, scT 2), true) :: ((2, scT 2, .int 0), false) :: ((2, scT 1, .sub (.arg 1376) (.int 256)), false) :: ((2, scT 1, .arg 1376), true) :: ((2, scT 1, .int 0), false) :: Fk 22) := ⟨hF.1, fcn (decide_eq_true r4) (fcn (decide_eq_false r3) (fcn (decide_eq_false r2) (fcn (decide_eq_true r1) (fcn (decide_eq_false r0) (hF.2)))))⟩
    exact lrow_ok hL hB hi IH hK g hp kr_22_4
  have g : fok (pXs L xs) ρ (((2, .int 5, scT 2), false) :: ((2, scT 2, .int 0), false) :: ((2, scT 1, .sub (.arg 1376) (.int 256)), false) :: ((2, scT 1, .arg 1376), true) :: ((2, scT 1, .int 0), false) :: Fk 22) := ⟨hF.1, fcn (decide_eq_false r4) (fcn (decide_eq_false r3) (fcn (decide_eq_false r2) (fcn (decide_eq_true r1) (fcn (decide_eq_false r0) (hF.2)))))⟩
  refine crow_ok hK g ka_w22 ?_
  have w1 : (0 : Int) ≤ ((sd (pXs L xs) ρ (scT 2)).1).toInt := ge_i r3
  have w2 : ((sd (pXs L xs) ρ (scT 2)).1).toInt ≤ (5 : Int) := le_i r4
  rcases (show ((sd (pXs L xs) ρ (scT 2)).1).toInt = 0 ∨ ((sd (pXs L xs) ρ (scT 2)).1).toInt = 1 ∨ ((sd (pXs L xs) ρ (scT 2)).1).toInt = 2 ∨ ((sd (pXs L xs) ρ (scT 2)).1).toInt = 3 ∨ ((sd (pXs L xs) ρ (scT 2)).1).toInt = 4 ∨ ((sd (pXs L xs) ρ (scT 2)).1).toInt = 5 by omega) with w | w | w | w | w | w
  · have v0 : (sd (pXs L xs) ρ (scT 2)).1 = 0 := Int32.toInt_inj.mp (by rw [w]; rfl)
    have ag : agr 59000 (rset [(60032, (sd (pXs L xs) ρ (scT 1)).1)] ρ) ρ := rset_agr (fun p hp => by
      simp only [List.mem_cons, List.not_mem_nil, or_false] at hp
      rcases hp with rfl
      · show 59000 ≤ 60032; decide)
    have av : vok (pXs L xs) (rset [(60032, (sd (pXs L xs) ρ (scT 1)).1)] ρ) := rset_vok (fun p hp r hr => by
      simp only [List.mem_cons, List.not_mem_nil, or_false] at hp
      rcases hp with rfl
      · rw [show vrng 60032 = none from rfl] at hr; cases hr) (fun p hp => by
      simp only [List.mem_cons, List.not_mem_nil, or_false] at hp
      rcases hp with rfl
      · show (60032 : Nat) % 2 = 0; decide) hF.1
    refine lgood (C := wideC c_log0) (t := 40 * (ρ.1 59744).toInt) (tq := 40 * (ρ.1 59744).toInt) (vt := [.arg 59809]) (FZ := fZ_w22) (nB := 300) (nC := 300) (SREL_w1 sT_log0 wk_c_log0) rfl (by decide +kernel) (hQ_J rfl rfl (by decide +kernel) kp_c_log0) rfl rfl rfl (by decide +kernel) rfl rfl rfl (by decide +kernel) ⟨1168, rfl⟩ rfl (fun w z => ⟨[], fM_w22, fun _ _ _ f hf => (by cases hf), kb_w22, kc_w22⟩) hL hB hi IH hF.1 (fun f hf => by cases hf) (by omega) ag (rset_kok hK) ⟨av, fcn (decide_eq_false r0) (fcn (decide_eq_true r1) (fcn (decide_eq_false r2) (fcn (decide_eq_false (show ¬ ρ.1 1376 < 0 from nlt_i hp.2.1.1)) ((fun f hf => by cases hf)))))⟩ (fun c hc => by cases hc) (PT_ag ag hp) ?_ ?_
    · show [Value.ref 0, Value.int _, Value.int (0)] = [Value.ref 0, sv (pXs L xs) ρ (scT 1), sv (pXs L xs) ρ (scT 2)]
      rw [sv_int (t := scT 1) rfl, sv_int (t := scT 2) rfl, show (sd (pXs L xs) ρ (scT 2)).1 = 0 from v0]
      rfl
    · show [Value.ref 219, Value.int _, Value.int (0)] = [Value.ref 219, sv (pXs L xs) ρ (scT 1), sv (pXs L xs) ρ (scT 2)]
      rw [sv_int (t := scT 1) rfl, sv_int (t := scT 2) rfl, show (sd (pXs L xs) ρ (scT 2)).1 = 0 from v0]
      rfl
  · have v1 : (sd (pXs L xs) ρ (scT 2)).1 = 1 := Int32.toInt_inj.mp (by rw [w]; rfl)
    have ag : agr 59000 (rset [(60032, (sd (pXs L xs) ρ (scT 1)).1)] ρ) ρ := rset_agr (fun p hp => by
      simp only [List.mem_cons, List.not_mem_nil, or_false] at hp
      rcases hp with rfl
      · show 59000 ≤ 60032; decide)
    have av : vok (pXs L xs) (rset [(60032, (sd (pXs L xs) ρ (scT 1)).1)] ρ) := rset_vok (fun p hp r hr => by
      simp only [List.mem_cons, List.not_mem_nil, or_false] at hp
      rcases hp with rfl
      · rw [show vrng 60032 = none from rfl] at hr; cases hr) (fun p hp => by
      simp only [List.mem_cons, List.not_mem_nil, or_false] at hp
      rcases hp with rfl
      · show (60032 : Nat) % 2 = 0; decide) hF.1
    refine lgood (C := wideC c_log1) (t := 40 * (ρ.1 59744).toInt) (tq := 40 * (ρ.1 59744).toInt) (vt := [.arg 59809]) (FZ := fZ_w22) (nB := 300) (nC := 300) (SREL_w1 sT_log1 wk_c_log1) rfl (by decide +kernel) (hQ_J rfl rfl (by decide +kernel) kp_c_log1) rfl rfl rfl (by decide +kernel) rfl rfl rfl (by decide +kernel) ⟨1168, rfl⟩ rfl (fun w z => ⟨[], fM_w22, fun _ _ _ f hf => (by cases hf), kb_w22, kc_w22⟩) hL hB hi IH hF.1 (fun f hf => by cases hf) (by omega) ag (rset_kok hK) ⟨av, fcn (decide_eq_false r0) (fcn (decide_eq_true r1) (fcn (decide_eq_false r2) (fcn (decide_eq_false (show ¬ ρ.1 1376 < 0 from nlt_i hp.2.1.1)) ((fun f hf => by cases hf)))))⟩ (fun c hc => by cases hc) (PT_ag ag hp) ?_ ?_
    · show [Value.ref 0, Value.int _, Value.int (1)] = [Value.ref 0, sv (pXs L xs) ρ (scT 1), sv (pXs L xs) ρ (scT 2)]
      rw [sv_int (t := scT 1) rfl, sv_int (t := scT 2) rfl, show (sd (pXs L xs) ρ (scT 2)).1 = 1 from v1]
      rfl
    · show [Value.ref 219, Value.int _, Value.int (1)] = [Value.ref 219, sv (pXs L xs) ρ (scT 1), sv (pXs L xs) ρ (scT 2)]
      rw [sv_int (t := scT 1) rfl, sv_int (t := scT 2) rfl, show (sd (pXs L xs) ρ (scT 2)).1 = 1 from v1]
      rfl
  · have v2 : (sd (pXs L xs) ρ (scT 2)).1 = 2 := Int32.toInt_inj.mp (by rw [w]; rfl)
    have ag : agr 59000 (rset [(60032, (sd (pXs L xs) ρ (scT 1)).1)] ρ) ρ := rset_agr (fun p hp => by
      simp only [List.mem_cons, List.not_mem_nil, or_false] at hp
      rcases hp with rfl
      · show 59000 ≤ 60032; decide)
    have av : vok (pXs L xs) (rset [(60032, (sd (pXs L xs) ρ (scT 1)).1)] ρ) := rset_vok (fun p hp r hr => by
      simp only [List.mem_cons, List.not_mem_nil, or_false] at hp
      rcases hp with rfl
      · rw [show vrng 60032 = none from rfl] at hr; cases hr) (fun p hp => by
      simp only [List.mem_cons, List.not_mem_nil, or_false] at hp
      rcases hp with rfl
      · show (60032 : Nat) % 2 = 0; decide) hF.1
    refine lgood (C := wideC c_log2) (t := 40 * (ρ.1 59744).toInt) (tq := 40 * (ρ.1 59744).toInt) (vt := [.arg 59809]) (FZ := fZ_w22) (nB := 300) (nC := 300) (SREL_w1 sT_log2 wk_c_log2) rfl (by decide +kernel) (hQ_J rfl rfl (by decide +kernel) kp_c_log2) rfl rfl rfl (by decide +kernel) rfl rfl rfl (by decide +kernel) ⟨1168, rfl⟩ rfl (fun w z => ⟨[], fM_w22, fun _ _ _ f hf => (by cases hf), kb_w22, kc_w22⟩) hL hB hi IH hF.1 (fun f hf => by cases hf) (by omega) ag (rset_kok hK) ⟨av, fcn (decide_eq_false r0) (fcn (decide_eq_true r1) (fcn (decide_eq_false r2) (fcn (decide_eq_false (show ¬ ρ.1 1376 < 0 from nlt_i hp.2.1.1)) ((fun f hf => by cases hf)))))⟩ (fun c hc => by cases hc) (PT_ag ag hp) ?_ ?_
    · show [Value.ref 0, Value.int _, Value.int (2)] = [Value.ref 0, sv (pXs L xs) ρ (scT 1), sv (pXs L xs) ρ (scT 2)]
      rw [sv_int (t := scT 1) rfl, sv_int (t := scT 2) rfl, show (sd (pXs L xs) ρ (scT 2)).1 = 2 from v2]
      rfl
    · show [Value.ref 219, Value.int _, Value.int (2)] = [Value.ref 219, sv (pXs L xs) ρ (scT 1), sv (pXs L xs) ρ (scT 2)]
      rw [sv_int (t := scT 1) rfl, sv_int (t := scT 2) rfl, show (sd (pXs L xs) ρ (scT 2)).1 = 2 from v2]
      rfl
  · have v3 : (sd (pXs L xs) ρ (scT 2)).1 = 3 := Int32.toInt_inj.mp (by rw [w]; rfl)
    have ag : agr 59000 (rset [(60032, (sd (pXs L xs) ρ (scT 1)).1)] ρ) ρ := rset_agr (fun p hp => by
      simp only [List.mem_cons, List.not_mem_nil, or_false] at hp
      rcases hp with rfl
      · show 59000 ≤ 60032; decide)
    have av : vok (pXs L xs) (rset [(60032, (sd (pXs L xs) ρ (scT 1)).1)] ρ) := rset_vok (fun p hp r hr => by
      simp only [List.mem_cons, List.not_mem_nil, or_false] at hp
      rcases hp with rfl
      · rw [show vrng 60032 = none from rfl] at hr; cases hr) (fun p hp => by
      simp only [List.mem_cons, List.not_mem_nil, or_false] at hp
      rcases hp with rfl
      · show (60032 : Nat) % 2 = 0; decide) hF.1
    refine lgood (C := wideC c_log3) (t := 40 * (ρ.1 59744).toInt) (tq := 40 * (ρ.1 59744).toInt) (vt := [.arg 59809]) (FZ := fZ_w22) (nB := 300) (nC := 300) (SREL_w1 sT_log3 wk_c_log3) rfl (by decide +kernel) (hQ_J rfl rfl (by decide +kernel) kp_c_log3) rfl rfl rfl (by decide +kernel) rfl rfl rfl (by decide +kernel) ⟨1168, rfl⟩ rfl (fun w z => ⟨[], fM_w22, fun _ _ _ f hf => (by cases hf), kb_w22, kc_w22⟩) hL hB hi IH hF.1 (fun f hf => by cases hf) (by omega) ag (rset_kok hK) ⟨av, fcn (decide_eq_false r0) (fcn (decide_eq_true r1) (fcn (decide_eq_false r2) (fcn (decide_eq_false (show ¬ ρ.1 1376 < 0 from nlt_i hp.2.1.1)) ((fun f hf => by cases hf)))))⟩ (fun c hc => by cases hc) (PT_ag ag hp) ?_ ?_
    · show [Value.ref 0, Value.int _, Value.int (3)] = [Value.ref 0, sv (pXs L xs) ρ (scT 1), sv (pXs L xs) ρ (scT 2)]
      rw [sv_int (t := scT 1) rfl, sv_int (t := scT 2) rfl, show (sd (pXs L xs) ρ (scT 2)).1 = 3 from v3]
      rfl
    · show [Value.ref 219, Value.int _, Value.int (3)] = [Value.ref 219, sv (pXs L xs) ρ (scT 1), sv (pXs L xs) ρ (scT 2)]
      rw [sv_int (t := scT 1) rfl, sv_int (t := scT 2) rfl, show (sd (pXs L xs) ρ (scT 2)).1 = 3 from v3]
      rfl
  · have v4 : (sd (pXs L xs) ρ (scT 2)).1 = 4 := Int32.toInt_inj.mp (by rw [w]; rfl)
    have ag : agr 59000 (rset [(60032, (sd (pXs L xs) ρ (scT 1)).1)] ρ) ρ := rset_agr (fun p hp => by
      simp only [List.mem_cons, List.not_mem_nil, or_false] at hp
      rcases hp with rfl
      · show 59000 ≤ 60032; decide)
    have av : vok (pXs L xs) (rset [(60032, (sd (pXs L xs) ρ (scT 1)).1)] ρ) := rset_vok (fun p hp r hr => by
      simp only [List.mem_cons, List.not_mem_nil, or_false] at hp
      rcases hp with rfl
      · rw [show vrng 60032 = none from rfl] at hr; cases hr) (fun p hp => by
      simp only [List.mem_cons, List.not_mem_nil, or_false] at hp
      rcases hp with rfl
      · show (60032 : Nat) % 2 = 0; decide) hF.1
    refine lgood (C := wideC c_log4) (t := 40 * (ρ.1 59744).toInt) (tq := 40 * (ρ.1 59744).toInt) (vt := [.arg 59809]) (FZ := fZ_w22) (nB := 300) (nC := 300) (SREL_w1 sT_log4 wk_c_log4) rfl (by decide +kernel) (hQ_J rfl rfl (by decide +kernel) kp_c_log4) rfl rfl rfl (by decide +kernel) rfl rfl rfl (by decide +kernel) ⟨1168, rfl⟩ rfl (fun w z => ⟨[], fM_w22, fun _ _ _ f hf => (by cases hf), kb_w22, kc_w22⟩) hL hB hi IH hF.1 (fun f hf => by cases hf) (by omega) ag (rset_kok hK) ⟨av, fcn (decide_eq_false r0) (fcn (decide_eq_true r1) (fcn (decide_eq_false r2) (fcn (decide_eq_false (show ¬ ρ.1 1376 < 0 from nlt_i hp.2.1.1)) ((fun f hf => by cases hf)))))⟩ (fun c hc => by cases hc) (PT_ag ag hp) ?_ ?_
    · show [Value.ref 0, Value.int _, Value.int (4)] = [Value.ref 0, sv (pXs L xs) ρ (scT 1), sv (pXs L xs) ρ (scT 2)]
      rw [sv_int (t := scT 1) rfl, sv_int (t := scT 2) rfl, show (sd (pXs L xs) ρ (scT 2)).1 = 4 from v4]
      rfl
    · show [Value.ref 219, Value.int _, Value.int (4)] = [Value.ref 219, sv (pXs L xs) ρ (scT 1), sv (pXs L xs) ρ (scT 2)]
      rw [sv_int (t := scT 1) rfl, sv_int (t := scT 2) rfl, show (sd (pXs L xs) ρ (scT 2)).1 = 4 from v4]
      rfl
  · have v5 : (sd (pXs L xs) ρ (scT 2)).1 = 5 := Int32.toInt_inj.mp (by rw [w]; rfl)
    have ag : agr 59000 (rset [(60032, (sd (pXs L xs) ρ (scT 1)).1)] ρ) ρ := rset_agr (fun p hp => by
      simp only [List.mem_cons, List.not_mem_nil, or_false] at hp
      rcases hp with rfl
      · show 59000 ≤ 60032; decide)
    have av : vok (pXs L xs) (rset [(60032, (sd (pXs L xs) ρ (scT 1)).1)] ρ) := rset_vok (fun p hp r hr => by
      simp only [List.mem_cons, List.not_mem_nil, or_false] at hp
      rcases hp with rfl
      · rw [show vrng 60032 = none from rfl] at hr; cases hr) (fun p hp => by
      simp only [List.mem_cons, List.not_mem_nil, or_false] at hp
      rcases hp with rfl
      · show (60032 : Nat) % 2 = 0; decide) hF.1
    refine lgood (C := wideC c_log5) (t := 40 * (ρ.1 59744).toInt) (tq := 40 * (ρ.1 59744).toInt) (vt := [.arg 59809]) (FZ := fZ_w22) (nB := 300) (nC := 300) (SREL_w1 sT_log5 wk_c_log5) rfl (by decide +kernel) (hQ_J rfl rfl (by decide +kernel) kp_c_log5) rfl rfl rfl (by decide +kernel) rfl rfl rfl (by decide +kernel) ⟨1168, rfl⟩ rfl (fun w z => ⟨[], fM_w22, fun _ _ _ f hf => (by cases hf), kb_w22, kc_w22⟩) hL hB hi IH hF.1 (fun f hf => by cases hf) (by omega) ag (rset_kok hK) ⟨av, fcn (decide_eq_false r0) (fcn (decide_eq_true r1) (fcn (decide_eq_false r2) (fcn (decide_eq_false (show ¬ ρ.1 1376 < 0 from nlt_i hp.2.1.1)) ((fun f hf => by cases hf)))))⟩ (fun c hc => by cases hc) (PT_ag ag hp) ?_ ?_
    · show [Value.ref 0, Value.int _, Value.int (5)] = [Value.ref 0, sv (pXs L xs) ρ (scT 1), sv (pXs L xs) ρ (scT 2)]
      rw [sv_int (t := scT 1) rfl, sv_int (t := scT 2) rfl, show (sd (pXs L xs) ρ (scT 2)).1 = 5 from v5]
      rfl
    · show [Value.ref 219, Value.int _, Value.int (5)] = [Value.ref 219, sv (pXs L xs) ρ (scT 1), sv (pXs L xs) ρ (scT 2)]
      rw [sv_int (t := scT 1) rfl, sv_int (t := scT 2) rfl, show (sd (pXs L xs) ρ (scT 2)).1 = 5 from v5]
      rfl
