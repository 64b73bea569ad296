set_option maxRecDepth 20000
/-! ===== the law: cases by contracts ===== -/
theorem kr_1_0 : lrow 66 800 (((2, scT 1, .int 0), true) :: Fk 1) = true := by decide +kernel
theorem kr_1_1 : lrow 66 800 (((2, .int 3, scT 1), true) :: ((2, scT 1, .int 0), false) :: Fk 1) = true := by decide +kernel
noncomputable def hA_w1_0 : sF := frH 433 5 [(0, tr 0), (1, scT 1), (2, .int 0), (3, tr 348)] [.int 0, scT 1, tr 0, .int 0, tr 348]
noncomputable def lA_w1_0 : sF := frL 83 zLv []
noncomputable def sA_w1_0 : sS := (hA_w1_0, [lA_w1_0], 19, zLw, 103275)
theorem ka_w1_0 : crow 66 400 (((0, scT 2, .int 0), true) :: ((2, .int 3, scT 1), false) :: ((2, scT 1, .int 0), false) :: Fk 1) sA_w1_0 = true := by decide +kernel
noncomputable def hB_w1_0 : sF := frH 433 6 [(0, tr 0), (1, scT 1), (2, .int 0), (3, tr 348)] ([.arg 59808] ++ [.int 0, tr 348])
noncomputable def sM_w1_0 : sS := (frL 99 ((5, .int 0) :: zLv) [.int 0, scT 1, tr 219], [], 20, foot zLw fL8, 0)
noncomputable def fZ_w1_0 : sFs := [((0, scT 2, .int 0), true)]
noncomputable def fX_w1_0_0 : sFs := [((0, .arg 59808, .int 0), true)]
noncomputable def fM_w1_0_0 : sFs := [((0, .arg 59808, .int 0), true), ((6, .arg 59841, .long 0), true)]
theorem kb_w1_0_0 : srun ysN pF pdfl mt_all hlp kR (fun F s => sinstX kR F (sgM s) fM_w1_0_0 sM_w1_0 s) 300 (fX_w1_0_0 ++ (fZ_w1_0 ++ Fi6)) (hB_w1_0, [lA_w1_0], 19, foot zLw fL8, 0) = true := by decide +kernel
theorem kc_w1_0_0 : srun ysN pF pdfl mt_all hlp kR sBkP 300 (((0, .arg 19232, .int 0), true) :: (fM_w1_0_0 ++ Fi6)) (frL 100 ((5, .int 0) :: zLv) ([.arg 59808] ++ []), [], 20, zLw, 103275) = true := by decide +kernel
noncomputable def fX_w1_0_1 : sFs := [((0, .arg 59808, .int 0), false)]
noncomputable def fM_w1_0_1 : sFs := [((0, .arg 59808, .int 0), false), ((6, .arg 59841, .long 1), true)]
theorem kb_w1_0_1 : srun ysN pF pdfl mt_all hlp kR (fun F s => sinstX kR F (sgM s) fM_w1_0_1 sM_w1_0 s) 300 (fX_w1_0_1 ++ (fZ_w1_0 ++ Fi6)) (hB_w1_0, [lA_w1_0], 19, foot zLw fL8, 0) = true := by decide +kernel
theorem kc_w1_0_1 : srun ysN pF pdfl mt_all hlp kR sBkP 300 (((0, .arg 19232, .int 0), true) :: (fM_w1_0_1 ++ Fi6)) (frL 100 ((5, .int 0) :: zLv) ([.arg 59808] ++ []), [], 20, zLw, 103275) = true := by decide +kernel
noncomputable def hA_w1_1 : sF := frH 433 5 [(0, tr 0), (1, scT 1), (2, .int 1), (3, tr 348)] [.int 1, scT 1, tr 0, .int 0, tr 348]
noncomputable def lA_w1_1 : sF := frL 83 zLv []
noncomputable def sA_w1_1 : sS := (hA_w1_1, [lA_w1_1], 19, zLw, 103275)
theorem ka_w1_1 : crow 66 400 (((0, scT 2, .int 0), false) :: ((2, .int 3, scT 1), false) :: ((2, scT 1, .int 0), false) :: Fk 1) sA_w1_1 = true := by decide +kernel
noncomputable def hB_w1_1 : sF := frH 433 6 [(0, tr 0), (1, scT 1), (2, .int 1), (3, tr 348)] ([.arg 59808] ++ [.int 0, tr 348])
noncomputable def sM_w1_1 : sS := (frL 99 ((5, .int 0) :: zLv) [.int 1, scT 1, tr 219], [], 20, foot zLw fL8, 0)
noncomputable def fZ_w1_1 : sFs := [((0, scT 2, .int 0), false)]
noncomputable def fX_w1_1_0 : sFs := [((0, .arg 59808, .int 0), true)]
noncomputable def fM_w1_1_0 : sFs := [((0, .arg 59808, .int 0), true), ((6, .arg 59841, .long 0), true)]
theorem kb_w1_1_0 : srun ysN pF pdfl mt_all hlp kR (fun F s => sinstX kR F (sgM s) fM_w1_1_0 sM_w1_1 s) 300 (fX_w1_1_0 ++ (fZ_w1_1 ++ Fi6)) (hB_w1_1, [lA_w1_1], 19, foot zLw fL8, 0) = true := by decide +kernel
theorem kc_w1_1_0 : srun ysN pF pdfl mt_all hlp kR sBkP 300 (((0, .arg 19232, .int 0), true) :: (fM_w1_1_0 ++ Fi6)) (frL 100 ((5, .int 0) :: zLv) ([.arg 59808] ++ []), [], 20, zLw, 103275) = true := by decide +kernel
noncomputable def fX_w1_1_1 : sFs := [((0, .arg 59808, .int 0), false)]
noncomputable def fM_w1_1_1 : sFs := [((0, .arg 59808, .int 0), false), ((6, .arg 59841, .long 1), true)]
theorem kb_w1_1_1 : srun ysN pF pdfl mt_all hlp kR (fun F s => sinstX kR F (sgM s) fM_w1_1_1 sM_w1_1 s) 300 (fX_w1_1_1 ++ (fZ_w1_1 ++ Fi6)) (hB_w1_1, [lA_w1_1], 19, foot zLw fL8, 0) = true := by decide +kernel
theorem kc_w1_1_1 : srun ysN pF pdfl mt_all hlp kR sBkP 300 (((0, .arg 19232, .int 0), true) :: (fM_w1_1_1 ++ Fi6)) (frL 100 ((5, .int 0) :: zLv) ([.arg 59808] ++ []), [], 20, zLw, 103275) = true := by decide +kernel
theorem zcp_1 {L : Nat} {xs : Nat → Int32} (hL : L ≤ 3073) : ZCP L xs 1 66 := by
  intro ρ hB hi IH hK hF hp
  have b1 := hB.1
  have b2 := hB.2.1
  by_cases r0 : (sd (pXs L xs) ρ (scT 1)).1 < (sd (pXs L xs) ρ (.int 0)).1
  · have g : fok (pXs L xs) ρ (((2, scT 1, .int 0), true) :: Fk 1) := ⟨hF.1, fcn (decide_eq_true r0) (hF.2)⟩
    exact lrow_ok hL hB hi IH hK g hp kr_1_0
  by_cases r1 : (sd (pXs L xs) ρ (.int 3)).1 < (sd (pXs L xs) ρ (scT 1)).1
  · have g : fok (pXs L xs) ρ (((2, .int 3, scT 1), true) :: ((2, scT 1, .int 0), false) :: Fk 1) := ⟨hF.1, fcn (decide_eq_true r1) (fcn (decide_eq_false r0) (hF.2))⟩
    exact lrow_ok hL hB hi IH hK g hp kr_1_1
  have w1 : (0 : Int) ≤ ((sd (pXs L xs) ρ (scT 1)).1).toInt := ge_i r0
  have w2 : ((sd (pXs L xs) ρ (scT 1)).1).toInt ≤ (3 : Int) := le_i r1
  by_cases hb : (sd (pXs L xs) ρ (scT 2)).1 = (sd (pXs L xs) ρ (.int 0)).1
  · have g : fok (pXs L xs) ρ (((0, scT 2, .int 0), true) :: ((2, .int 3, scT 1), false) :: ((2, scT 1, .int 0), false) :: Fk 1) := ⟨hF.1, fcn (decide_eq_true hb) (fcn (decide_eq_false r1) (fcn (decide_eq_false r0) (hF.2)))⟩
    refine crow_ok hK g ka_w1_0 ?_
    rcases (show ((sd (pXs L xs) ρ (scT 1)).1).toInt = 0 ∨ ((sd (pXs L xs) ρ (scT 1)).1).toInt = 1 ∨ ((sd (pXs L xs) ρ (scT 1)).1).toInt = 2 ∨ ((sd (pXs L xs) ρ (scT 1)).1).toInt = 3 by omega) with w | w | w | w
    · have v : (sd (pXs L xs) ρ (scT 1)).1 = 0 := Int32.toInt_inj.mp (by rw [w]; rfl)
      refine lgood (C := cD_ps00) (t := 40 * (ρ.1 59744).toInt) (tq := 40 * (ρ.1 59744).toInt) (vt := [.arg 59808]) (FZ := fZ_w1_0) (nB := 300) (nC := 300) s_pw00 rfl (by decide +kernel) (fun ρ ρ' v1 v2 q => by
        obtain ⟨r, e1, e2, k', v', t', p'⟩ := q
        exact ⟨r, 0, fun ρ0 => (by rw [e1]; rfl), e2.trans e1.symm, k', v', t', p'⟩) rfl rfl rfl (by decide +kernel) rfl rfl rfl (by decide +kernel) ⟨100, rfl⟩ rfl (fun w z => (Classical.em (w = 0)).elim (fun hw => ⟨fX_w1_0_0, fM_w1_0_0, fun ρ1 h1 _ => fcn (decide_eq_true (show ρ1.1 59808 = 0 by rw [h1]; exact hw)) (fun f hf => by cases hf), kb_w1_0_0, kc_w1_0_0⟩) (fun hw => ⟨fX_w1_0_1, fM_w1_0_1, fun ρ1 h1 _ => fcn (decide_eq_false (show ¬ ρ1.1 59808 = 0 by rw [h1]; exact hw)) (fun f hf => by cases hf), kb_w1_0_1, kc_w1_0_1⟩)) hL hB hi IH hF.1 (fall_S (L := ((0, scT 2, .int 0), true) :: ((2, .int 3, scT 1), false) :: ((2, scT 1, .int 0), false) :: Fk 1) (by decide +kernel) g.2) (by omega) ⟨fun _ _ => ⟨rfl, rfl⟩, fun _ _ => ⟨rfl, rfl⟩⟩ hK ⟨hF.1, fun f hf => by cases hf⟩ (fun c hc => by cases hc) hp ?_ ?_
      · show [Value.ref 0, Value.int 0, Value.int 0] = [Value.ref 0, sv (pXs L xs) ρ (scT 1), Value.int 0]
        rw [sv_int (t := scT 1) rfl, v]
      · show [Value.ref 219, Value.int 0, Value.int 0] = [Value.ref 219, sv (pXs L xs) ρ (scT 1), Value.int 0]
        rw [sv_int (t := scT 1) rfl, v]
    · have v : (sd (pXs L xs) ρ (scT 1)).1 = 1 := Int32.toInt_inj.mp (by rw [w]; rfl)
      refine lgood (C := cD_ps10) (t := 40 * (ρ.1 59744).toInt) (tq := 40 * (ρ.1 59744).toInt) (vt := [.arg 59808]) (FZ := fZ_w1_0) (nB := 300) (nC := 300) s_pw10 rfl (by decide +kernel) (fun ρ ρ' v1 v2 q => by
        obtain ⟨r, e1, e2, k', v', t', p'⟩ := q
        exact ⟨r, 0, fun ρ0 => (by rw [e1]; rfl), e2.trans e1.symm, k', v', t', p'⟩) rfl rfl rfl (by decide +kernel) rfl rfl rfl (by decide +kernel) ⟨100, rfl⟩ rfl (fun w z => (Classical.em (w = 0)).elim (fun hw => ⟨fX_w1_0_0, fM_w1_0_0, fun ρ1 h1 _ => fcn (decide_eq_true (show ρ1.1 59808 = 0 by rw [h1]; exact hw)) (fun f hf => by cases hf), kb_w1_0_0, kc_w1_0_0⟩) (fun hw => ⟨fX_w1_0_1, fM_w1_0_1, fun ρ1 h1 _ => fcn (decide_eq_false (show ¬ ρ1.1 59808 = 0 by rw [h1]; exact hw)) (fun f hf => by cases hf), kb_w1_0_1, kc_w1_0_1⟩)) hL hB hi IH hF.1 (fall_S (L := ((0, scT 2, .int 0), true) :: ((2, .int 3, scT 1), false) :: ((2, scT 1, .int 0), false) :: Fk 1) (by decide +kernel) g.2) (by omega) ⟨fun _ _ => ⟨rfl, rfl⟩, fun _ _ => ⟨rfl, rfl⟩⟩ hK ⟨hF.1, fun f hf => by cases hf⟩ (fun c hc => by cases hc) hp ?_ ?_
      · show [Value.ref 0, Value.int 1, Value.int 0] = [Value.ref 0, sv (pXs L xs) ρ (scT 1), Value.int 0]
        rw [sv_int (t := scT 1) rfl, v]
      · show [Value.ref 219, Value.int 1, Value.int 0] = [Value.ref 219, sv (pXs L xs) ρ (scT 1), Value.int 0]
        rw [sv_int (t := scT 1) rfl, v]
    · have v : (sd (pXs L xs) ρ (scT 1)).1 = 2 := Int32.toInt_inj.mp (by rw [w]; rfl)
      refine lgood (C := cD_ps20) (t := 40 * (ρ.1 59744).toInt) (tq := 40 * (ρ.1 59744).toInt) (vt := [.arg 59808]) (FZ := fZ_w1_0) (nB := 300) (nC := 300) s_pw20 rfl (by decide +kernel) (fun ρ ρ' v1 v2 q => by
        obtain ⟨r, e1, e2, k', v', t', p'⟩ := q
        exact ⟨r, 0, fun ρ0 => (by rw [e1]; rfl), e2.trans e1.symm, k', v', t', p'⟩) rfl rfl rfl (by decide +kernel) rfl rfl rfl (by decide +kernel) ⟨100, rfl⟩ rfl (fun w z => (Classical.em (w = 0)).elim (fun hw => ⟨fX_w1_0_0, fM_w1_0_0, fun ρ1 h1 _ => fcn (decide_eq_true (show ρ1.1 59808 = 0 by rw [h1]; exact hw)) (fun f hf => by cases hf), kb_w1_0_0, kc_w1_0_0⟩) (fun hw => ⟨fX_w1_0_1, fM_w1_0_1, fun ρ1 h1 _ => fcn (decide_eq_false (show ¬ ρ1.1 59808 = 0 by rw [h1]; exact hw)) (fun f hf => by cases hf), kb_w1_0_1, kc_w1_0_1⟩)) hL hB hi IH hF.1 (fall_S (L := ((0, scT 2, .int 0), true) :: ((2, .int 3, scT 1), false) :: ((2, scT 1, .int 0), false) :: Fk 1) (by decide +kernel) g.2) (by omega) ⟨fun _ _ => ⟨rfl, rfl⟩, fun _ _ => ⟨rfl, rfl⟩⟩ hK ⟨hF.1, fun f hf => by cases hf⟩ (fun c hc => by cases hc) hp ?_ ?_
      · show [Value.ref 0, Value.int 2, Value.int 0] = [Value.ref 0, sv (pXs L xs) ρ (scT 1), Value.int 0]
        rw [sv_int (t := scT 1) rfl, v]
      · show [Value.ref 219, Value.int 2, Value.int 0] = [Value.ref 219, sv (pXs L xs) ρ (scT 1), Value.int 0]
        rw [sv_int (t := scT 1) rfl, v]
    · have v : (sd (pXs L xs) ρ (scT 1)).1 = 3 := Int32.toInt_inj.mp (by rw [w]; rfl)
      refine lgood (C := cD_ps30) (t := 40 * (ρ.1 59744).toInt) (tq := 40 * (ρ.1 59744).toInt) (vt := [.arg 59808]) (FZ := fZ_w1_0) (nB := 300) (nC := 300) s_pw30 rfl (by decide +kernel) (fun ρ ρ' v1 v2 q => by
        obtain ⟨r, e1, e2, k', v', t', p'⟩ := q
        exact ⟨r, 0, fun ρ0 => (by rw [e1]; rfl), e2.trans e1.symm, k', v', t', p'⟩) rfl rfl rfl (by decide +kernel) rfl rfl rfl (by decide +kernel) ⟨100, rfl⟩ rfl (fun w z => (Classical.em (w = 0)).elim (fun hw => ⟨fX_w1_0_0, fM_w1_0_0, fun ρ1 h1 _ => fcn (decide_eq_true (show ρ1.1 59808 = 0 by rw [h1]; exact hw)) (fun f hf => by cases hf), kb_w1_0_0, kc_w1_0_0⟩) (fun hw => ⟨fX_w1_0_1, fM_w1_0_1, fun ρ1 h1 _ => fcn (decide_eq_false (show ¬ ρ1.1 59808 = 0 by rw [h1]; exact hw)) (fun f hf => by cases hf), kb_w1_0_1, kc_w1_0_1⟩)) hL hB hi IH hF.1 (fall_S (L := ((0, scT 2, .int 0), true) :: ((2, .int 3, scT 1), false) :: ((2, scT 1, .int 0), false) :: Fk 1) (by decide +kernel) g.2) (by omega) ⟨fun _ _ => ⟨rfl, rfl⟩, fun _ _ => ⟨rfl, rfl⟩⟩ hK ⟨hF.1, fun f hf => by cases hf⟩ (fun c hc => by cases hc) hp ?_ ?_
      · show [Value.ref 0, Value.int 3, Value.int 0] = [Value.ref 0, sv (pXs L xs) ρ (scT 1), Value.int 0]
        rw [sv_int (t := scT 1) rfl, v]
      · show [Value.ref 219, Value.int 3, Value.int 0] = [Value.ref 219, sv (pXs L xs) ρ (scT 1), Value.int 0]
        rw [sv_int (t := scT 1) rfl, v]
  · have g : fok (pXs L xs) ρ (((0, scT 2, .int 0), false) :: ((2, .int 3, scT 1), false) :: ((2, scT 1, .int 0), false) :: Fk 1) := ⟨hF.1, fcn (decide_eq_false hb) (fcn (decide_eq_false r1) (fcn (decide_eq_false r0) (hF.2)))⟩
    refine crow_ok hK g ka_w1_1 ?_
    rcases (show ((sd (pXs L xs) ρ (scT 1)).1).toInt = 0 ∨ ((sd (pXs L xs) ρ (scT 1)).1).toInt = 1 ∨ ((sd (pXs L xs) ρ (scT 1)).1).toInt = 2 ∨ ((sd (pXs L xs) ρ (scT 1)).1).toInt = 3 by omega) with w | w | w | w
    · have v : (sd (pXs L xs) ρ (scT 1)).1 = 0 := Int32.toInt_inj.mp (by rw [w]; rfl)
      refine lgood (C := cD_ps01) (t := 40 * (ρ.1 59744).toInt) (tq := 40 * (ρ.1 59744).toInt) (vt := [.arg 59808]) (FZ := fZ_w1_1) (nB := 300) (nC := 300) s_pw01 rfl (by decide +kernel) (fun ρ ρ' v1 v2 q => by
        obtain ⟨r, e1, e2, k', v', t', p'⟩ := q
        exact ⟨r, 0, fun ρ0 => (by rw [e1]; rfl), e2.trans e1.symm, k', v', t', p'⟩) rfl rfl rfl (by decide +kernel) rfl rfl rfl (by decide +kernel) ⟨100, rfl⟩ rfl (fun w z => (Classical.em (w = 0)).elim (fun hw => ⟨fX_w1_1_0, fM_w1_1_0, fun ρ1 h1 _ => fcn (decide_eq_true (show ρ1.1 59808 = 0 by rw [h1]; exact hw)) (fun f hf => by cases hf), kb_w1_1_0, kc_w1_1_0⟩) (fun hw => ⟨fX_w1_1_1, fM_w1_1_1, fun ρ1 h1 _ => fcn (decide_eq_false (show ¬ ρ1.1 59808 = 0 by rw [h1]; exact hw)) (fun f hf => by cases hf), kb_w1_1_1, kc_w1_1_1⟩)) hL hB hi IH hF.1 (fall_S (L := ((0, scT 2, .int 0), false) :: ((2, .int 3, scT 1), false) :: ((2, scT 1, .int 0), false) :: Fk 1) (by decide +kernel) g.2) (by omega) ⟨fun _ _ => ⟨rfl, rfl⟩, fun _ _ => ⟨rfl, rfl⟩⟩ hK ⟨hF.1, fun f hf => by cases hf⟩ (fun c hc => by cases hc) hp ?_ ?_
      · show [Value.ref 0, Value.int 0, Value.int 1] = [Value.ref 0, sv (pXs L xs) ρ (scT 1), Value.int 1]
        rw [sv_int (t := scT 1) rfl, v]
      · show [Value.ref 219, Value.int 0, Value.int 1] = [Value.ref 219, sv (pXs L xs) ρ (scT 1), Value.int 1]
        rw [sv_int (t := scT 1) rfl, v]
    · have v : (sd (pXs L xs) ρ (scT 1)).1 = 1 := Int32.toInt_inj.mp (by rw [w]; rfl)
      refine lgood (C := cD_ps11) (t := 40 * (ρ.1 59744).toInt) (tq := 40 * (ρ.1 59744).toInt) (vt := [.arg 59808]) (FZ := fZ_w1_1) (nB := 300) (nC := 300) s_pw11 rfl (by decide +kernel) (fun ρ ρ' v1 v2 q => by
        obtain ⟨r, e1, e2, k', v', t', p'⟩ := q
        exact ⟨r, 0, fun ρ0 => (by rw [e1]; rfl), e2.trans e1.symm, k', v', t', p'⟩) rfl rfl rfl (by decide +kernel) rfl rfl rfl (by decide +kernel) ⟨100, rfl⟩ rfl (fun w z => (Classical.em (w = 0)).elim (fun hw => ⟨fX_w1_1_0, fM_w1_1_0, fun ρ1 h1 _ => fcn (decide_eq_true (show ρ1.1 59808 = 0 by rw [h1]; exact hw)) (fun f hf => by cases hf), kb_w1_1_0, kc_w1_1_0⟩) (fun hw => ⟨fX_w1_1_1, fM_w1_1_1, fun ρ1 h1 _ => fcn (decide_eq_false (show ¬ ρ1.1 59808 = 0 by rw [h1]; exact hw)) (fun f hf => by cases hf), kb_w1_1_1, kc_w1_1_1⟩)) hL hB hi IH hF.1 (fall_S (L := ((0, scT 2, .int 0), false) :: ((2, .int 3, scT 1), false) :: ((2, scT 1, .int 0), false) :: Fk 1) (by decide +kernel) g.2) (by omega) ⟨fun _ _ => ⟨rfl, rfl⟩, fun _ _ => ⟨rfl, rfl⟩⟩ hK ⟨hF.1, fun f hf => by cases hf⟩ (fun c hc => by cases hc) hp ?_ ?_
      · show [Value.ref 0, Value.int 1, Value.int 1] = [Value.ref 0, sv (pXs L xs) ρ (scT 1), Value.int 1]
        rw [sv_int (t := scT 1) rfl, v]
      · show [Value.ref 219, Value.int 1, Value.int 1] = [Value.ref 219, sv (pXs L xs) ρ (scT 1), Value.int 1]
        rw [sv_int (t := scT 1) rfl, v]
    · have v : (sd (pXs L xs) ρ (scT 1)).1 = 2 := Int32.toInt_inj.mp (by rw [w]; rfl)
      refine lgood (C := cD_ps21) (t := 40 * (ρ.1 59744).toInt) (tq := 40 * (ρ.1 59744).toInt) (vt := [.arg 59808]) (FZ := fZ_w1_1) (nB := 300) (nC := 300) s_pw21 rfl (by decide +kernel) (fun ρ ρ' v1 v2 q => by
        obtain ⟨r, e1, e2, k', v', t', p'⟩ := q
        exact ⟨r, 0, fun ρ0 => (by rw [e1]; rfl), e2.trans e1.symm, k', v', t', p'⟩) rfl rfl rfl (by decide +kernel) rfl rfl rfl (by decide +kernel) ⟨100, rfl⟩ rfl (fun w z => (Classical.em (w = 0)).elim (fun hw => ⟨fX_w1_1_0, fM_w1_1_0, fun ρ1 h1 _ => fcn (decide_eq_true (show ρ1.1 59808 = 0 by rw [h1]; exact hw)) (fun f hf => by cases hf), kb_w1_1_0, kc_w1_1_0⟩) (fun hw => ⟨fX_w1_1_1, fM_w1_1_1, fun ρ1 h1 _ => fcn (decide_eq_false (show ¬ ρ1.1 59808 = 0 by rw [h1]; exact hw)) (fun f hf => by cases hf), kb_w1_1_1, kc_w1_1_1⟩)) hL hB hi IH hF.1 (fall_S (L := ((0, scT 2, .int 0), false) :: ((2, .int 3, scT 1), false) :: ((2, scT 1, .int 0), false) :: Fk 1) (by decide +kernel) g.2) (by omega) ⟨fun _ _ => ⟨rfl, rfl⟩, fun _ _ => ⟨rfl, rfl⟩⟩ hK ⟨hF.1, fun f hf => by cases hf⟩ (fun c hc => by cases hc) hp ?_ ?_
      · show [Value.ref 0, Value.int 2, Value.int 1] = [Value.ref 0, sv (pXs L xs) ρ (scT 1), Value.int 1]
        rw [sv_int (t := scT 1) rfl, v]
      · show [Value.ref 219, Value.int 2, Value.int 1] = [Value.ref 219, sv (pXs L xs) ρ (scT 1), Value.int 1]
        rw [sv_int (t := scT 1) rfl, v]
    · have v : (sd (pXs L xs) ρ (scT 1)).1 = 3 := Int32.toInt_inj.mp (by rw [w]; rfl)
      refine lgood (C := cD_ps31) (t := 40 * (ρ.1 59744).toInt) (tq := 40 * (ρ.1 59744).toInt) (vt := [.arg 59808]) (FZ := fZ_w1_1) (nB := 300) (nC := 300) s_pw31 rfl (by decide +kernel) (fun ρ ρ' v1 v2 q => by
        obtain ⟨r, e1, e2, k', v', t', p'⟩ := q
        exact ⟨r, 0, fun ρ0 => (by rw [e1]; rfl), e2.trans e1.symm, k', v', t', p'⟩) rfl rfl rfl (by decide +kernel) rfl rfl rfl (by decide +kernel) ⟨100, rfl⟩ rfl (fun w z => (Classical.em (w = 0)).elim (fun hw => ⟨fX_w1_1_0, fM_w1_1_0, fun ρ1 h1 _ => fcn (decide_eq_true (show ρ1.1 59808 = 0 by rw [h1]; exact hw)) (fun f hf => by cases hf), kb_w1_1_0, kc_w1_1_0⟩) (fun hw => ⟨fX_w1_1_1, fM_w1_1_1, fun ρ1 h1 _ => fcn (decide_eq_false (show ¬ ρ1.1 59808 = 0 by rw [h1]; exact hw)) (fun f hf => by cases hf), kb_w1_1_1, kc_w1_1_1⟩)) hL hB hi IH hF.1 (fall_S (L := ((0, scT 2, .int 0), false) :: ((2, .int 3, scT 1), false) :: ((2, scT 1, .int 0), false) :: Fk 1) (by decide +kernel) g.2) (by omega) ⟨fun _ _ => ⟨rfl, rfl⟩, fun _ _ => ⟨rfl, rfl⟩⟩ hK ⟨hF.1, fun f hf => by cases hf⟩ (fun c hc => by cases hc) hp ?_ ?_
      · show [Value.ref 0, Value.int 3, Value.int 1] = [Value.ref 0, sv (pXs L xs) ρ (scT 1), Value.int 1]
        rw [sv_int (t := scT 1) rfl, v]
      · show [Value.ref 219, Value.int 3, Value.int 1] = [Value.ref 219, sv (pXs L xs) ρ (scT 1), Value.int 1]
        rw [sv_int (t := scT 1) rfl, v]
