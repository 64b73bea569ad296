set_option maxRecDepth 20000
theorem kr_7_0 : lrow 426 600 (((2, scT 1, .int 0), true) :: Fk 7) = true := by decide +kernel
theorem kr_7_1 : lrow 426 600 (((2, .int 3, scT 1), true) :: ((2, scT 1, .int 0), false) :: Fk 7) = true := by decide +kernel
theorem kr_7_2 : lrow 426 600 (((2, scT 2, .int 0), true) :: ((2, .int 3, scT 1), false) :: ((2, scT 1, .int 0), false) :: Fk 7) = true := by decide +kernel
theorem kr_7_3 : lrow 426 600 (((2, .int 65535, scT 2), true) :: ((2, scT 2, .int 0), false) :: ((2, .int 3, scT 1), false) :: ((2, scT 1, .int 0), false) :: Fk 7) = true := by decide +kernel
noncomputable def hA_w7 : sF := frH 439 7 [(0, tr 0), (1, scT 1), (2, scT 2), (3, scT 3), (4, scT 4), (5, tr 348)] [scT 4, scT 3, scT 2, scT 1, tr 0, .int 0, tr 348]
noncomputable def lA_w7 : sF := frL 449 zLv []
noncomputable def sA_w7 : sS := (hA_w7, [lA_w7], 19, zLw, 103275)
theorem ka_w7 : crow 426 400 (((2, .int 65535, scT 2), false) :: ((2, scT 2, .int 0), false) :: ((2, .int 3, scT 1), false) :: ((2, scT 1, .int 0), false) :: Fk 7) sA_w7 = true := by decide +kernel
noncomputable def hB_w7 : sF := frH 439 8 [(0, tr 0), (1, scT 1), (2, scT 2), (3, scT 3), (4, scT 4), (5, tr 348)] ([.arg 59808] ++ [.int 0, tr 348])
noncomputable def sM_w7 : sS := (frL 471 ((5, .int 0) :: zLv) [scT 4, scT 3, scT 2, scT 1, tr 219], [], 20, foot zLw fL8, 0)
noncomputable def fM_w7 : sFs := [((6, .arg 59841, .op1 .i2l (.arg 59808)), true)]
noncomputable def fZ_w7 : sFs := []
theorem kb_w7 : srun ysN pF pdfl mt_all hlp kR (fun F s => sinstX kR F (sgM s) fM_w7 sM_w7 s) 300 ([] ++ (fZ_w7 ++ Fi6)) (hB_w7, [lA_w7], 19, foot zLw fL8, 0) = true := by decide +kernel
theorem kc_w7 : srun ysN pF pdfl mt_all hlp kR sBkP 300 (((0, .arg 19232, .int 0), true) :: (fM_w7 ++ Fi6)) (frL 472 ((5, .int 0) :: zLv) ([.arg 59808] ++ []), [], 20, zLw, 103275) = true := by decide +kernel
theorem kx_7_0 : lrowC 426 600 (((2, .arg 59872, .int 0), true) :: ((2, scT 3, .int 0), true) :: ((2, .int 65535, scT 2), false) :: ((2, scT 2, .int 0), false) :: ((2, .int 3, scT 1), false) :: ((2, scT 1, .int 0), false) :: Fk 7) = true := by decide +kernel
theorem kx_7_1 : lrowC 426 600 (((2, .arg 59872, .int 0), true) :: ((2, scT 3, .int 0), false) :: ((2, .int 65535, scT 2), false) :: ((2, scT 2, .int 0), false) :: ((2, .int 3, scT 1), false) :: ((2, scT 1, .int 0), false) :: Fk 7) = true := by decide +kernel
theorem kp_7_0 : lrowC 426 600 (((2, .arg 59872, .int 0), false) :: ((2, scT 3, .int 0), false) :: ((0, .arg 1282, .int 0), true) :: ((0, scT 1, .int 0), true) :: ((2, scT 1, .int 0), false) :: ((2, .int 0, scT 1), false) :: ((2, .int 65535, scT 2), false) :: ((2, scT 2, .int 0), false) :: ((2, .int 3, scT 1), false) :: ((2, scT 1, .int 0), false) :: Fk 7) = true := by decide +kernel
theorem kp_7_1 : lrowC 426 600 (((2, .arg 59872, .int 0), false) :: ((2, scT 3, .int 0), false) :: ((0, .arg 1314, .int 0), true) :: ((0, scT 1, .int 1), true) :: ((2, scT 1, .int 1), false) :: ((2, .int 1, scT 1), false) :: ((2, .int 65535, scT 2), false) :: ((2, scT 2, .int 0), false) :: ((2, .int 3, scT 1), false) :: ((2, scT 1, .int 0), false) :: Fk 7) = true := by decide +kernel
theorem kp_7_2 : lrowC 426 600 (((2, .arg 59872, .int 0), false) :: ((2, scT 3, .int 0), false) :: ((0, .arg 1346, .int 0), true) :: ((0, scT 1, .int 2), true) :: ((2, scT 1, .int 2), false) :: ((2, .int 2, scT 1), false) :: ((2, .int 65535, scT 2), false) :: ((2, scT 2, .int 0), false) :: ((2, .int 3, scT 1), false) :: ((2, scT 1, .int 0), false) :: Fk 7) = true := by decide +kernel
theorem kp_7_3 : lrowC 426 600 (((2, .arg 59872, .int 0), false) :: ((2, scT 3, .int 0), false) :: ((0, .arg 1378, .int 0), true) :: ((0, scT 1, .int 3), true) :: ((2, scT 1, .int 3), false) :: ((2, .int 3, scT 1), false) :: ((2, .int 65535, scT 2), false) :: ((2, scT 2, .int 0), false) :: ((2, .int 3, scT 1), false) :: ((2, scT 1, .int 0), false) :: Fk 7) = true := by decide +kernel
theorem zcp_7 {L : Nat} {xs : Nat → Int32} (hL : L ≤ 3073) : ZCP L xs 7 426 := by
  intro ρ hB hi IH hK hF hp
  have b1 := hB.1
  have b2 := hB.2.1
  by_cases r0 : (sd (pXs L xs) ρ (scT 1)).1 < (sd (pXs L xs) ρ (.int 0)).1
  · have g : fok (pXs L xs) ρ (((2, scT 1, .int 0), true) :: Fk 7) := ⟨hF.1, fcn (decide_eq_true r0) (hF.2)⟩
    exact lrow_ok hL hB hi IH hK g hp kr_7_0
  by_cases r1 : (sd (pXs L xs) ρ (.int 3)).1 < (sd (pXs L xs) ρ (scT 1)).1
  · have g : fok (pXs L xs) ρ (((2, .int 3, scT 1), true) :: ((2, scT 1, .int 0), false) :: Fk 7) := ⟨hF.1, fcn (decide_eq_true r1) (fcn (decide_eq_false r0) (hF.2))⟩
    exact lrow_ok hL hB hi IH hK g hp kr_7_1
  by_cases r2 : (sd (pXs L xs) ρ (scT 2)).1 < (sd (pXs L xs) ρ (.int 0)).1
  · have g : fok (pXs L xs) ρ (((2, scT 2, .int 0), true) :: ((2, .int 3, scT 1), false) :: ((2, scT 1, .int 0), false) :: Fk 7) := ⟨hF.1, fcn (decide_eq_true r2) (fcn (decide_eq_false r1) (fcn (decide_eq_false r0) (hF.2)))⟩
    exact lrow_ok hL hB hi IH hK g hp kr_7_2
  by_cases r3 : (sd (pXs L xs) ρ (.int 65535)).1 < (sd (pXs L xs) ρ (scT 2)).1
  · have g : fok (pXs L xs) ρ (((2, .int 65535, scT 2), true) :: ((2, scT 2, .int 0), false) :: ((2, .int 3, scT 1), false) :: ((2, scT 1, .int 0), false) :: Fk 7) := ⟨hF.1, fcn (decide_eq_true r3) (fcn (decide_eq_false r2) (fcn (decide_eq_false r1) (fcn (decide_eq_false r0) (hF.2))))⟩
    exact lrow_ok hL hB hi IH hK g hp kr_7_3
  have g : fok (pXs L xs) ρ (((2, .int 65535, scT 2), false) :: ((2, scT 2, .int 0), false) :: ((2, .int 3, scT 1), false) :: ((2, scT 1, .int 0), false) :: Fk 7) := ⟨hF.1, fcn (decide_eq_false r3) (fcn (decide_eq_false r2) (fcn (decide_eq_false r1) (fcn (decide_eq_false r0) (hF.2))))⟩
  have i0 : (0 : Int) ≤ ((sd (pXs L xs) ρ (scT 2)).1).toInt := ge_i r2
  have i1 : ((sd (pXs L xs) ρ (scT 2)).1).toInt ≤ (65535 : Int) := le_i r3
  obtain ⟨n, hn⟩ := aslot_32 ((sd (pXs L xs) ρ (scT 2)).1).toInt ((sd (pXs L xs) ρ (scT 3)).1).toInt
  by_cases hs : (sd (pXs L xs) ρ (scT 3)).1 < 0
  · have hs2 : ((sd (pXs L xs) ρ (scT 3)).1).toInt < 0 := Int32.lt_iff_toInt_lt.mp hs
    have n0 : n < 0 := Int32.lt_iff_toInt_lt.mpr (show n.toInt < 0 from aslot_neg hn i1 hs2)
    exact lrowS_ok (n := n) (F := ((2, scT 3, .int 0), true) :: ((2, .int 65535, scT 2), false) :: ((2, scT 2, .int 0), false) :: ((2, .int 3, scT 1), false) :: ((2, scT 1, .int 0), false) :: Fk 7) hL hB hi IH hK ⟨hF.1, fcn (decide_eq_true hs) (g.2)⟩ hp ⟨i0, i1⟩ hn (setn_t n0) (by decide +kernel) kx_7_0
  have s0 : (0 : Int) ≤ ((sd (pXs L xs) ρ (scT 3)).1).toInt := ge_i hs
  by_cases n0 : n < 0
  · exact lrowS_ok (n := n) (F := ((2, scT 3, .int 0), false) :: ((2, .int 65535, scT 2), false) :: ((2, scT 2, .int 0), false) :: ((2, .int 3, scT 1), false) :: ((2, scT 1, .int 0), false) :: Fk 7) hL hB hi IH hK ⟨hF.1, fcn (decide_eq_false hs) (g.2)⟩ hp ⟨i0, i1⟩ hn (setn_t n0) (by decide +kernel) kx_7_1
  have n1 : (0 : Int) ≤ n.toInt := ge_i n0
  have w1 : (0 : Int) ≤ ((sd (pXs L xs) ρ (scT 1)).1).toInt := ge_i r0
  have w2 : ((sd (pXs L xs) ρ (scT 1)).1).toInt ≤ (3 : Int) := le_i r1
  rcases (show ((sd (pXs L xs) ρ (scT 1)).1).toInt = 0 ∨ ((sd (pXs L xs) ρ (scT 1)).1).toInt = 1 ∨ ((sd (pXs L xs) ρ (scT 1)).1).toInt = 2 ∨ ((sd (pXs L xs) ρ (scT 1)).1).toInt = 3 by omega) with w | w | w | w
  · have v : (sd (pXs L xs) ρ (scT 1)).1 = 0 := Int32.toInt_inj.mp (by rw [w]; rfl)
    by_cases hon : ρ.1 1282 = 0
    · exact lrowS_ok (n := n) (F := ((2, scT 3, .int 0), false) :: ((0, .arg 1282, .int 0), true) :: ((0, scT 1, .int 0), true) :: ((2, scT 1, .int 0), false) :: ((2, .int 0, scT 1), false) :: ((2, .int 65535, scT 2), false) :: ((2, scT 2, .int 0), false) :: ((2, .int 3, scT 1), false) :: ((2, scT 1, .int 0), false) :: Fk 7) hL hB hi IH hK ⟨hF.1, fcn (decide_eq_false hs) (fcn (decide_eq_true (show ρ.1 1282 = 0 from hon)) (fcn (decide_eq_true v) (fcn (decide_eq_false (show ¬ (sd (pXs L xs) ρ (scT 1)).1 < 0 by rw [v]; decide)) (fcn (decide_eq_false (show ¬ 0 < (sd (pXs L xs) ρ (scT 1)).1 by rw [v]; decide)) (g.2)))))⟩ hp ⟨i0, i1⟩ hn (setn_f n0) (by decide +kernel) kp_7_0
    have ag : agr 59000 (rset [(60320, (sd (pXs L xs) ρ (scT 2)).1), (60352, (sd (pXs L xs) ρ (scT 3)).1), (60384, (sd (pXs L xs) ρ (scT 4)).1), (60416, n)] ρ) ρ := rset_agr (fun p hp => by
      simp only [List.mem_cons, List.not_mem_nil, or_false] at hp
      rcases hp with rfl | rfl | rfl | rfl
      · show 59000 ≤ 60320; decide
      · show 59000 ≤ 60352; decide
      · show 59000 ≤ 60384; decide
      · show 59000 ≤ 60416; decide)
    have av : vok (pXs L xs) (rset [(60320, (sd (pXs L xs) ρ (scT 2)).1), (60352, (sd (pXs L xs) ρ (scT 3)).1), (60384, (sd (pXs L xs) ρ (scT 4)).1), (60416, n)] ρ) := rset_vok (fun p hp r hr => by
      simp only [List.mem_cons, List.not_mem_nil, or_false] at hp
      rcases hp with rfl | rfl | rfl | rfl
      · rw [show vrng 60320 = none from rfl] at hr; cases hr
      · rw [show vrng 60352 = none from rfl] at hr; cases hr
      · rw [show vrng 60384 = none from rfl] at hr; cases hr
      · rw [show vrng 60416 = none from rfl] at hr; cases hr) (fun p hp => by
      simp only [List.mem_cons, List.not_mem_nil, or_false] at hp
      rcases hp with rfl | rfl | rfl | rfl
      · show (60320 : Nat) % 2 = 0; decide
      · show (60352 : Nat) % 2 = 0; decide
      · show (60384 : Nat) % 2 = 0; decide
      · show (60416 : Nat) % 2 = 0; decide) hF.1
    refine crow_ok hK g ka_w7 (lgood (C := cD_oct0) (t := 40 * (ρ.1 59744).toInt) (tq := 40 * (ρ.1 59744).toInt) (vt := [.arg 59808]) (FZ := fZ_w7) (nB := 300) (nC := 300) s_oct0 rfl (by decide +kernel) (fun ρ ρ' v1 v2 q => by
      obtain ⟨⟨r, e1, e2⟩, k', v', t', p'⟩ := q
      exact ⟨r, 0, fun ρ0 => (by rw [e1]; rfl), e2.trans e1.symm, k', v', t', p'⟩) rfl rfl rfl (by decide +kernel) rfl rfl rfl (by decide +kernel) ⟨472, rfl⟩ rfl (fun w z => ⟨[], fM_w7, fun _ _ _ f hf => (by cases hf), kb_w7, kc_w7⟩) hL hB hi IH hF.1 (fun f hf => by cases hf) (by omega) ag (rset_kok hK) ⟨av, fcn (decide_eq_false (show ¬ ρ.1 1282 = 0 from hon)) (fcn (decide_eq_false (nlt_i (show (0 : Int32).toInt ≤ ((sd (pXs L xs) ρ (scT 2)).1).toInt from i0))) (fcn (decide_eq_false (nlt_i (show ((sd (pXs L xs) ρ (scT 2)).1).toInt ≤ (65535 : Int32).toInt from i1))) (fcn (decide_eq_false (nlt_i (show (0 : Int32).toInt ≤ ((sd (pXs L xs) ρ (scT 3)).1).toInt from s0))) (fcn (decide_eq_true (show n.toInt = aslot ((sd (pXs L xs) ρ (scT 2)).1).toInt ((sd (pXs L xs) ρ (scT 3)).1).toInt from hn)) (fcn (decide_eq_false (show ¬ n < 0 from n0)) ((fun f hf => by cases hf)))))))⟩ (fun c hc => by cases hc) (PT_ag ag hp) ?_ ?_)
    · show [Value.ref 0, Value.int 0, Value.int _, Value.int _, Value.int _] = [Value.ref 0, sv (pXs L xs) ρ (scT 1), sv (pXs L xs) ρ (scT 2), sv (pXs L xs) ρ (scT 3), sv (pXs L xs) ρ (scT 4)]
      rw [sv_int (t := scT 1) rfl, v, sv_int (t := scT 2) rfl, sv_int (t := scT 3) rfl, sv_int (t := scT 4) rfl]
      rfl
    · show [Value.ref 219, Value.int 0, Value.int _, Value.int _, Value.int _] = [Value.ref 219, sv (pXs L xs) ρ (scT 1), sv (pXs L xs) ρ (scT 2), sv (pXs L xs) ρ (scT 3), sv (pXs L xs) ρ (scT 4)]
      rw [sv_int (t := scT 1) rfl, v, sv_int (t := scT 2) rfl, sv_int (t := scT 3) rfl, sv_int (t := scT 4) rfl]
      rfl
  · have v : (sd (pXs L xs) ρ (scT 1)).1 = 1 := Int32.toInt_inj.mp (by rw [w]; rfl)
    by_cases hon : ρ.1 1314 = 0
    · exact lrowS_ok (n := n) (F := ((2, scT 3, .int 0), false) :: ((0, .arg 1314, .int 0), true) :: ((0, scT 1, .int 1), true) :: ((2, scT 1, .int 1), false) :: ((2, .int 1, scT 1), false) :: ((2, .int 65535, scT 2), false) :: ((2, scT 2, .int 0), false) :: ((2, .int 3, scT 1), false) :: ((2, scT 1, .int 0), false) :: Fk 7) hL hB hi IH hK ⟨hF.1, fcn (decide_eq_false hs) (fcn (decide_eq_true (show ρ.1 1314 = 0 from hon)) (fcn (decide_eq_true v) (fcn (decide_eq_false (show ¬ (sd (pXs L xs) ρ (scT 1)).1 < 1 by rw [v]; decide)) (fcn (decide_eq_false (show ¬ 1 < (sd (pXs L xs) ρ (scT 1)).1 by rw [v]; decide)) (g.2)))))⟩ hp ⟨i0, i1⟩ hn (setn_f n0) (by decide +kernel) kp_7_1
    have ag : agr 59000 (rset [(60320, (sd (pXs L xs) ρ (scT 2)).1), (60352, (sd (pXs L xs) ρ (scT 3)).1), (60384, (sd (pXs L xs) ρ (scT 4)).1), (60416, n)] ρ) ρ := rset_agr (fun p hp => by
      simp only [List.mem_cons, List.not_mem_nil, or_false] at hp
      rcases hp with rfl | rfl | rfl | rfl
      · show 59000 ≤ 60320; decide
      · show 59000 ≤ 60352; decide
      · show 59000 ≤ 60384; decide
      · show 59000 ≤ 60416; decide)
    have av : vok (pXs L xs) (rset [(60320, (sd (pXs L xs) ρ (scT 2)).1), (60352, (sd (pXs L xs) ρ (scT 3)).1), (60384, (sd (pXs L xs) ρ (scT 4)).1), (60416, n)] ρ) := rset_vok (fun p hp r hr => by
      simp only [List.mem_cons, List.not_mem_nil, or_false] at hp
      rcases hp with rfl | rfl | rfl | rfl
      · rw [show vrng 60320 = none from rfl] at hr; cases hr
      · rw [show vrng 60352 = none from rfl] at hr; cases hr
      · rw [show vrng 60384 = none from rfl] at hr; cases hr
      · rw [show vrng 60416 = none from rfl] at hr; cases hr) (fun p hp => by
      simp only [List.mem_cons, List.not_mem_nil, or_false] at hp
      rcases hp with rfl | rfl | rfl | rfl
      · show (60320 : Nat) % 2 = 0; decide
      · show (60352 : Nat) % 2 = 0; decide
      · show (60384 : Nat) % 2 = 0; decide
      · show (60416 : Nat) % 2 = 0; decide) hF.1
    refine crow_ok hK g ka_w7 (lgood (C := cD_oct1) (t := 40 * (ρ.1 59744).toInt) (tq := 40 * (ρ.1 59744).toInt) (vt := [.arg 59808]) (FZ := fZ_w7) (nB := 300) (nC := 300) s_oct1 rfl (by decide +kernel) (fun ρ ρ' v1 v2 q => by
      obtain ⟨⟨r, e1, e2⟩, k', v', t', p'⟩ := q
      exact ⟨r, 0, fun ρ0 => (by rw [e1]; rfl), e2.trans e1.symm, k', v', t', p'⟩) rfl rfl rfl (by decide +kernel) rfl rfl rfl (by decide +kernel) ⟨472, rfl⟩ rfl (fun w z => ⟨[], fM_w7, fun _ _ _ f hf => (by cases hf), kb_w7, kc_w7⟩) hL hB hi IH hF.1 (fun f hf => by cases hf) (by omega) ag (rset_kok hK) ⟨av, fcn (decide_eq_false (show ¬ ρ.1 1314 = 0 from hon)) (fcn (decide_eq_false (nlt_i (show (0 : Int32).toInt ≤ ((sd (pXs L xs) ρ (scT 2)).1).toInt from i0))) (fcn (decide_eq_false (nlt_i (show ((sd (pXs L xs) ρ (scT 2)).1).toInt ≤ (65535 : Int32).toInt from i1))) (fcn (decide_eq_false (nlt_i (show (0 : Int32).toInt ≤ ((sd (pXs L xs) ρ (scT 3)).1).toInt from s0))) (fcn (decide_eq_true (show n.toInt = aslot ((sd (pXs L xs) ρ (scT 2)).1).toInt ((sd (pXs L xs) ρ (scT 3)).1).toInt from hn)) (fcn (decide_eq_false (show ¬ n < 0 from n0)) ((fun f hf => by cases hf)))))))⟩ (fun c hc => by cases hc) (PT_ag ag hp) ?_ ?_)
    · show [Value.ref 0, Value.int 1, Value.int _, Value.int _, Value.int _] = [Value.ref 0, sv (pXs L xs) ρ (scT 1), sv (pXs L xs) ρ (scT 2), sv (pXs L xs) ρ (scT 3), sv (pXs L xs) ρ (scT 4)]
      rw [sv_int (t := scT 1) rfl, v, sv_int (t := scT 2) rfl, sv_int (t := scT 3) rfl, sv_int (t := scT 4) rfl]
      rfl
    · show [Value.ref 219, Value.int 1, Value.int _, Value.int _, Value.int _] = [Value.ref 219, sv (pXs L xs) ρ (scT 1), sv (pXs L xs) ρ (scT 2), sv (pXs L xs) ρ (scT 3), sv (pXs L xs) ρ (scT 4)]
      rw [sv_int (t := scT 1) rfl, v, sv_int (t := scT 2) rfl, sv_int (t := scT 3) rfl, sv_int (t := scT 4) rfl]
      rfl
  · have v : (sd (pXs L xs) ρ (scT 1)).1 = 2 := Int32.toInt_inj.mp (by rw [w]; rfl)
    by_cases hon : ρ.1 1346 = 0
    · exact lrowS_ok (n := n) (F := ((2, scT 3, .int 0), false) :: ((0, .arg 1346, .int 0), true) :: ((0, scT 1, .int 2), true) :: ((2, scT 1, .int 2), false) :: ((2, .int 2, scT 1), false) :: ((2, .int 65535, scT 2), false) :: ((2, scT 2, .int 0), false) :: ((2, .int 3, scT 1), false) :: ((2, scT 1, .int 0), false) :: Fk 7) hL hB hi IH hK ⟨hF.1, fcn (decide_eq_false hs) (fcn (decide_eq_true (show ρ.1 1346 = 0 from hon)) (fcn (decide_eq_true v) (fcn (decide_eq_false (show ¬ (sd (pXs L xs) ρ (scT 1)).1 < 2 by rw [v]; decide)) (fcn (decide_eq_false (show ¬ 2 < (sd (pXs L xs) ρ (scT 1)).1 by rw [v]; decide)) (g.2)))))⟩ hp ⟨i0, i1⟩ hn (setn_f n0) (by decide +kernel) kp_7_2
    have ag : agr 59000 (rset [(60320, (sd (pXs L xs) ρ (scT 2)).1), (60352, (sd (pXs L xs) ρ (scT 3)).1), (60384, (sd (pXs L xs) ρ (scT 4)).1), (60416, n)] ρ) ρ := rset_agr (fun p hp => by
      simp only [List.mem_cons, List.not_mem_nil, or_false] at hp
      rcases hp with rfl | rfl | rfl | rfl
      · show 59000 ≤ 60320; decide
      · show 59000 ≤ 60352; decide
      · show 59000 ≤ 60384; decide
      · show 59000 ≤ 60416; decide)
    have av : vok (pXs L xs) (rset [(60320, (sd (pXs L xs) ρ (scT 2)).1), (60352, (sd (pXs L xs) ρ (scT 3)).1), (60384, (sd (pXs L xs) ρ (scT 4)).1), (60416, n)] ρ) := rset_vok (fun p hp r hr => by
      simp only [List.mem_cons, List.not_mem_nil, or_false] at hp
      rcases hp with rfl | rfl | rfl | rfl
      · rw [show vrng 60320 = none from rfl] at hr; cases hr
      · rw [show vrng 60352 = none from rfl] at hr; cases hr
      · rw [show vrng 60384 = none from rfl] at hr; cases hr
      · rw [show vrng 60416 = none from rfl] at hr; cases hr) (fun p hp => by
      simp only [List.mem_cons, List.not_mem_nil, or_false] at hp
      rcases hp with rfl | rfl | rfl | rfl
      · show (60320 : Nat) % 2 = 0; decide
      · show (60352 : Nat) % 2 = 0; decide
      · show (60384 : Nat) % 2 = 0; decide
      · show (60416 : Nat) % 2 = 0; decide) hF.1
    refine crow_ok hK g ka_w7 (lgood (C := cD_oct2) (t := 40 * (ρ.1 59744).toInt) (tq := 40 * (ρ.1 59744).toInt) (vt := [.arg 59808]) (FZ := fZ_w7) (nB := 300) (nC := 300) s_oct2 rfl (by decide +kernel) (fun ρ ρ' v1 v2 q => by
      obtain ⟨⟨r, e1, e2⟩, k', v', t', p'⟩ := q
      exact ⟨r, 0, fun ρ0 => (by rw [e1]; rfl), e2.trans e1.symm, k', v', t', p'⟩) rfl rfl rfl (by decide +kernel) rfl rfl rfl (by decide +kernel) ⟨472, rfl⟩ rfl (fun w z => ⟨[], fM_w7, fun _ _ _ f hf => (by cases hf), kb_w7, kc_w7⟩) hL hB hi IH hF.1 (fun f hf => by cases hf) (by omega) ag (rset_kok hK) ⟨av, fcn (decide_eq_false (show ¬ ρ.1 1346 = 0 from hon)) (fcn (decide_eq_false (nlt_i (show (0 : Int32).toInt ≤ ((sd (pXs L xs) ρ (scT 2)).1).toInt from i0))) (fcn (decide_eq_false (nlt_i (show ((sd (pXs L xs) ρ (scT 2)).1).toInt ≤ (65535 : Int32).toInt from i1))) (fcn (decide_eq_false (nlt_i (show (0 : Int32).toInt ≤ ((sd (pXs L xs) ρ (scT 3)).1).toInt from s0))) (fcn (decide_eq_true (show n.toInt = aslot ((sd (pXs L xs) ρ (scT 2)).1).toInt ((sd (pXs L xs) ρ (scT 3)).1).toInt from hn)) (fcn (decide_eq_false (show ¬ n < 0 from n0)) ((fun f hf => by cases hf)))))))⟩ (fun c hc => by cases hc) (PT_ag ag hp) ?_ ?_)
    · show [Value.ref 0, Value.int 2, Value.int _, Value.int _, Value.int _] = [Value.ref 0, sv (pXs L xs) ρ (scT 1), sv (pXs L xs) ρ (scT 2), sv (pXs L xs) ρ (scT 3), sv (pXs L xs) ρ (scT 4)]
      rw [sv_int (t := scT 1) rfl, v, sv_int (t := scT 2) rfl, sv_int (t := scT 3) rfl, sv_int (t := scT 4) rfl]
      rfl
    · show [Value.ref 219, Value.int 2, Value.int _, Value.int _, Value.int _] = [Value.ref 219, sv (pXs L xs) ρ (scT 1), sv (pXs L xs) ρ (scT 2), sv (pXs L xs) ρ (scT 3), sv (pXs L xs) ρ (scT 4)]
      rw [sv_int (t := scT 1) rfl, v, sv_int (t := scT 2) rfl, sv_int (t := scT 3) rfl, sv_int (t := scT 4) rfl]
      rfl
  · have v : (sd (pXs L xs) ρ (scT 1)).1 = 3 := Int32.toInt_inj.mp (by rw [w]; rfl)
    by_cases hon : ρ.1 1378 = 0
    · exact lrowS_ok (n := n) (F := ((2, scT 3, .int 0), false) :: ((0, .arg 1378, .int 0), true) :: ((0, scT 1, .int 3), true) :: ((2, scT 1, .int 3), false) :: ((2, .int 3, scT 1), false) :: ((2, .int 65535, scT 2), false) :: ((2, scT 2, .int 0), false) :: ((2, .int 3, scT 1), false) :: ((2, scT 1, .int 0), false) :: Fk 7) hL hB hi IH hK ⟨hF.1, fcn (decide_eq_false hs) (fcn (decide_eq_true (show ρ.1 1378 = 0 from hon)) (fcn (decide_eq_true v) (fcn (decide_eq_false (show ¬ (sd (pXs L xs) ρ (scT 1)).1 < 3 by rw [v]; decide)) (fcn (decide_eq_false (show ¬ 3 < (sd (pXs L xs) ρ (scT 1)).1 by rw [v]; decide)) (g.2)))))⟩ hp ⟨i0, i1⟩ hn (setn_f n0) (by decide +kernel) kp_7_3
    have ag : agr 59000 (rset [(60320, (sd (pXs L xs) ρ (scT 2)).1), (60352, (sd (pXs L xs) ρ (scT 3)).1), (60384, (sd (pXs L xs) ρ (scT 4)).1), (60416, n)] ρ) ρ := rset_agr (fun p hp => by
      simp only [List.mem_cons, List.not_mem_nil, or_false] at hp
      rcases hp with rfl | rfl | rfl | rfl
      · show 59000 ≤ 60320; decide
      · show 59000 ≤ 60352; decide
      · show 59000 ≤ 60384; decide
      · show 59000 ≤ 60416; decide)
    have av : vok (pXs L xs) (rset [(60320, (sd (pXs L xs) ρ (scT 2)).1), (60352, (sd (pXs L xs) ρ (scT 3)).1), (60384, (sd (pXs L xs) ρ (scT 4)).1), (60416, n)] ρ) := rset_vok (fun p hp r hr => by
      simp only [List.mem_cons, List.not_mem_nil, or_false] at hp
      rcases hp with rfl | rfl | rfl | rfl
      · rw [show vrng 60320 = none from rfl] at hr; cases hr
      · rw [show vrng 60352 = none from rfl] at hr; cases hr
      · rw [show vrng 60384 = none from rfl] at hr; cases hr
      · rw [show vrng 60416 = none from rfl] at hr; cases hr) (fun p hp => by
      simp only [List.mem_cons, List.not_mem_nil, or_false] at hp
      rcases hp with rfl | rfl | rfl | rfl
      · show (60320 : Nat) % 2 = 0; decide
      · show (60352 : Nat) % 2 = 0; decide
      · show (60384 : Nat) % 2 = 0; decide
      · show (60416 : Nat) % 2 = 0; decide) hF.1
    refine crow_ok hK g ka_w7 (lgood (C := cD_oct3) (t := 40 * (ρ.1 59744).toInt) (tq := 40 * (ρ.1 59744).toInt) (vt := [.arg 59808]) (FZ := fZ_w7) (nB := 300) (nC := 300) s_oct3 rfl (by decide +kernel) (fun ρ ρ' v1 v2 q => by
      obtain ⟨⟨r, e1, e2⟩, k', v', t', p'⟩ := q
      exact ⟨r, 0, fun ρ0 => (by rw [e1]; rfl), e2.trans e1.symm, k', v', t', p'⟩) rfl rfl rfl (by decide +kernel) rfl rfl rfl (by decide +kernel) ⟨472, rfl⟩ rfl (fun w z => ⟨[], fM_w7, fun _ _ _ f hf => (by cases hf), kb_w7, kc_w7⟩) hL hB hi IH hF.1 (fun f hf => by cases hf) (by omega) ag (rset_kok hK) ⟨av, fcn (decide_eq_false (show ¬ ρ.1 1378 = 0 from hon)) (fcn (decide_eq_false (nlt_i (show (0 : Int32).toInt ≤ ((sd (pXs L xs) ρ (scT 2)).1).toInt from i0))) (fcn (decide_eq_false (nlt_i (show ((sd (pXs L xs) ρ (scT 2)).1).toInt ≤ (65535 : Int32).toInt from i1))) (fcn (decide_eq_false (nlt_i (show (0 : Int32).toInt ≤ ((sd (pXs L xs) ρ (scT 3)).1).toInt from s0))) (fcn (decide_eq_true (show n.toInt = aslot ((sd (pXs L xs) ρ (scT 2)).1).toInt ((sd (pXs L xs) ρ (scT 3)).1).toInt from hn)) (fcn (decide_eq_false (show ¬ n < 0 from n0)) ((fun f hf => by cases hf)))))))⟩ (fun c hc => by cases hc) (PT_ag ag hp) ?_ ?_)
    · show [Value.ref 0, Value.int 3, Value.int _, Value.int _, Value.int _] = [Value.ref 0, sv (pXs L xs) ρ (scT 1), sv (pXs L xs) ρ (scT 2), sv (pXs L xs) ρ (scT 3), sv (pXs L xs) ρ (scT 4)]
      rw [sv_int (t := scT 1) rfl, v, sv_int (t := scT 2) rfl, sv_int (t := scT 3) rfl, sv_int (t := scT 4) rfl]
      rfl
    · show [Value.ref 219, Value.int 3, Value.int _, Value.int _, Value.int _] = [Value.ref 219, sv (pXs L xs) ρ (scT 1), sv (pXs L xs) ρ (scT 2), sv (pXs L xs) ρ (scT 3), sv (pXs L xs) ρ (scT 4)]
      rw [sv_int (t := scT 1) rfl, v, sv_int (t := scT 2) rfl, sv_int (t := scT 3) rfl, sv_int (t := scT 4) rfl]
      rfl
