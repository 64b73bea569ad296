set_option maxRecDepth 20000
/-! ===== the law: cases by contracts ===== -/
noncomputable def rsl (n : Nat) (z : Int64) (ρ : sR) : sR := (ρ.1, fun i => if i = n then z else ρ.2.1 i, ρ.2.2)
theorem rsl_agr {n : Nat} {z : Int64} {ρ1 ρ : sR} (h : 59000 ≤ n) (ha : agr 59000 ρ1 ρ) : agr 59000 (rsl n z ρ1) ρ := ⟨fun i hi => ⟨(ha.1 i hi).1, (if_neg (by omega)).trans (ha.1 i hi).2⟩, ha.2⟩
theorem rsl_vok {X : pX} {n : Nat} {z : Int64} {ρ : sR} (h : vrng n = none) (hv : vok X ρ) : vok X (rsl n z ρ) := by
  constructor
  · intro i r hr
    have h0 : i ≠ n := fun e => by rw [e, h] at hr; cases hr
    have e : sn X (rsl n z ρ) (.arg i) = sn X ρ (.arg i) := by
      show (if i % 2 = 1 then ((if i = n then z else ρ.2.1 i)).toInt else (ρ.1 i).toInt) = (if i % 2 = 1 then (ρ.2.1 i).toInt else (ρ.1 i).toInt)
      rw [if_neg h0]
    rw [e]
    exact hv.1 i r hr
  · intro a t r hr
    have e : sn X (rsl n z ρ) (.elem (.arg a) t) = sn X ρ (.elem (.arg a) (.int (sd X (rsl n z ρ) t).1)) := rfl
    rw [e]
    exact hv.2 a _ r hr
theorem rsl_kok {X : pX} {n : Nat} {z : Int64} {ρ : sR} (hk : kok X ρ kR) : kok X (rsl n z ρ) kR := ⟨hk.1, hk.2.1, hk.2.2.1, fun e => by rw [kR_x] at e; cases e⟩
theorem kr_2_0 : lrow 122 600 (((2, scT 1, .int 0), true) :: Fk 2) = true := by decide +kernel
theorem kr_2_1 : lrow 122 600 (((2, .int 2047, scT 1), true) :: ((2, scT 1, .int 0), false) :: Fk 2) = true := by decide +kernel
theorem kr_2_2 : lrow 122 600 (((2, scT 3, .int 0), true) :: ((2, .int 2047, scT 1), false) :: ((2, scT 1, .int 0), false) :: Fk 2) = true := by decide +kernel
theorem kr_2_3 : lrow 122 600 (((2, .int 8, scT 3), true) :: ((2, scT 3, .int 0), false) :: ((2, .int 2047, scT 1), false) :: ((2, scT 1, .int 0), false) :: Fk 2) = true := by decide +kernel
theorem wk_c_frm0_0 : wok c_frm0_0 = true := by decide +kernel
theorem kp_c_frm0_0 {X : pX} {t : Int} : KP X c_frm0_0 t := KP_of (by decide +kernel)
theorem wk_c_frm0_1 : wok c_frm0_1 = true := by decide +kernel
theorem kp_c_frm0_1 {X : pX} {t : Int} : KP X c_frm0_1 t := KP_of (by decide +kernel)
theorem wk_c_frm0_2 : wok c_frm0_2 = true := by decide +kernel
theorem kp_c_frm0_2 {X : pX} {t : Int} : KP X c_frm0_2 t := KP_of (by decide +kernel)
theorem wk_c_frm0_3 : wok c_frm0_3 = true := by decide +kernel
theorem kp_c_frm0_3 {X : pX} {t : Int} : KP X c_frm0_3 t := KP_of (by decide +kernel)
theorem wk_c_frm0_4 : wok c_frm0_4 = true := by decide +kernel
theorem kp_c_frm0_4 {X : pX} {t : Int} : KP X c_frm0_4 t := KP_of (by decide +kernel)
theorem wk_c_frm0_5 : wok c_frm0_5 = true := by decide +kernel
theorem kp_c_frm0_5 {X : pX} {t : Int} : KP X c_frm0_5 t := KP_of (by decide +kernel)
theorem wk_c_frm0_6 : wok c_frm0_6 = true := by decide +kernel
theorem kp_c_frm0_6 {X : pX} {t : Int} : KP X c_frm0_6 t := KP_of (by decide +kernel)
theorem wk_c_frm0_7 : wok c_frm0_7 = true := by decide +kernel
theorem kp_c_frm0_7 {X : pX} {t : Int} : KP X c_frm0_7 t := KP_of (by decide +kernel)
theorem wk_c_frm0_8 : wok c_frm0_8 = true := by decide +kernel
theorem kp_c_frm0_8 {X : pX} {t : Int} : KP X c_frm0_8 t := KP_of (by decide +kernel)
noncomputable def hA_w2_0 : sF := frH 434 7 [(0, tr 0), (1, scT 1), (2, .int 0), (3, scT 3), (4, .op2 .lor (.op2 .lshl (.op1 .i2l (scT 4)) (.int 32)) (.op2 .land (.op1 .i2l (scT 5)) (.long 4294967295))), (6, tr 348)] [.op2 .lor (.op2 .lshl (.op1 .i2l (scT 4)) (.int 32)) (.op2 .land (.op1 .i2l (scT 5)) (.long 4294967295)), scT 3, .int 0, scT 1, tr 0, .int 0, tr 348]
noncomputable def lA_w2_0 : sF := frL 161 zLv []
noncomputable def sA_w2_0 : sS := (hA_w2_0, [lA_w2_0], 19, zLw, 103275)
theorem ka_w2_0 : crow 122 400 (((0, scT 2, .int 0), true) :: ((2, .int 8, scT 3), false) :: ((2, scT 3, .int 0), false) :: ((2, .int 2047, scT 1), false) :: ((2, scT 1, .int 0), false) :: Fk 2) sA_w2_0 = true := by decide +kernel
noncomputable def hB_w2_0 : sF := frH 434 8 [(0, tr 0), (1, scT 1), (2, .int 0), (3, scT 3), (4, .op2 .lor (.op2 .lshl (.op1 .i2l (scT 4)) (.int 32)) (.op2 .land (.op1 .i2l (scT 5)) (.long 4294967295))), (6, tr 348)] ([.arg 59808] ++ [.int 0, tr 348])
noncomputable def sM_w2_0 : sS := (frL 199 ((5, .int 0) :: zLv) [.op2 .lor (.op2 .lshl (.op1 .i2l (scT 4)) (.int 32)) (.op2 .land (.op1 .i2l (scT 5)) (.long 4294967295)), scT 3, .int 0, scT 1, tr 219], [], 20, foot zLw fL8, 0)
noncomputable def fM_w2_0 : sFs := [((6, .arg 59841, .op1 .i2l (.arg 59808)), true)]
noncomputable def fZ_w2_0 : sFs := [((0, scT 2, .int 0), true)]
theorem kb_w2_0 : srun ysN pF pdfl mt_all hlp kR (fun F s => sinstX kR F (sgM s) fM_w2_0 sM_w2_0 s) 300 ([] ++ (fZ_w2_0 ++ Fi6)) (hB_w2_0, [lA_w2_0], 19, foot zLw fL8, 0) = true := by decide +kernel
theorem kc_w2_0 : srun ysN pF pdfl mt_all hlp kR sBkP 300 (((0, .arg 19232, .int 0), true) :: (fM_w2_0 ++ Fi6)) (frL 200 ((5, .int 0) :: zLv) ([.arg 59808] ++ []), [], 20, zLw, 103275) = true := by decide +kernel
theorem wk_c_frm1_0 : wok c_frm1_0 = true := by decide +kernel
theorem kp_c_frm1_0 {X : pX} {t : Int} : KP X c_frm1_0 t := KP_of (by decide +kernel)
theorem wk_c_frm1_1 : wok c_frm1_1 = true := by decide +kernel
theorem kp_c_frm1_1 {X : pX} {t : Int} : KP X c_frm1_1 t := KP_of (by decide +kernel)
theorem wk_c_frm1_2 : wok c_frm1_2 = true := by decide +kernel
theorem kp_c_frm1_2 {X : pX} {t : Int} : KP X c_frm1_2 t := KP_of (by decide +kernel)
theorem wk_c_frm1_3 : wok c_frm1_3 = true := by decide +kernel
theorem kp_c_frm1_3 {X : pX} {t : Int} : KP X c_frm1_3 t := KP_of (by decide +kernel)
theorem wk_c_frm1_4 : wok c_frm1_4 = true := by decide +kernel
theorem kp_c_frm1_4 {X : pX} {t : Int} : KP X c_frm1_4 t := KP_of (by decide +kernel)
theorem wk_c_frm1_5 : wok c_frm1_5 = true := by decide +kernel
theorem kp_c_frm1_5 {X : pX} {t : Int} : KP X c_frm1_5 t := KP_of (by decide +kernel)
theorem wk_c_frm1_6 : wok c_frm1_6 = true := by decide +kernel
theorem kp_c_frm1_6 {X : pX} {t : Int} : KP X c_frm1_6 t := KP_of (by decide +kernel)
theorem wk_c_frm1_7 : wok c_frm1_7 = true := by decide +kernel
theorem kp_c_frm1_7 {X : pX} {t : Int} : KP X c_frm1_7 t := KP_of (by decide +kernel)
theorem wk_c_frm1_8 : wok c_frm1_8 = true := by decide +kernel
theorem kp_c_frm1_8 {X : pX} {t : Int} : KP X c_frm1_8 t := KP_of (by decide +kernel)
noncomputable def hA_w2_1 : sF := frH 434 7 [(0, tr 0), (1, scT 1), (2, .int 1), (3, scT 3), (4, .op2 .lor (.op2 .lshl (.op1 .i2l (scT 4)) (.int 32)) (.op2 .land (.op1 .i2l (scT 5)) (.long 4294967295))), (6, tr 348)] [.op2 .lor (.op2 .lshl (.op1 .i2l (scT 4)) (.int 32)) (.op2 .land (.op1 .i2l (scT 5)) (.long 4294967295)), scT 3, .int 1, scT 1, tr 0, .int 0, tr 348]
noncomputable def lA_w2_1 : sF := frL 161 zLv []
noncomputable def sA_w2_1 : sS := (hA_w2_1, [lA_w2_1], 19, zLw, 103275)
theorem ka_w2_1 : crow 122 400 (((0, scT 2, .int 0), false) :: ((2, .int 8, scT 3), false) :: ((2, scT 3, .int 0), false) :: ((2, .int 2047, scT 1), false) :: ((2, scT 1, .int 0), false) :: Fk 2) sA_w2_1 = true := by decide +kernel
noncomputable def hB_w2_1 : sF := frH 434 8 [(0, tr 0), (1, scT 1), (2, .int 1), (3, scT 3), (4, .op2 .lor (.op2 .lshl (.op1 .i2l (scT 4)) (.int 32)) (.op2 .land (.op1 .i2l (scT 5)) (.long 4294967295))), (6, tr 348)] ([.arg 59808] ++ [.int 0, tr 348])
noncomputable def sM_w2_1 : sS := (frL 199 ((5, .int 0) :: zLv) [.op2 .lor (.op2 .lshl (.op1 .i2l (scT 4)) (.int 32)) (.op2 .land (.op1 .i2l (scT 5)) (.long 4294967295)), scT 3, .int 1, scT 1, tr 219], [], 20, foot zLw fL8, 0)
noncomputable def fM_w2_1 : sFs := [((6, .arg 59841, .op1 .i2l (.arg 59808)), true)]
noncomputable def fZ_w2_1 : sFs := [((0, scT 2, .int 0), false)]
theorem kb_w2_1 : srun ysN pF pdfl mt_all hlp kR (fun F s => sinstX kR F (sgM s) fM_w2_1 sM_w2_1 s) 300 ([] ++ (fZ_w2_1 ++ Fi6)) (hB_w2_1, [lA_w2_1], 19, foot zLw fL8, 0) = true := by decide +kernel
theorem kc_w2_1 : srun ysN pF pdfl mt_all hlp kR sBkP 300 (((0, .arg 19232, .int 0), true) :: (fM_w2_1 ++ Fi6)) (frL 200 ((5, .int 0) :: zLv) ([.arg 59808] ++ []), [], 20, zLw, 103275) = true := by decide +kernel
theorem zcp_2 {L : Nat} {xs : Nat → Int32} (hL : L ≤ 3073) : ZCP L xs 2 122 := by
  intro ρ hB hi IH hK hF hp
  have b1 := hB.1
  have b2 := hB.2.1
  by_cases r0 : (sd (pXs L xs) ρ (scT 1)).1 < (sd (pXs L xs) ρ (.int 0)).1
  · have g : fok (pXs L xs) ρ (((2, scT 1, .int 0), true) :: Fk 2) := ⟨hF.1, fcn (decide_eq_true r0) (hF.2)⟩
    exact lrow_ok hL hB hi IH hK g hp kr_2_0
  by_cases r1 : (sd (pXs L xs) ρ (.int 2047)).1 < (sd (pXs L xs) ρ (scT 1)).1
  · have g : fok (pXs L xs) ρ (((2, .int 2047, scT 1), true) :: ((2, scT 1, .int 0), false) :: Fk 2) := ⟨hF.1, fcn (decide_eq_true r1) (fcn (decide_eq_false r0) (hF.2))⟩
    exact lrow_ok hL hB hi IH hK g hp kr_2_1
  by_cases r2 : (sd (pXs L xs) ρ (scT 3)).1 < (sd (pXs L xs) ρ (.int 0)).1
  · have g : fok (pXs L xs) ρ (((2, scT 3, .int 0), true) :: ((2, .int 2047, scT 1), false) :: ((2, scT 1, .int 0), false) :: Fk 2) := ⟨hF.1, fcn (decide_eq_true r2) (fcn (decide_eq_false r1) (fcn (decide_eq_false r0) (hF.2)))⟩
    exact lrow_ok hL hB hi IH hK g hp kr_2_2
  by_cases r3 : (sd (pXs L xs) ρ (.int 8)).1 < (sd (pXs L xs) ρ (scT 3)).1
  · have g : fok (pXs L xs) ρ (((2, .int 8, scT 3), true) :: ((2, scT 3, .int 0), false) :: ((2, .int 2047, scT 1), false) :: ((2, scT 1, .int 0), false) :: Fk 2) := ⟨hF.1, fcn (decide_eq_true r3) (fcn (decide_eq_false r2) (fcn (decide_eq_false r1) (fcn (decide_eq_false r0) (hF.2))))⟩
    exact lrow_ok hL hB hi IH hK g hp kr_2_3
  have w1 : (0 : Int) ≤ ((sd (pXs L xs) ρ (scT 3)).1).toInt := ge_i r2
  have w2 : ((sd (pXs L xs) ρ (scT 3)).1).toInt ≤ (8 : Int) := le_i r3
  by_cases hb : (sd (pXs L xs) ρ (scT 2)).1 = (sd (pXs L xs) ρ (.int 0)).1
  · have g : fok (pXs L xs) ρ (((0, scT 2, .int 0), true) :: ((2, .int 8, scT 3), false) :: ((2, scT 3, .int 0), false) :: ((2, .int 2047, scT 1), false) :: ((2, scT 1, .int 0), false) :: Fk 2) := ⟨hF.1, fcn (decide_eq_true hb) (fcn (decide_eq_false r3) (fcn (decide_eq_false r2) (fcn (decide_eq_false r1) (fcn (decide_eq_false r0) (hF.2)))))⟩
    refine crow_ok hK g ka_w2_0 ?_
    rcases (show ((sd (pXs L xs) ρ (scT 3)).1).toInt = 0 ∨ ((sd (pXs L xs) ρ (scT 3)).1).toInt = 1 ∨ ((sd (pXs L xs) ρ (scT 3)).1).toInt = 2 ∨ ((sd (pXs L xs) ρ (scT 3)).1).toInt = 3 ∨ ((sd (pXs L xs) ρ (scT 3)).1).toInt = 4 ∨ ((sd (pXs L xs) ρ (scT 3)).1).toInt = 5 ∨ ((sd (pXs L xs) ρ (scT 3)).1).toInt = 6 ∨ ((sd (pXs L xs) ρ (scT 3)).1).toInt = 7 ∨ ((sd (pXs L xs) ρ (scT 3)).1).toInt = 8 by omega) with w | w | w | w | w | w | w | w | w
    · have v : (sd (pXs L xs) ρ (scT 3)).1 = 0 := Int32.toInt_inj.mp (by rw [w]; rfl)
      have ag0 : agr 59000 (rset [(60064, (sd (pXs L xs) ρ (scT 1)).1)] ρ) ρ := rset_agr (fun p hp => by
        simp only [List.mem_cons, List.not_mem_nil, or_false] at hp
        rcases hp with rfl
        · show 59000 ≤ 60064; decide)
      have av0 : vok (pXs L xs) (rset [(60064, (sd (pXs L xs) ρ (scT 1)).1)] ρ) := rset_vok (fun p hp r hr => by
        simp only [List.mem_cons, List.not_mem_nil, or_false] at hp
        rcases hp with rfl
        · rw [show vrng 60064 = none from rfl] at hr; cases hr) (fun p hp => by
        simp only [List.mem_cons, List.not_mem_nil, or_false] at hp
        rcases hp with rfl
        · show (60064 : Nat) % 2 = 0; decide) hF.1
      have ag : agr 59000 (rsl 60065 (sd (pXs L xs) ρ (.op2 .lor (.op2 .lshl (.op1 .i2l (scT 4)) (.int 32)) (.op2 .land (.op1 .i2l (scT 5)) (.long 4294967295)))).2 (rset [(60064, (sd (pXs L xs) ρ (scT 1)).1)] ρ)) ρ := rsl_agr (by decide) ag0
      have av : vok (pXs L xs) (rsl 60065 (sd (pXs L xs) ρ (.op2 .lor (.op2 .lshl (.op1 .i2l (scT 4)) (.int 32)) (.op2 .land (.op1 .i2l (scT 5)) (.long 4294967295)))).2 (rset [(60064, (sd (pXs L xs) ρ (scT 1)).1)] ρ)) := rsl_vok rfl av0
      refine lgood (C := wideC c_frm0_0) (t := 40 * (ρ.1 59744).toInt) (tq := 40 * (ρ.1 59744).toInt) (vt := [.arg 59808]) (FZ := fZ_w2_0) (nB := 300) (nC := 300) (SREL_w1 sT_frm0_0 wk_c_frm0_0) rfl (by decide +kernel) (hQ_I rfl rfl (by decide +kernel) kp_c_frm0_0) rfl rfl rfl (by decide +kernel) rfl rfl rfl (by decide +kernel) ⟨200, rfl⟩ rfl (fun w z => ⟨[], fM_w2_0, fun _ _ _ f hf => (by cases hf), kb_w2_0, kc_w2_0⟩) hL hB hi IH hF.1 (fall_S (L := ((0, scT 2, .int 0), true) :: ((2, .int 8, scT 3), false) :: ((2, scT 3, .int 0), false) :: ((2, .int 2047, scT 1), false) :: ((2, scT 1, .int 0), false) :: Fk 2) (by decide +kernel) g.2) (by omega) ag (rsl_kok (rset_kok hK)) ⟨av, fcn (decide_eq_false r0) (fcn (decide_eq_false r1) ((fun f hf => by cases hf)))⟩ (fun c hc => by cases hc) (PT_ag ag hp) ?_ ?_
      · show [Value.ref 0, Value.int _, Value.int _, Value.int (0), Value.long _] = [Value.ref 0, sv (pXs L xs) ρ (scT 1), Value.int 0, sv (pXs L xs) ρ (scT 3), sv (pXs L xs) ρ (.op2 .lor (.op2 .lshl (.op1 .i2l (scT 4)) (.int 32)) (.op2 .land (.op1 .i2l (scT 5)) (.long 4294967295)))]
        rw [sv_int (t := scT 1) rfl, sv_int (t := scT 3) rfl, show (sd (pXs L xs) ρ (scT 3)).1 = 0 from v, sv_long (t := .op2 .lor (.op2 .lshl (.op1 .i2l (scT 4)) (.int 32)) (.op2 .land (.op1 .i2l (scT 5)) (.long 4294967295))) rfl]
        rfl
      · show [Value.ref 219, Value.int _, Value.int _, Value.int (0), Value.long _] = [Value.ref 219, sv (pXs L xs) ρ (scT 1), Value.int 0, sv (pXs L xs) ρ (scT 3), sv (pXs L xs) ρ (.op2 .lor (.op2 .lshl (.op1 .i2l (scT 4)) (.int 32)) (.op2 .land (.op1 .i2l (scT 5)) (.long 4294967295)))]
        rw [sv_int (t := scT 1) rfl, sv_int (t := scT 3) rfl, show (sd (pXs L xs) ρ (scT 3)).1 = 0 from v, sv_long (t := .op2 .lor (.op2 .lshl (.op1 .i2l (scT 4)) (.int 32)) (.op2 .land (.op1 .i2l (scT 5)) (.long 4294967295))) rfl]
        rfl
    · have v : (sd (pXs L xs) ρ (scT 3)).1 = 1 := Int32.toInt_inj.mp (by rw [w]; rfl)
      have ag0 : agr 59000 (rset [(60064, (sd (pXs L xs) ρ (scT 1)).1)] ρ) ρ := rset_agr (fun p hp => by
        simp only [List.mem_cons, List.not_mem_nil, or_false] at hp
        rcases hp with rfl
        · show 59000 ≤ 60064; decide)
      have av0 : vok (pXs L xs) (rset [(60064, (sd (pXs L xs) ρ (scT 1)).1)] ρ) := rset_vok (fun p hp r hr => by
        simp only [List.mem_cons, List.not_mem_nil, or_false] at hp
        rcases hp with rfl
        · rw [show vrng 60064 = none from rfl] at hr; cases hr) (fun p hp => by
        simp only [List.mem_cons, List.not_mem_nil, or_false] at hp
        rcases hp with rfl
        · show (60064 : Nat) % 2 = 0; decide) hF.1
      have ag : agr 59000 (rsl 60065 (sd (pXs L xs) ρ (.op2 .lor (.op2 .lshl (.op1 .i2l (scT 4)) (.int 32)) (.op2 .land (.op1 .i2l (scT 5)) (.long 4294967295)))).2 (rset [(60064, (sd (pXs L xs) ρ (scT 1)).1)] ρ)) ρ := rsl_agr (by decide) ag0
      have av : vok (pXs L xs) (rsl 60065 (sd (pXs L xs) ρ (.op2 .lor (.op2 .lshl (.op1 .i2l (scT 4)) (.int 32)) (.op2 .land (.op1 .i2l (scT 5)) (.long 4294967295)))).2 (rset [(60064, (sd (pXs L xs) ρ (scT 1)).1)] ρ)) := rsl_vok rfl av0
      refine lgood (C := wideC c_frm0_1) (t := 40 * (ρ.1 59744).toInt) (tq := 40 * (ρ.1 59744).toInt) (vt := [.arg 59808]) (FZ := fZ_w2_0) (nB := 300) (nC := 300) (SREL_w1 sT_frm0_1 wk_c_frm0_1) rfl (by decide +kernel) (hQ_I rfl rfl (by decide +kernel) kp_c_frm0_1) rfl rfl rfl (by decide +kernel) rfl rfl rfl (by decide +kernel) ⟨200, rfl⟩ rfl (fun w z => ⟨[], fM_w2_0, fun _ _ _ f hf => (by cases hf), kb_w2_0, kc_w2_0⟩) hL hB hi IH hF.1 (fall_S (L := ((0, scT 2, .int 0), true) :: ((2, .int 8, scT 3), false) :: ((2, scT 3, .int 0), false) :: ((2, .int 2047, scT 1), false) :: ((2, scT 1, .int 0), false) :: Fk 2) (by decide +kernel) g.2) (by omega) ag (rsl_kok (rset_kok hK)) ⟨av, fcn (decide_eq_false r0) (fcn (decide_eq_false r1) ((fun f hf => by cases hf)))⟩ (fun c hc => by cases hc) (PT_ag ag hp) ?_ ?_
      · show [Value.ref 0, Value.int _, Value.int _, Value.int (1), Value.long _] = [Value.ref 0, sv (pXs L xs) ρ (scT 1), Value.int 0, sv (pXs L xs) ρ (scT 3), sv (pXs L xs) ρ (.op2 .lor (.op2 .lshl (.op1 .i2l (scT 4)) (.int 32)) (.op2 .land (.op1 .i2l (scT 5)) (.long 4294967295)))]
        rw [sv_int (t := scT 1) rfl, sv_int (t := scT 3) rfl, show (sd (pXs L xs) ρ (scT 3)).1 = 1 from v, sv_long (t := .op2 .lor (.op2 .lshl (.op1 .i2l (scT 4)) (.int 32)) (.op2 .land (.op1 .i2l (scT 5)) (.long 4294967295))) rfl]
        rfl
      · show [Value.ref 219, Value.int _, Value.int _, Value.int (1), Value.long _] = [Value.ref 219, sv (pXs L xs) ρ (scT 1), Value.int 0, sv (pXs L xs) ρ (scT 3), sv (pXs L xs) ρ (.op2 .lor (.op2 .lshl (.op1 .i2l (scT 4)) (.int 32)) (.op2 .land (.op1 .i2l (scT 5)) (.long 4294967295)))]
        rw [sv_int (t := scT 1) rfl, sv_int (t := scT 3) rfl, show (sd (pXs L xs) ρ (scT 3)).1 = 1 from v, sv_long (t := .op2 .lor (.op2 .lshl (.op1 .i2l (scT 4)) (.int 32)) (.op2 .land (.op1 .i2l (scT 5)) (.long 4294967295))) rfl]
        rfl
    · have v : (sd (pXs L xs) ρ (scT 3)).1 = 2 := Int32.toInt_inj.mp (by rw [w]; rfl)
      have ag0 : agr 59000 (rset [(60064, (sd (pXs L xs) ρ (scT 1)).1)] ρ) ρ := rset_agr (fun p hp => by
        simp only [List.mem_cons, List.not_mem_nil, or_false] at hp
        rcases hp with rfl
        · show 59000 ≤ 60064; decide)
      have av0 : vok (pXs L xs) (rset [(60064, (sd (pXs L xs) ρ (scT 1)).1)] ρ) := rset_vok (fun p hp r hr => by
        simp only [List.mem_cons, List.not_mem_nil, or_false] at hp
        rcases hp with rfl
        · rw [show vrng 60064 = none from rfl] at hr; cases hr) (fun p hp => by
        simp only [List.mem_cons, List.not_mem_nil, or_false] at hp
        rcases hp with rfl
        · show (60064 : Nat) % 2 = 0; decide) hF.1
      have ag : agr 59000 (rsl 60065 (sd (pXs L xs) ρ (.op2 .lor (.op2 .lshl (.op1 .i2l (scT 4)) (.int 32)) (.op2 .land (.op1 .i2l (scT 5)) (.long 4294967295)))).2 (rset [(60064, (sd (pXs L xs) ρ (scT 1)).1)] ρ)) ρ := rsl_agr (by decide) ag0
      have av : vok (pXs L xs) (rsl 60065 (sd (pXs L xs) ρ (.op2 .lor (.op2 .lshl (.op1 .i2l (scT 4)) (.int 32)) (.op2 .land (.op1 .i2l (scT 5)) (.long 4294967295)))).2 (rset [(60064, (sd (pXs L xs) ρ (scT 1)).1)] ρ)) := rsl_vok rfl av0
      refine lgood (C := wideC c_frm0_2) (t := 40 * (ρ.1 59744).toInt) (tq := 40 * (ρ.1 59744).toInt) (vt := [.arg 59808]) (FZ := fZ_w2_0) (nB := 300) (nC := 300) (SREL_w1 sT_frm0_2 wk_c_frm0_2) rfl (by decide +kernel) (hQ_I rfl rfl (by decide +kernel) kp_c_frm0_2) rfl rfl rfl (by decide +kernel) rfl rfl rfl (by decide +kernel) ⟨200, rfl⟩ rfl (fun w z => ⟨[], fM_w2_0, fun _ _ _ f hf => (by cases hf), kb_w2_0, kc_w2_0⟩) hL hB hi IH hF.1 (fall_S (L := ((0, scT 2, .int 0), true) :: ((2, .int 8, scT 3), false) :: ((2, scT 3, .int 0), false) :: ((2, .int 2047, scT 1), false) :: ((2, scT 1, .int 0), false) :: Fk 2) (by decide +kernel) g.2) (by omega) ag (rsl_kok (rset_kok hK)) ⟨av, fcn (decide_eq_false r0) (fcn (decide_eq_false r1) ((fun f hf => by cases hf)))⟩ (fun c hc => by cases hc) (PT_ag ag hp) ?_ ?_
      · show [Value.ref 0, Value.int _, Value.int _, Value.int (2), Value.long _] = [Value.ref 0, sv (pXs L xs) ρ (scT 1), Value.int 0, sv (pXs L xs) ρ (scT 3), sv (pXs L xs) ρ (.op2 .lor (.op2 .lshl (.op1 .i2l (scT 4)) (.int 32)) (.op2 .land (.op1 .i2l (scT 5)) (.long 4294967295)))]
        rw [sv_int (t := scT 1) rfl, sv_int (t := scT 3) rfl, show (sd (pXs L xs) ρ (scT 3)).1 = 2 from v, sv_long (t := .op2 .lor (.op2 .lshl (.op1 .i2l (scT 4)) (.int 32)) (.op2 .land (.op1 .i2l (scT 5)) (.long 4294967295))) rfl]
        rfl
      · show [Value.ref 219, Value.int _, Value.int _, Value.int (2), Value.long _] = [Value.ref 219, sv (pXs L xs) ρ (scT 1), Value.int 0, sv (pXs L xs) ρ (scT 3), sv (pXs L xs) ρ (.op2 .lor (.op2 .lshl (.op1 .i2l (scT 4)) (.int 32)) (.op2 .land (.op1 .i2l (scT 5)) (.long 4294967295)))]
        rw [sv_int (t := scT 1) rfl, sv_int (t := scT 3) rfl, show (sd (pXs L xs) ρ (scT 3)).1 = 2 from v, sv_long (t := .op2 .lor (.op2 .lshl (.op1 .i2l (scT 4)) (.int 32)) (.op2 .land (.op1 .i2l (scT 5)) (.long 4294967295))) rfl]
        rfl
    · have v : (sd (pXs L xs) ρ (scT 3)).1 = 3 := Int32.toInt_inj.mp (by rw [w]; rfl)
      have ag0 : agr 59000 (rset [(60064, (sd (pXs L xs) ρ (scT 1)).1)] ρ) ρ := rset_agr (fun p hp => by
        simp only [List.mem_cons, List.not_mem_nil, or_false] at hp
        rcases hp with rfl
        · show 59000 ≤ 60064; decide)
      have av0 : vok (pXs L xs) (rset [(60064, (sd (pXs L xs) ρ (scT 1)).1)] ρ) := rset_vok (fun p hp r hr => by
        simp only [List.mem_cons, List.not_mem_nil, or_false] at hp
        rcases hp with rfl
        · rw [show vrng 60064 = none from rfl] at hr; cases hr) (fun p hp => by
        simp only [List.mem_cons, List.not_mem_nil, or_false] at hp
        rcases hp with rfl
        · show (60064 : Nat) % 2 = 0; decide) hF.1
      have ag : agr 59000 (rsl 60065 (sd (pXs L xs) ρ (.op2 .lor (.op2 .lshl (.op1 .i2l (scT 4)) (.int 32)) (.op2 .land (.op1 .i2l (scT 5)) (.long 4294967295)))).2 (rset [(60064, (sd (pXs L xs) ρ (scT 1)).1)] ρ)) ρ := rsl_agr (by decide) ag0
      have av : vok (pXs L xs) (rsl 60065 (sd (pXs L xs) ρ (.op2 .lor (.op2 .lshl (.op1 .i2l (scT 4)) (.int 32)) (.op2 .land (.op1 .i2l (scT 5)) (.long 4294967295)))).2 (rset [(60064, (sd (pXs L xs) ρ (scT 1)).1)] ρ)) := rsl_vok rfl av0
      refine lgood (C := wideC c_frm0_3) (t := 40 * (ρ.1 59744).toInt) (tq := 40 * (ρ.1 59744).toInt) (vt := [.arg 59808]) (FZ := fZ_w2_0) (nB := 300) (nC := 300) (SREL_w1 sT_frm0_3 wk_c_frm0_3) rfl (by decide +kernel) (hQ_I rfl rfl (by decide +kernel) kp_c_frm0_3) rfl rfl rfl (by decide +kernel) rfl rfl rfl (by decide +kernel) ⟨200, rfl⟩ rfl (fun w z => ⟨[], fM_w2_0, fun _ _ _ f hf => (by cases hf), kb_w2_0, kc_w2_0⟩) hL hB hi IH hF.1 (fall_S (L := ((0, scT 2, .int 0), true) :: ((2, .int 8, scT 3), false) :: ((2, scT 3, .int 0), false) :: ((2, .int 2047, scT 1), false) :: ((2, scT 1, .int 0), false) :: Fk 2) (by decide +kernel) g.2) (by omega) ag (rsl_kok (rset_kok hK)) ⟨av, fcn (decide_eq_false r0) (fcn (decide_eq_false r1) ((fun f hf => by cases hf)))⟩ (fun c hc => by cases hc) (PT_ag ag hp) ?_ ?_
      · show [Value.ref 0, Value.int _, Value.int _, Value.int (3), Value.long _] = [Value.ref 0, sv (pXs L xs) ρ (scT 1), Value.int 0, sv (pXs L xs) ρ (scT 3), sv (pXs L xs) ρ (.op2 .lor (.op2 .lshl (.op1 .i2l (scT 4)) (.int 32)) (.op2 .land (.op1 .i2l (scT 5)) (.long 4294967295)))]
        rw [sv_int (t := scT 1) rfl, sv_int (t := scT 3) rfl, show (sd (pXs L xs) ρ (scT 3)).1 = 3 from v, sv_long (t := .op2 .lor (.op2 .lshl (.op1 .i2l (scT 4)) (.int 32)) (.op2 .land (.op1 .i2l (scT 5)) (.long 4294967295))) rfl]
        rfl
      · show [Value.ref 219, Value.int _, Value.int _, Value.int (3), Value.long _] = [Value.ref 219, sv (pXs L xs) ρ (scT 1), Value.int 0, sv (pXs L xs) ρ (scT 3), sv (pXs L xs) ρ (.op2 .lor (.op2 .lshl (.op1 .i2l (scT 4)) (.int 32)) (.op2 .land (.op1 .i2l (scT 5)) (.long 4294967295)))]
        rw [sv_int (t := scT 1) rfl, sv_int (t := scT 3) rfl, show (sd (pXs L xs) ρ (scT 3)).1 = 3 from v, sv_long (t := .op2 .lor (.op2 .lshl (.op1 .i2l (scT 4)) (.int 32)) (.op2 .land (.op1 .i2l (scT 5)) (.long 4294967295))) rfl]
        rfl
    · have v : (sd (pXs L xs) ρ (scT 3)).1 = 4 := Int32.toInt_inj.mp (by rw [w]; rfl)
      have ag0 : agr 59000 (rset [(60064, (sd (pXs L xs) ρ (scT 1)).1)] ρ) ρ := rset_agr (fun p hp => by
        simp only [List.mem_cons, List.not_mem_nil, or_false] at hp
        rcases hp with rfl
        · show 59000 ≤ 60064; decide)
      have av0 : vok (pXs L xs) (rset [(60064, (sd (pXs L xs) ρ (scT 1)).1)] ρ) := rset_vok (fun p hp r hr => by
        simp only [List.mem_cons, List.not_mem_nil, or_false] at hp
        rcases hp with rfl
        · rw [show vrng 60064 = none from rfl] at hr; cases hr) (fun p hp => by
        simp only [List.mem_cons, List.not_mem_nil, or_false] at hp
        rcases hp with rfl
        · show (60064 : Nat) % 2 = 0; decide) hF.1
      have ag : agr 59000 (rsl 60065 (sd (pXs L xs) ρ (.op2 .lor (.op2 .lshl (.op1 .i2l (scT 4)) (.int 32)) (.op2 .land (.op1 .i2l (scT 5)) (.long 4294967295)))).2 (rset [(60064, (sd (pXs L xs) ρ (scT 1)).1)] ρ)) ρ := rsl_agr (by decide) ag0
      have av : vok (pXs L xs) (rsl 60065 (sd (pXs L xs) ρ (.op2 .lor (.op2 .lshl (.op1 .i2l (scT 4)) (.int 32)) (.op2 .land (.op1 .i2l (scT 5)) (.long 4294967295)))).2 (rset [(60064, (sd (pXs L xs) ρ (scT 1)).1)] ρ)) := rsl_vok rfl av0
      refine lgood (C := wideC c_frm0_4) (t := 40 * (ρ.1 59744).toInt) (tq := 40 * (ρ.1 59744).toInt) (vt := [.arg 59808]) (FZ := fZ_w2_0) (nB := 300) (nC := 300) (SREL_w1 sT_frm0_4 wk_c_frm0_4) rfl (by decide +kernel) (hQ_I rfl rfl (by decide +kernel) kp_c_frm0_4) rfl rfl rfl (by decide +kernel) rfl rfl rfl (by decide +kernel) ⟨200, rfl⟩ rfl (fun w z => ⟨[], fM_w2_0, fun _ _ _ f hf => (by cases hf), kb_w2_0, kc_w2_0⟩) hL hB hi IH hF.1 (fall_S (L := ((0, scT 2, .int 0), true) :: ((2, .int 8, scT 3), false) :: ((2, scT 3, .int 0), false) :: ((2, .int 2047, scT 1), false) :: ((2, scT 1, .int 0), false) :: Fk 2) (by decide +kernel) g.2) (by omega) ag (rsl_kok (rset_kok hK)) ⟨av, fcn (decide_eq_false r0) (fcn (decide_eq_false r1) ((fun f hf => by cases hf)))⟩ (fun c hc => by cases hc) (PT_ag ag hp) ?_ ?_
      · show [Value.ref 0, Value.int _, Value.int _, Value.int (4), Value.long _] = [Value.ref 0, sv (pXs L xs) ρ (scT 1), Value.int 0, sv (pXs L xs) ρ (scT 3), sv (pXs L xs) ρ (.op2 .lor (.op2 .lshl (.op1 .i2l (scT 4)) (.int 32)) (.op2 .land (.op1 .i2l (scT 5)) (.long 4294967295)))]
        rw [sv_int (t := scT 1) rfl, sv_int (t := scT 3) rfl, show (sd (pXs L xs) ρ (scT 3)).1 = 4 from v, sv_long (t := .op2 .lor (.op2 .lshl (.op1 .i2l (scT 4)) (.int 32)) (.op2 .land (.op1 .i2l (scT 5)) (.long 4294967295))) rfl]
        rfl
      · show [Value.ref 219, Value.int _, Value.int _, Value.int (4), Value.long _] = [Value.ref 219, sv (pXs L xs) ρ (scT 1), Value.int 0, sv (pXs L xs) ρ (scT 3), sv (pXs L xs) ρ (.op2 .lor (.op2 .lshl (.op1 .i2l (scT 4)) (.int 32)) (.op2 .land (.op1 .i2l (scT 5)) (.long 4294967295)))]
        rw [sv_int (t := scT 1) rfl, sv_int (t := scT 3) rfl, show (sd (pXs L xs) ρ (scT 3)).1 = 4 from v, sv_long (t := .op2 .lor (.op2 .lshl (.op1 .i2l (scT 4)) (.int 32)) (.op2 .land (.op1 .i2l (scT 5)) (.long 4294967295))) rfl]
        rfl
    · have v : (sd (pXs L xs) ρ (scT 3)).1 = 5 := Int32.toInt_inj.mp (by rw [w]; rfl)
      have ag0 : agr 59000 (rset [(60064, (sd (pXs L xs) ρ (scT 1)).1)] ρ) ρ := rset_agr (fun p hp => by
        simp only [List.mem_cons, List.not_mem_nil, or_false] at hp
        rcases hp with rfl
        · show 59000 ≤ 60064; decide)
      have av0 : vok (pXs L xs) (rset [(60064, (sd (pXs L xs) ρ (scT 1)).1)] ρ) := rset_vok (fun p hp r hr => by
        simp only [List.mem_cons, List.not_mem_nil, or_false] at hp
        rcases hp with rfl
        · rw [show vrng 60064 = none from rfl] at hr; cases hr) (fun p hp => by
        simp only [List.mem_cons, List.not_mem_nil, or_false] at hp
        rcases hp with rfl
        · show (60064 : Nat) % 2 = 0; decide) hF.1
      have ag : agr 59000 (rsl 60065 (sd (pXs L xs) ρ (.op2 .lor (.op2 .lshl (.op1 .i2l (scT 4)) (.int 32)) (.op2 .land (.op1 .i2l (scT 5)) (.long 4294967295)))).2 (rset [(60064, (sd (pXs L xs) ρ (scT 1)).1)] ρ)) ρ := rsl_agr (by decide) ag0
      have av : vok (pXs L xs) (rsl 60065 (sd (pXs L xs) ρ (.op2 .lor (.op2 .lshl (.op1 .i2l (scT 4)) (.int 32)) (.op2 .land (.op1 .i2l (scT 5)) (.long 4294967295)))).2 (rset [(60064, (sd (pXs L xs) ρ (scT 1)).1)] ρ)) := rsl_vok rfl av0
      refine lgood (C := wideC c_frm0_5) (t := 40 * (ρ.1 59744).toInt) (tq := 40 * (ρ.1 59744).toInt) (vt := [.arg 59808]) (FZ := fZ_w2_0) (nB := 300) (nC := 300) (SREL_w1 sT_frm0_5 wk_c_frm0_5) rfl (by decide +kernel) (hQ_I rfl rfl (by decide +kernel) kp_c_frm0_5) rfl rfl rfl (by decide +kernel) rfl rfl rfl (by decide +kernel) ⟨200, rfl⟩ rfl (fun w z => ⟨[], fM_w2_0, fun _ _ _ f hf => (by cases hf), kb_w2_0, kc_w2_0⟩) hL hB hi IH hF.1 (fall_S (L := ((0, scT 2, .int 0), true) :: ((2, .int 8, scT 3), false) :: ((2, scT 3, .int 0), false) :: ((2, .int 2047, scT 1), false) :: ((2, scT 1, .int 0), false) :: Fk 2) (by decide +kernel) g.2) (by omega) ag (rsl_kok (rset_kok hK)) ⟨av, fcn (decide_eq_false r0) (fcn (decide_eq_false r1) ((fun f hf => by cases hf)))⟩ (fun c hc => by cases hc) (PT_ag ag hp) ?_ ?_
      · show [Value.ref 0, Value.int _, Value.int _, Value.int (5), Value.long _] = [Value.ref 0, sv (pXs L xs) ρ (scT 1), Value.int 0, sv (pXs L xs) ρ (scT 3), sv (pXs L xs) ρ (.op2 .lor (.op2 .lshl (.op1 .i2l (scT 4)) (.int 32)) (.op2 .land (.op1 .i2l (scT 5)) (.long 4294967295)))]
        rw [sv_int (t := scT 1) rfl, sv_int (t := scT 3) rfl, show (sd (pXs L xs) ρ (scT 3)).1 = 5 from v, sv_long (t := .op2 .lor (.op2 .lshl (.op1 .i2l (scT 4)) (.int 32)) (.op2 .land (.op1 .i2l (scT 5)) (.long 4294967295))) rfl]
        rfl
      · show [Value.ref 219, Value.int _, Value.int _, Value.int (5), Value.long _] = [Value.ref 219, sv (pXs L xs) ρ (scT 1), Value.int 0, sv (pXs L xs) ρ (scT 3), sv (pXs L xs) ρ (.op2 .lor (.op2 .lshl (.op1 .i2l (scT 4)) (.int 32)) (.op2 .land (.op1 .i2l (scT 5)) (.long 4294967295)))]
        rw [sv_int (t := scT 1) rfl, sv_int (t := scT 3) rfl, show (sd (pXs L xs) ρ (scT 3)).1 = 5 from v, sv_long (t := .op2 .lor (.op2 .lshl (.op1 .i2l (scT 4)) (.int 32)) (.op2 .land (.op1 .i2l (scT 5)) (.long 4294967295))) rfl]
        rfl
    · have v : (sd (pXs L xs) ρ (scT 3)).1 = 6 := Int32.toInt_inj.mp (by rw [w]; rfl)
      have ag0 : agr 59000 (rset [(60064, (sd (pXs L xs) ρ (scT 1)).1)] ρ) ρ := rset_agr (fun p hp => by
        simp only [List.mem_cons, List.not_mem_nil, or_false] at hp
        rcases hp with rfl
        · show 59000 ≤ 60064; decide)
      have av0 : vok (pXs L xs) (rset [(60064, (sd (pXs L xs) ρ (scT 1)).1)] ρ) := rset_vok (fun p hp r hr => by
        simp only [List.mem_cons, List.not_mem_nil, or_false] at hp
        rcases hp with rfl
        · rw [show vrng 60064 = none from rfl] at hr; cases hr) (fun p hp => by
        simp only [List.mem_cons, List.not_mem_nil, or_false] at hp
        rcases hp with rfl
        · show (60064 : Nat) % 2 = 0; decide) hF.1
      have ag : agr 59000 (rsl 60065 (sd (pXs L xs) ρ (.op2 .lor (.op2 .lshl (.op1 .i2l (scT 4)) (.int 32)) (.op2 .land (.op1 .i2l (scT 5)) (.long 4294967295)))).2 (rset [(60064, (sd (pXs L xs) ρ (scT 1)).1)] ρ)) ρ := rsl_agr (by decide) ag0
      have av : vok (pXs L xs) (rsl 60065 (sd (pXs L xs) ρ (.op2 .lor (.op2 .lshl (.op1 .i2l (scT 4)) (.int 32)) (.op2 .land (.op1 .i2l (scT 5)) (.long 4294967295)))).2 (rset [(60064, (sd (pXs L xs) ρ (scT 1)).1)] ρ)) := rsl_vok rfl av0
      refine lgood (C := wideC c_frm0_6) (t := 40 * (ρ.1 59744).toInt) (tq := 40 * (ρ.1 59744).toInt) (vt := [.arg 59808]) (FZ := fZ_w2_0) (nB := 300) (nC := 300) (SREL_w1 sT_frm0_6 wk_c_frm0_6) rfl (by decide +kernel) (hQ_I rfl rfl (by decide +kernel) kp_c_frm0_6) rfl rfl rfl (by decide +kernel) rfl rfl rfl (by decide +kernel) ⟨200, rfl⟩ rfl (fun w z => ⟨[], fM_w2_0, fun _ _ _ f hf => (by cases hf), kb_w2_0, kc_w2_0⟩) hL hB hi IH hF.1 (fall_S (L := ((0, scT 2, .int 0), true) :: ((2, .int 8, scT 3), false) :: ((2, scT 3, .int 0), false) :: ((2, .int 2047, scT 1), false) :: ((2, scT 1, .int 0), false) :: Fk 2) (by decide +kernel) g.2) (by omega) ag (rsl_kok (rset_kok hK)) ⟨av, fcn (decide_eq_false r0) (fcn (decide_eq_false r1) ((fun f hf => by cases hf)))⟩ (fun c hc => by cases hc) (PT_ag ag hp) ?_ ?_
      · show [Value.ref 0, Value.int _, Value.int _, Value.int (6), Value.long _] = [Value.ref 0, sv (pXs L xs) ρ (scT 1), Value.int 0, sv (pXs L xs) ρ (scT 3), sv (pXs L xs) ρ (.op2 .lor (.op2 .lshl (.op1 .i2l (scT 4)) (.int 32)) (.op2 .land (.op1 .i2l (scT 5)) (.long 4294967295)))]
        rw [sv_int (t := scT 1) rfl, sv_int (t := scT 3) rfl, show (sd (pXs L xs) ρ (scT 3)).1 = 6 from v, sv_long (t := .op2 .lor (.op2 .lshl (.op1 .i2l (scT 4)) (.int 32)) (.op2 .land (.op1 .i2l (scT 5)) (.long 4294967295))) rfl]
        rfl
      · show [Value.ref 219, Value.int _, Value.int _, Value.int (6), Value.long _] = [Value.ref 219, sv (pXs L xs) ρ (scT 1), Value.int 0, sv (pXs L xs) ρ (scT 3), sv (pXs L xs) ρ (.op2 .lor (.op2 .lshl (.op1 .i2l (scT 4)) (.int 32)) (.op2 .land (.op1 .i2l (scT 5)) (.long 4294967295)))]
        rw [sv_int (t := scT 1) rfl, sv_int (t := scT 3) rfl, show (sd (pXs L xs) ρ (scT 3)).1 = 6 from v, sv_long (t := .op2 .lor (.op2 .lshl (.op1 .i2l (scT 4)) (.int 32)) (.op2 .land (.op1 .i2l (scT 5)) (.long 4294967295))) rfl]
        rfl
    · have v : (sd (pXs L xs) ρ (scT 3)).1 = 7 := Int32.toInt_inj.mp (by rw [w]; rfl)
      have ag0 : agr 59000 (rset [(60064, (sd (pXs L xs) ρ (scT 1)).1)] ρ) ρ := rset_agr (fun p hp => by
        simp only [List.mem_cons, List.not_mem_nil, or_false] at hp
        rcases hp with rfl
        · show 59000 ≤ 60064; decide)
      have av0 : vok (pXs L xs) (rset [(60064, (sd (pXs L xs) ρ (scT 1)).1)] ρ) := rset_vok (fun p hp r hr => by
        simp only [List.mem_cons, List.not_mem_nil, or_false] at hp
        rcases hp with rfl
        · rw [show vrng 60064 = none from rfl] at hr; cases hr) (fun p hp => by
        simp only [List.mem_cons, List.not_mem_nil, or_false] at hp
        rcases hp with rfl
        · show (60064 : Nat) % 2 = 0; decide) hF.1
      have ag : agr 59000 (rsl 60065 (sd (pXs L xs) ρ (.op2 .lor (.op2 .lshl (.op1 .i2l (scT 4)) (.int 32)) (.op2 .land (.op1 .i2l (scT 5)) (.long 4294967295)))).2 (rset [(60064, (sd (pXs L xs) ρ (scT 1)).1)] ρ)) ρ := rsl_agr (by decide) ag0
      have av : vok (pXs L xs) (rsl 60065 (sd (pXs L xs) ρ (.op2 .lor (.op2 .lshl (.op1 .i2l (scT 4)) (.int 32)) (.op2 .land (.op1 .i2l (scT 5)) (.long 4294967295)))).2 (rset [(60064, (sd (pXs L xs) ρ (scT 1)).1)] ρ)) := rsl_vok rfl av0
      refine lgood (C := wideC c_frm0_7) (t := 40 * (ρ.1 59744).toInt) (tq := 40 * (ρ.1 59744).toInt) (vt := [.arg 59808]) (FZ := fZ_w2_0) (nB := 300) (nC := 300) (SREL_w1 sT_frm0_7 wk_c_frm0_7) rfl (by decide +kernel) (hQ_I rfl rfl (by decide +kernel) kp_c_frm0_7) rfl rfl rfl (by decide +kernel) rfl rfl rfl (by decide +kernel) ⟨200, rfl⟩ rfl (fun w z => ⟨[], fM_w2_0, fun _ _ _ f hf => (by cases hf), kb_w2_0, kc_w2_0⟩) hL hB hi IH hF.1 (fall_S (L := ((0, scT 2, .int 0), true) :: ((2, .int 8, scT 3), false) :: ((2, scT 3, .int 0), false) :: ((2, .int 2047, scT 1), false) :: ((2, scT 1, .int 0), false) :: Fk 2) (by decide +kernel) g.2) (by omega) ag (rsl_kok (rset_kok hK)) ⟨av, fcn (decide_eq_false r0) (fcn (decide_eq_false r1) ((fun f hf => by cases hf)))⟩ (fun c hc => by cases hc) (PT_ag ag hp) ?_ ?_
      · show [Value.ref 0, Value.int _, Value.int _, Value.int (7), Value.long _] = [Value.ref 0, sv (pXs L xs) ρ (scT 1), Value.int 0, sv (pXs L xs) ρ (scT 3), sv (pXs L xs) ρ (.op2 .lor (.op2 .lshl (.op1 .i2l (scT 4)) (.int 32)) (.op2 .land (.op1 .i2l (scT 5)) (.long 4294967295)))]
        rw [sv_int (t := scT 1) rfl, sv_int (t := scT 3) rfl, show (sd (pXs L xs) ρ (scT 3)).1 = 7 from v, sv_long (t := .op2 .lor (.op2 .lshl (.op1 .i2l (scT 4)) (.int 32)) (.op2 .land (.op1 .i2l (scT 5)) (.long 4294967295))) rfl]
        rfl
      · show [Value.ref 219, Value.int _, Value.int _, Value.int (7), Value.long _] = [Value.ref 219, sv (pXs L xs) ρ (scT 1), Value.int 0, sv (pXs L xs) ρ (scT 3), sv (pXs L xs) ρ (.op2 .lor (.op2 .lshl (.op1 .i2l (scT 4)) (.int 32)) (.op2 .land (.op1 .i2l (scT 5)) (.long 4294967295)))]
        rw [sv_int (t := scT 1) rfl, sv_int (t := scT 3) rfl, show (sd (pXs L xs) ρ (scT 3)).1 = 7 from v, sv_long (t := .op2 .lor (.op2 .lshl (.op1 .i2l (scT 4)) (.int 32)) (.op2 .land (.op1 .i2l (scT 5)) (.long 4294967295))) rfl]
        rfl
    · have v : (sd (pXs L xs) ρ (scT 3)).1 = 8 := Int32.toInt_inj.mp (by rw [w]; rfl)
      have ag0 : agr 59000 (rset [(60064, (sd (pXs L xs) ρ (scT 1)).1)] ρ) ρ := rset_agr (fun p hp => by
        simp only [List.mem_cons, List.not_mem_nil, or_false] at hp
        rcases hp with rfl
        · show 59000 ≤ 60064; decide)
      have av0 : vok (pXs L xs) (rset [(60064, (sd (pXs L xs) ρ (scT 1)).1)] ρ) := rset_vok (fun p hp r hr => by
        simp only [List.mem_cons, List.not_mem_nil, or_false] at hp
        rcases hp with rfl
        · rw [show vrng 60064 = none from rfl] at hr; cases hr) (fun p hp => by
        simp only [List.mem_cons, List.not_mem_nil, or_false] at hp
        rcases hp with rfl
        · show (60064 : Nat) % 2 = 0; decide) hF.1
      have ag : agr 59000 (rsl 60065 (sd (pXs L xs) ρ (.op2 .lor (.op2 .lshl (.op1 .i2l (scT 4)) (.int 32)) (.op2 .land (.op1 .i2l (scT 5)) (.long 4294967295)))).2 (rset [(60064, (sd (pXs L xs) ρ (scT 1)).1)] ρ)) ρ := rsl_agr (by decide) ag0
      have av : vok (pXs L xs) (rsl 60065 (sd (pXs L xs) ρ (.op2 .lor (.op2 .lshl (.op1 .i2l (scT 4)) (.int 32)) (.op2 .land (.op1 .i2l (scT 5)) (.long 4294967295)))).2 (rset [(60064, (sd (pXs L xs) ρ (scT 1)).1)] ρ)) := rsl_vok rfl av0
      refine lgood (C := wideC c_frm0_8) (t := 40 * (ρ.1 59744).toInt) (tq := 40 * (ρ.1 59744).toInt) (vt := [.arg 59808]) (FZ := fZ_w2_0) (nB := 300) (nC := 300) (SREL_w1 sT_frm0_8 wk_c_frm0_8) rfl (by decide +kernel) (hQ_I rfl rfl (by decide +kernel) kp_c_frm0_8) rfl rfl rfl (by decide +kernel) rfl rfl rfl (by decide +kernel) ⟨200, rfl⟩ rfl (fun w z => ⟨[], fM_w2_0, fun _ _ _ f hf => (by cases hf), kb_w2_0, kc_w2_0⟩) hL hB hi IH hF.1 (fall_S (L := ((0, scT 2, .int 0), true) :: ((2, .int 8, scT 3), false) :: ((2, scT 3, .int 0), false) :: ((2, .int 2047, scT 1), false) :: ((2, scT 1, .int 0), false) :: Fk 2) (by decide +kernel) g.2) (by omega) ag (rsl_kok (rset_kok hK)) ⟨av, fcn (decide_eq_false r0) (fcn (decide_eq_false r1) ((fun f hf => by cases hf)))⟩ (fun c hc => by cases hc) (PT_ag ag hp) ?_ ?_
      · show [Value.ref 0, Value.int _, Value.int _, Value.int (8), Value.long _] = [Value.ref 0, sv (pXs L xs) ρ (scT 1), Value.int 0, sv (pXs L xs) ρ (scT 3), sv (pXs L xs) ρ (.op2 .lor (.op2 .lshl (.op1 .i2l (scT 4)) (.int 32)) (.op2 .land (.op1 .i2l (scT 5)) (.long 4294967295)))]
        rw [sv_int (t := scT 1) rfl, sv_int (t := scT 3) rfl, show (sd (pXs L xs) ρ (scT 3)).1 = 8 from v, sv_long (t := .op2 .lor (.op2 .lshl (.op1 .i2l (scT 4)) (.int 32)) (.op2 .land (.op1 .i2l (scT 5)) (.long 4294967295))) rfl]
        rfl
      · show [Value.ref 219, Value.int _, Value.int _, Value.int (8), Value.long _] = [Value.ref 219, sv (pXs L xs) ρ (scT 1), Value.int 0, sv (pXs L xs) ρ (scT 3), sv (pXs L xs) ρ (.op2 .lor (.op2 .lshl (.op1 .i2l (scT 4)) (.int 32)) (.op2 .land (.op1 .i2l (scT 5)) (.long 4294967295)))]
        rw [sv_int (t := scT 1) rfl, sv_int (t := scT 3) rfl, show (sd (pXs L xs) ρ (scT 3)).1 = 8 from v, sv_long (t := .op2 .lor (.op2 .lshl (.op1 .i2l (scT 4)) (.int 32)) (.op2 .land (.op1 .i2l (scT 5)) (.long 4294967295))) rfl]
        rfl
  · have g : fok (pXs L xs) ρ (((0, scT 2, .int 0), false) :: ((2, .int 8, scT 3), false) :: ((2, scT 3, .int 0), false) :: ((2, .int 2047, scT 1), false) :: ((2, scT 1, .int 0), false) :: Fk 2) := ⟨hF.1, fcn (decide_eq_false hb) (fcn (decide_eq_false r3) (fcn (decide_eq_false r2) (fcn (decide_eq_false r1) (fcn (decide_eq_false r0) (hF.2)))))⟩
    refine crow_ok hK g ka_w2_1 ?_
    rcases (show ((sd (pXs L xs) ρ (scT 3)).1).toInt = 0 ∨ ((sd (pXs L xs) ρ (scT 3)).1).toInt = 1 ∨ ((sd (pXs L xs) ρ (scT 3)).1).toInt = 2 ∨ ((sd (pXs L xs) ρ (scT 3)).1).toInt = 3 ∨ ((sd (pXs L xs) ρ (scT 3)).1).toInt = 4 ∨ ((sd (pXs L xs) ρ (scT 3)).1).toInt = 5 ∨ ((sd (pXs L xs) ρ (scT 3)).1).toInt = 6 ∨ ((sd (pXs L xs) ρ (scT 3)).1).toInt = 7 ∨ ((sd (pXs L xs) ρ (scT 3)).1).toInt = 8 by omega) with w | w | w | w | w | w | w | w | w
    · have v : (sd (pXs L xs) ρ (scT 3)).1 = 0 := Int32.toInt_inj.mp (by rw [w]; rfl)
      have ag0 : agr 59000 (rset [(60064, (sd (pXs L xs) ρ (scT 1)).1)] ρ) ρ := rset_agr (fun p hp => by
        simp only [List.mem_cons, List.not_mem_nil, or_false] at hp
        rcases hp with rfl
        · show 59000 ≤ 60064; decide)
      have av0 : vok (pXs L xs) (rset [(60064, (sd (pXs L xs) ρ (scT 1)).1)] ρ) := rset_vok (fun p hp r hr => by
        simp only [List.mem_cons, List.not_mem_nil, or_false] at hp
        rcases hp with rfl
        · rw [show vrng 60064 = none from rfl] at hr; cases hr) (fun p hp => by
        simp only [List.mem_cons, List.not_mem_nil, or_false] at hp
        rcases hp with rfl
        · show (60064 : Nat) % 2 = 0; decide) hF.1
      have ag : agr 59000 (rsl 60065 (sd (pXs L xs) ρ (.op2 .lor (.op2 .lshl (.op1 .i2l (scT 4)) (.int 32)) (.op2 .land (.op1 .i2l (scT 5)) (.long 4294967295)))).2 (rset [(60064, (sd (pXs L xs) ρ (scT 1)).1)] ρ)) ρ := rsl_agr (by decide) ag0
      have av : vok (pXs L xs) (rsl 60065 (sd (pXs L xs) ρ (.op2 .lor (.op2 .lshl (.op1 .i2l (scT 4)) (.int 32)) (.op2 .land (.op1 .i2l (scT 5)) (.long 4294967295)))).2 (rset [(60064, (sd (pXs L xs) ρ (scT 1)).1)] ρ)) := rsl_vok rfl av0
      refine lgood (C := wideC c_frm1_0) (t := 40 * (ρ.1 59744).toInt) (tq := 40 * (ρ.1 59744).toInt) (vt := [.arg 59808]) (FZ := fZ_w2_1) (nB := 300) (nC := 300) (SREL_w1 sT_frm1_0 wk_c_frm1_0) rfl (by decide +kernel) (hQ_I rfl rfl (by decide +kernel) kp_c_frm1_0) rfl rfl rfl (by decide +kernel) rfl rfl rfl (by decide +kernel) ⟨200, rfl⟩ rfl (fun w z => ⟨[], fM_w2_1, fun _ _ _ f hf => (by cases hf), kb_w2_1, kc_w2_1⟩) hL hB hi IH hF.1 (fall_S (L := ((0, scT 2, .int 0), false) :: ((2, .int 8, scT 3), false) :: ((2, scT 3, .int 0), false) :: ((2, .int 2047, scT 1), false) :: ((2, scT 1, .int 0), false) :: Fk 2) (by decide +kernel) g.2) (by omega) ag (rsl_kok (rset_kok hK)) ⟨av, fcn (decide_eq_false r0) (fcn (decide_eq_false r1) ((fun f hf => by cases hf)))⟩ (fun c hc => by cases hc) (PT_ag ag hp) ?_ ?_
      · show [Value.ref 0, Value.int _, Value.int _, Value.int (0), Value.long _] = [Value.ref 0, sv (pXs L xs) ρ (scT 1), Value.int 1, sv (pXs L xs) ρ (scT 3), sv (pXs L xs) ρ (.op2 .lor (.op2 .lshl (.op1 .i2l (scT 4)) (.int 32)) (.op2 .land (.op1 .i2l (scT 5)) (.long 4294967295)))]
        rw [sv_int (t := scT 1) rfl, sv_int (t := scT 3) rfl, show (sd (pXs L xs) ρ (scT 3)).1 = 0 from v, sv_long (t := .op2 .lor (.op2 .lshl (.op1 .i2l (scT 4)) (.int 32)) (.op2 .land (.op1 .i2l (scT 5)) (.long 4294967295))) rfl]
        rfl
      · show [Value.ref 219, Value.int _, Value.int _, Value.int (0), Value.long _] = [Value.ref 219, sv (pXs L xs) ρ (scT 1), Value.int 1, sv (pXs L xs) ρ (scT 3), sv (pXs L xs) ρ (.op2 .lor (.op2 .lshl (.op1 .i2l (scT 4)) (.int 32)) (.op2 .land (.op1 .i2l (scT 5)) (.long 4294967295)))]
        rw [sv_int (t := scT 1) rfl, sv_int (t := scT 3) rfl, show (sd (pXs L xs) ρ (scT 3)).1 = 0 from v, sv_long (t := .op2 .lor (.op2 .lshl (.op1 .i2l (scT 4)) (.int 32)) (.op2 .land (.op1 .i2l (scT 5)) (.long 4294967295))) rfl]
        rfl
    · have v : (sd (pXs L xs) ρ (scT 3)).1 = 1 := Int32.toInt_inj.mp (by rw [w]; rfl)
      have ag0 : agr 59000 (rset [(60064, (sd (pXs L xs) ρ (scT 1)).1)] ρ) ρ := rset_agr (fun p hp => by
        simp only [List.mem_cons, List.not_mem_nil, or_false] at hp
        rcases hp with rfl
        · show 59000 ≤ 60064; decide)
      have av0 : vok (pXs L xs) (rset [(60064, (sd (pXs L xs) ρ (scT 1)).1)] ρ) := rset_vok (fun p hp r hr => by
        simp only [List.mem_cons, List.not_mem_nil, or_false] at hp
        rcases hp with rfl
        · rw [show vrng 60064 = none from rfl] at hr; cases hr) (fun p hp => by
        simp only [List.mem_cons, List.not_mem_nil, or_false] at hp
        rcases hp with rfl
        · show (60064 : Nat) % 2 = 0; decide) hF.1
      have ag : agr 59000 (rsl 60065 (sd (pXs L xs) ρ (.op2 .lor (.op2 .lshl (.op1 .i2l (scT 4)) (.int 32)) (.op2 .land (.op1 .i2l (scT 5)) (.long 4294967295)))).2 (rset [(60064, (sd (pXs L xs) ρ (scT 1)).1)] ρ)) ρ := rsl_agr (by decide) ag0
      have av : vok (pXs L xs) (rsl 60065 (sd (pXs L xs) ρ (.op2 .lor (.op2 .lshl (.op1 .i2l (scT 4)) (.int 32)) (.op2 .land (.op1 .i2l (scT 5)) (.long 4294967295)))).2 (rset [(60064, (sd (pXs L xs) ρ (scT 1)).1)] ρ)) := rsl_vok rfl av0
      refine lgood (C := wideC c_frm1_1) (t := 40 * (ρ.1 59744).toInt) (tq := 40 * (ρ.1 59744).toInt) (vt := [.arg 59808]) (FZ := fZ_w2_1) (nB := 300) (nC := 300) (SREL_w1 sT_frm1_1 wk_c_frm1_1) rfl (by decide +kernel) (hQ_I rfl rfl (by decide +kernel) kp_c_frm1_1) rfl rfl rfl (by decide +kernel) rfl rfl rfl (by decide +kernel) ⟨200, rfl⟩ rfl (fun w z => ⟨[], fM_w2_1, fun _ _ _ f hf => (by cases hf), kb_w2_1, kc_w2_1⟩) hL hB hi IH hF.1 (fall_S (L := ((0, scT 2, .int 0), false) :: ((2, .int 8, scT 3), false) :: ((2, scT 3, .int 0), false) :: ((2, .int 2047, scT 1), false) :: ((2, scT 1, .int 0), false) :: Fk 2) (by decide +kernel) g.2) (by omega) ag (rsl_kok (rset_kok hK)) ⟨av, fcn (decide_eq_false r0) (fcn (decide_eq_false r1) ((fun f hf => by cases hf)))⟩ (fun c hc => by cases hc) (PT_ag ag hp) ?_ ?_
      · show [Value.ref 0, Value.int _, Value.int _, Value.int (1), Value.long _] = [Value.ref 0, sv (pXs L xs) ρ (scT 1), Value.int 1, sv (pXs L xs) ρ (scT 3), sv (pXs L xs) ρ (.op2 .lor (.op2 .lshl (.op1 .i2l (scT 4)) (.int 32)) (.op2 .land (.op1 .i2l (scT 5)) (.long 4294967295)))]
        rw [sv_int (t := scT 1) rfl, sv_int (t := scT 3) rfl, show (sd (pXs L xs) ρ (scT 3)).1 = 1 from v, sv_long (t := .op2 .lor (.op2 .lshl (.op1 .i2l (scT 4)) (.int 32)) (.op2 .land (.op1 .i2l (scT 5)) (.long 4294967295))) rfl]
        rfl
      · show [Value.ref 219, Value.int _, Value.int _, Value.int (1), Value.long _] = [Value.ref 219, sv (pXs L xs) ρ (scT 1), Value.int 1, sv (pXs L xs) ρ (scT 3), sv (pXs L xs) ρ (.op2 .lor (.op2 .lshl (.op1 .i2l (scT 4)) (.int 32)) (.op2 .land (.op1 .i2l (scT 5)) (.long 4294967295)))]
        rw [sv_int (t := scT 1) rfl, sv_int (t := scT 3) rfl, show (sd (pXs L xs) ρ (scT 3)).1 = 1 from v, sv_long (t := .op2 .lor (.op2 .lshl (.op1 .i2l (scT 4)) (.int 32)) (.op2 .land (.op1 .i2l (scT 5)) (.long 4294967295))) rfl]
        rfl
    · have v : (sd (pXs L xs) ρ (scT 3)).1 = 2 := Int32.toInt_inj.mp (by rw [w]; rfl)
      have ag0 : agr 59000 (rset [(60064, (sd (pXs L xs) ρ (scT 1)).1)] ρ) ρ := rset_agr (fun p hp => by
        simp only [List.mem_cons, List.not_mem_nil, or_false] at hp
        rcases hp with rfl
        · show 59000 ≤ 60064; decide)
      have av0 : vok (pXs L xs) (rset [(60064, (sd (pXs L xs) ρ (scT 1)).1)] ρ) := rset_vok (fun p hp r hr => by
        simp only [List.mem_cons, List.not_mem_nil, or_false] at hp
        rcases hp with rfl
        · rw [show vrng 60064 = none from rfl] at hr; cases hr) (fun p hp => by
        simp only [List.mem_cons, List.not_mem_nil, or_false] at hp
        rcases hp with rfl
        · show (60064 : Nat) % 2 = 0; decide) hF.1
      have ag : agr 59000 (rsl 60065 (sd (pXs L xs) ρ (.op2 .lor (.op2 .lshl (.op1 .i2l (scT 4)) (.int 32)) (.op2 .land (.op1 .i2l (scT 5)) (.long 4294967295)))).2 (rset [(60064, (sd (pXs L xs) ρ (scT 1)).1)] ρ)) ρ := rsl_agr (by decide) ag0
      have av : vok (pXs L xs) (rsl 60065 (sd (pXs L xs) ρ (.op2 .lor (.op2 .lshl (.op1 .i2l (scT 4)) (.int 32)) (.op2 .land (.op1 .i2l (scT 5)) (.long 4294967295)))).2 (rset [(60064, (sd (pXs L xs) ρ (scT 1)).1)] ρ)) := rsl_vok rfl av0
      refine lgood (C := wideC c_frm1_2) (t := 40 * (ρ.1 59744).toInt) (tq := 40 * (ρ.1 59744).toInt) (vt := [.arg 59808]) (FZ := fZ_w2_1) (nB := 300) (nC := 300) (SREL_w1 sT_frm1_2 wk_c_frm1_2) rfl (by decide +kernel) (hQ_I rfl rfl (by decide +kernel) kp_c_frm1_2) rfl rfl rfl (by decide +kernel) rfl rfl rfl (by decide +kernel) ⟨200, rfl⟩ rfl (fun w z => ⟨[], fM_w2_1, fun _ _ _ f hf => (by cases hf), kb_w2_1, kc_w2_1⟩) hL hB hi IH hF.1 (fall_S (L := ((0, scT 2, .int 0), false) :: ((2, .int 8, scT 3), false) :: ((2, scT 3, .int 0), false) :: ((2, .int 2047, scT 1), false) :: ((2, scT 1, .int 0), false) :: Fk 2) (by decide +kernel) g.2) (by omega) ag (rsl_kok (rset_kok hK)) ⟨av, fcn (decide_eq_false r0) (fcn (decide_eq_false r1) ((fun f hf => by cases hf)))⟩ (fun c hc => by cases hc) (PT_ag ag hp) ?_ ?_
      · show [Value.ref 0, Value.int _, Value.int _, Value.int (2), Value.long _] = [Value.ref 0, sv (pXs L xs) ρ (scT 1), Value.int 1, sv (pXs L xs) ρ (scT 3), sv (pXs L xs) ρ (.op2 .lor (.op2 .lshl (.op1 .i2l (scT 4)) (.int 32)) (.op2 .land (.op1 .i2l (scT 5)) (.long 4294967295)))]
        rw [sv_int (t := scT 1) rfl, sv_int (t := scT 3) rfl, show (sd (pXs L xs) ρ (scT 3)).1 = 2 from v, sv_long (t := .op2 .lor (.op2 .lshl (.op1 .i2l (scT 4)) (.int 32)) (.op2 .land (.op1 .i2l (scT 5)) (.long 4294967295))) rfl]
        rfl
      · show [Value.ref 219, Value.int _, Value.int _, Value.int (2), Value.long _] = [Value.ref 219, sv (pXs L xs) ρ (scT 1), Value.int 1, sv (pXs L xs) ρ (scT 3), sv (pXs L xs) ρ (.op2 .lor (.op2 .lshl (.op1 .i2l (scT 4)) (.int 32)) (.op2 .land (.op1 .i2l (scT 5)) (.long 4294967295)))]
        rw [sv_int (t := scT 1) rfl, sv_int (t := scT 3) rfl, show (sd (pXs L xs) ρ (scT 3)).1 = 2 from v, sv_long (t := .op2 .lor (.op2 .lshl (.op1 .i2l (scT 4)) (.int 32)) (.op2 .land (.op1 .i2l (scT 5)) (.long 4294967295))) rfl]
        rfl
    · have v : (sd (pXs L xs) ρ (scT 3)).1 = 3 := Int32.toInt_inj.mp (by rw [w]; rfl)
      have ag0 : agr 59000 (rset [(60064, (sd (pXs L xs) ρ (scT 1)).1)] ρ) ρ := rset_agr (fun p hp => by
        simp only [List.mem_cons, List.not_mem_nil, or_false] at hp
        rcases hp with rfl
        · show 59000 ≤ 60064; decide)
      have av0 : vok (pXs L xs) (rset [(60064, (sd (pXs L xs) ρ (scT 1)).1)] ρ) := rset_vok (fun p hp r hr => by
        simp only [List.mem_cons, List.not_mem_nil, or_false] at hp
        rcases hp with rfl
        · rw [show vrng 60064 = none from rfl] at hr; cases hr) (fun p hp => by
        simp only [List.mem_cons, List.not_mem_nil, or_false] at hp
        rcases hp with rfl
        · show (60064 : Nat) % 2 = 0; decide) hF.1
      have ag : agr 59000 (rsl 60065 (sd (pXs L xs) ρ (.op2 .lor (.op2 .lshl (.op1 .i2l (scT 4)) (.int 32)) (.op2 .land (.op1 .i2l (scT 5)) (.long 4294967295)))).2 (rset [(60064, (sd (pXs L xs) ρ (scT 1)).1)] ρ)) ρ := rsl_agr (by decide) ag0
      have av : vok (pXs L xs) (rsl 60065 (sd (pXs L xs) ρ (.op2 .lor (.op2 .lshl (.op1 .i2l (scT 4)) (.int 32)) (.op2 .land (.op1 .i2l (scT 5)) (.long 4294967295)))).2 (rset [(60064, (sd (pXs L xs) ρ (scT 1)).1)] ρ)) := rsl_vok rfl av0
      refine lgood (C := wideC c_frm1_3) (t := 40 * (ρ.1 59744).toInt) (tq := 40 * (ρ.1 59744).toInt) (vt := [.arg 59808]) (FZ := fZ_w2_1) (nB := 300) (nC := 300) (SREL_w1 sT_frm1_3 wk_c_frm1_3) rfl (by decide +kernel) (hQ_I rfl rfl (by decide +kernel) kp_c_frm1_3) rfl rfl rfl (by decide +kernel) rfl rfl rfl (by decide +kernel) ⟨200, rfl⟩ rfl (fun w z => ⟨[], fM_w2_1, fun _ _ _ f hf => (by cases hf), kb_w2_1, kc_w2_1⟩) hL hB hi IH hF.1 (fall_S (L := ((0, scT 2, .int 0), false) :: ((2, .int 8, scT 3), false) :: ((2, scT 3, .int 0), false) :: ((2, .int 2047, scT 1), false) :: ((2, scT 1, .int 0), false) :: Fk 2) (by decide +kernel) g.2) (by omega) ag (rsl_kok (rset_kok hK)) ⟨av, fcn (decide_eq_false r0) (fcn (decide_eq_false r1) ((fun f hf => by cases hf)))⟩ (fun c hc => by cases hc) (PT_ag ag hp) ?_ ?_
      · show [Value.ref 0, Value.int _, Value.int _, Value.int (3), Value.long _] = [Value.ref 0, sv (pXs L xs) ρ (scT 1), Value.int 1, sv (pXs L xs) ρ (scT 3), sv (pXs L xs) ρ (.op2 .lor (.op2 .lshl (.op1 .i2l (scT 4)) (.int 32)) (.op2 .land (.op1 .i2l (scT 5)) (.long 4294967295)))]
        rw [sv_int (t := scT 1) rfl, sv_int (t := scT 3) rfl, show (sd (pXs L xs) ρ (scT 3)).1 = 3 from v, sv_long (t := .op2 .lor (.op2 .lshl (.op1 .i2l (scT 4)) (.int 32)) (.op2 .land (.op1 .i2l (scT 5)) (.long 4294967295))) rfl]
        rfl
      · show [Value.ref 219, Value.int _, Value.int _, Value.int (3), Value.long _] = [Value.ref 219, sv (pXs L xs) ρ (scT 1), Value.int 1, sv (pXs L xs) ρ (scT 3), sv (pXs L xs) ρ (.op2 .lor (.op2 .lshl (.op1 .i2l (scT 4)) (.int 32)) (.op2 .land (.op1 .i2l (scT 5)) (.long 4294967295)))]
        rw [sv_int (t := scT 1) rfl, sv_int (t := scT 3) rfl, show (sd (pXs L xs) ρ (scT 3)).1 = 3 from v, sv_long (t := .op2 .lor (.op2 .lshl (.op1 .i2l (scT 4)) (.int 32)) (.op2 .land (.op1 .i2l (scT 5)) (.long 4294967295))) rfl]
        rfl
    · have v : (sd (pXs L xs) ρ (scT 3)).1 = 4 := Int32.toInt_inj.mp (by rw [w]; rfl)
      have ag0 : agr 59000 (rset [(60064, (sd (pXs L xs) ρ (scT 1)).1)] ρ) ρ := rset_agr (fun p hp => by
        simp only [List.mem_cons, List.not_mem_nil, or_false] at hp
        rcases hp with rfl
        · show 59000 ≤ 60064; decide)
      have av0 : vok (pXs L xs) (rset [(60064, (sd (pXs L xs) ρ (scT 1)).1)] ρ) := rset_vok (fun p hp r hr => by
        simp only [List.mem_cons, List.not_mem_nil, or_false] at hp
        rcases hp with rfl
        · rw [show vrng 60064 = none from rfl] at hr; cases hr) (fun p hp => by
        simp only [List.mem_cons, List.not_mem_nil, or_false] at hp
        rcases hp with rfl
        · show (60064 : Nat) % 2 = 0; decide) hF.1
      have ag : agr 59000 (rsl 60065 (sd (pXs L xs) ρ (.op2 .lor (.op2 .lshl (.op1 .i2l (scT 4)) (.int 32)) (.op2 .land (.op1 .i2l (scT 5)) (.long 4294967295)))).2 (rset [(60064, (sd (pXs L xs) ρ (scT 1)).1)] ρ)) ρ := rsl_agr (by decide) ag0
      have av : vok (pXs L xs) (rsl 60065 (sd (pXs L xs) ρ (.op2 .lor (.op2 .lshl (.op1 .i2l (scT 4)) (.int 32)) (.op2 .land (.op1 .i2l (scT 5)) (.long 4294967295)))).2 (rset [(60064, (sd (pXs L xs) ρ (scT 1)).1)] ρ)) := rsl_vok rfl av0
      refine lgood (C := wideC c_frm1_4) (t := 40 * (ρ.1 59744).toInt) (tq := 40 * (ρ.1 59744).toInt) (vt := [.arg 59808]) (FZ := fZ_w2_1) (nB := 300) (nC := 300) (SREL_w1 sT_frm1_4 wk_c_frm1_4) rfl (by decide +kernel) (hQ_I rfl rfl (by decide +kernel) kp_c_frm1_4) rfl rfl rfl (by decide +kernel) rfl rfl rfl (by decide +kernel) ⟨200, rfl⟩ rfl (fun w z => ⟨[], fM_w2_1, fun _ _ _ f hf => (by cases hf), kb_w2_1, kc_w2_1⟩) hL hB hi IH hF.1 (fall_S (L := ((0, scT 2, .int 0), false) :: ((2, .int 8, scT 3), false) :: ((2, scT 3, .int 0), false) :: ((2, .int 2047, scT 1), false) :: ((2, scT 1, .int 0), false) :: Fk 2) (by decide +kernel) g.2) (by omega) ag (rsl_kok (rset_kok hK)) ⟨av, fcn (decide_eq_false r0) (fcn (decide_eq_false r1) ((fun f hf => by cases hf)))⟩ (fun c hc => by cases hc) (PT_ag ag hp) ?_ ?_
      · show [Value.ref 0, Value.int _, Value.int _, Value.int (4), Value.long _] = [Value.ref 0, sv (pXs L xs) ρ (scT 1), Value.int 1, sv (pXs L xs) ρ (scT 3), sv (pXs L xs) ρ (.op2 .lor (.op2 .lshl (.op1 .i2l (scT 4)) (.int 32)) (.op2 .land (.op1 .i2l (scT 5)) (.long 4294967295)))]
        rw [sv_int (t := scT 1) rfl, sv_int (t := scT 3) rfl, show (sd (pXs L xs) ρ (scT 3)).1 = 4 from v, sv_long (t := .op2 .lor (.op2 .lshl (.op1 .i2l (scT 4)) (.int 32)) (.op2 .land (.op1 .i2l (scT 5)) (.long 4294967295))) rfl]
        rfl
      · show [Value.ref 219, Value.int _, Value.int _, Value.int (4), Value.long _] = [Value.ref 219, sv (pXs L xs) ρ (scT 1), Value.int 1, sv (pXs L xs) ρ (scT 3), sv (pXs L xs) ρ (.op2 .lor (.op2 .lshl (.op1 .i2l (scT 4)) (.int 32)) (.op2 .land (.op1 .i2l (scT 5)) (.long 4294967295)))]
        rw [sv_int (t := scT 1) rfl, sv_int (t := scT 3) rfl, show (sd (pXs L xs) ρ (scT 3)).1 = 4 from v, sv_long (t := .op2 .lor (.op2 .lshl (.op1 .i2l (scT 4)) (.int 32)) (.op2 .land (.op1 .i2l (scT 5)) (.long 4294967295))) rfl]
        rfl
    · have v : (sd (pXs L xs) ρ (scT 3)).1 = 5 := Int32.toInt_inj.mp (by rw [w]; rfl)
      have ag0 : agr 59000 (rset [(60064, (sd (pXs L xs) ρ (scT 1)).1)] ρ) ρ := rset_agr (fun p hp => by
        simp only [List.mem_cons, List.not_mem_nil, or_false] at hp
        rcases hp with rfl
        · show 59000 ≤ 60064; decide)
      have av0 : vok (pXs L xs) (rset [(60064, (sd (pXs L xs) ρ (scT 1)).1)] ρ) := rset_vok (fun p hp r hr => by
        simp only [List.mem_cons, List.not_mem_nil, or_false] at hp
        rcases hp with rfl
        · rw [show vrng 60064 = none from rfl] at hr; cases hr) (fun p hp => by
        simp only [List.mem_cons, List.not_mem_nil, or_false] at hp
        rcases hp with rfl
        · show (60064 : Nat) % 2 = 0; decide) hF.1
      have ag : agr 59000 (rsl 60065 (sd (pXs L xs) ρ (.op2 .lor (.op2 .lshl (.op1 .i2l (scT 4)) (.int 32)) (.op2 .land (.op1 .i2l (scT 5)) (.long 4294967295)))).2 (rset [(60064, (sd (pXs L xs) ρ (scT 1)).1)] ρ)) ρ := rsl_agr (by decide) ag0
      have av : vok (pXs L xs) (rsl 60065 (sd (pXs L xs) ρ (.op2 .lor (.op2 .lshl (.op1 .i2l (scT 4)) (.int 32)) (.op2 .land (.op1 .i2l (scT 5)) (.long 4294967295)))).2 (rset [(60064, (sd (pXs L xs) ρ (scT 1)).1)] ρ)) := rsl_vok rfl av0
      refine lgood (C := wideC c_frm1_5) (t := 40 * (ρ.1 59744).toInt) (tq := 40 * (ρ.1 59744).toInt) (vt := [.arg 59808]) (FZ := fZ_w2_1) (nB := 300) (nC := 300) (SREL_w1 sT_frm1_5 wk_c_frm1_5) rfl (by decide +kernel) (hQ_I rfl rfl (by decide +kernel) kp_c_frm1_5) rfl rfl rfl (by decide +kernel) rfl rfl rfl (by decide +kernel) ⟨200, rfl⟩ rfl (fun w z => ⟨[], fM_w2_1, fun _ _ _ f hf => (by cases hf), kb_w2_1, kc_w2_1⟩) hL hB hi IH hF.1 (fall_S (L := ((0, scT 2, .int 0), false) :: ((2, .int 8, scT 3), false) :: ((2, scT 3, .int 0), false) :: ((2, .int 2047, scT 1), false) :: ((2, scT 1, .int 0), false) :: Fk 2) (by decide +kernel) g.2) (by omega) ag (rsl_kok (rset_kok hK)) ⟨av, fcn (decide_eq_false r0) (fcn (decide_eq_false r1) ((fun f hf => by cases hf)))⟩ (fun c hc => by cases hc) (PT_ag ag hp) ?_ ?_
      · show [Value.ref 0, Value.int _, Value.int _, Value.int (5), Value.long _] = [Value.ref 0, sv (pXs L xs) ρ (scT 1), Value.int 1, sv (pXs L xs) ρ (scT 3), sv (pXs L xs) ρ (.op2 .lor (.op2 .lshl (.op1 .i2l (scT 4)) (.int 32)) (.op2 .land (.op1 .i2l (scT 5)) (.long 4294967295)))]
        rw [sv_int (t := scT 1) rfl, sv_int (t := scT 3) rfl, show (sd (pXs L xs) ρ (scT 3)).1 = 5 from v, sv_long (t := .op2 .lor (.op2 .lshl (.op1 .i2l (scT 4)) (.int 32)) (.op2 .land (.op1 .i2l (scT 5)) (.long 4294967295))) rfl]
        rfl
      · show [Value.ref 219, Value.int _, Value.int _, Value.int (5), Value.long _] = [Value.ref 219, sv (pXs L xs) ρ (scT 1), Value.int 1, sv (pXs L xs) ρ (scT 3), sv (pXs L xs) ρ (.op2 .lor (.op2 .lshl (.op1 .i2l (scT 4)) (.int 32)) (.op2 .land (.op1 .i2l (scT 5)) (.long 4294967295)))]
        rw [sv_int (t := scT 1) rfl, sv_int (t := scT 3) rfl, show (sd (pXs L xs) ρ (scT 3)).1 = 5 from v, sv_long (t := .op2 .lor (.op2 .lshl (.op1 .i2l (scT 4)) (.int 32)) (.op2 .land (.op1 .i2l (scT 5)) (.long 4294967295))) rfl]
        rfl
    · have v : (sd (pXs L xs) ρ (scT 3)).1 = 6 := Int32.toInt_inj.mp (by rw [w]; rfl)
      have ag0 : agr 59000 (rset [(60064, (sd (pXs L xs) ρ (scT 1)).1)] ρ) ρ := rset_agr (fun p hp => by
        simp only [List.mem_cons, List.not_mem_nil, or_false] at hp
        rcases hp with rfl
        · show 59000 ≤ 60064; decide)
      have av0 : vok (pXs L xs) (rset [(60064, (sd (pXs L xs) ρ (scT 1)).1)] ρ) := rset_vok (fun p hp r hr => by
        simp only [List.mem_cons, List.not_mem_nil, or_false] at hp
        rcases hp with rfl
        · rw [show vrng 60064 = none from rfl] at hr; cases hr) (fun p hp => by
        simp only [List.mem_cons, List.not_mem_nil, or_false] at hp
        rcases hp with rfl
        · show (60064 : Nat) % 2 = 0; decide) hF.1
      have ag : agr 59000 (rsl 60065 (sd (pXs L xs) ρ (.op2 .lor (.op2 .lshl (.op1 .i2l (scT 4)) (.int 32)) (.op2 .land (.op1 .i2l (scT 5)) (.long 4294967295)))).2 (rset [(60064, (sd (pXs L xs) ρ (scT 1)).1)] ρ)) ρ := rsl_agr (by decide) ag0
      have av : vok (pXs L xs) (rsl 60065 (sd (pXs L xs) ρ (.op2 .lor (.op2 .lshl (.op1 .i2l (scT 4)) (.int 32)) (.op2 .land (.op1 .i2l (scT 5)) (.long 4294967295)))).2 (rset [(60064, (sd (pXs L xs) ρ (scT 1)).1)] ρ)) := rsl_vok rfl av0
      refine lgood (C := wideC c_frm1_6) (t := 40 * (ρ.1 59744).toInt) (tq := 40 * (ρ.1 59744).toInt) (vt := [.arg 59808]) (FZ := fZ_w2_1) (nB := 300) (nC := 300) (SREL_w1 sT_frm1_6 wk_c_frm1_6) rfl (by decide +kernel) (hQ_I rfl rfl (by decide +kernel) kp_c_frm1_6) rfl rfl rfl (by decide +kernel) rfl rfl rfl (by decide +kernel) ⟨200, rfl⟩ rfl (fun w z => ⟨[], fM_w2_1, fun _ _ _ f hf => (by cases hf), kb_w2_1, kc_w2_1⟩) hL hB hi IH hF.1 (fall_S (L := ((0, scT 2, .int 0), false) :: ((2, .int 8, scT 3), false) :: ((2, scT 3, .int 0), false) :: ((2, .int 2047, scT 1), false) :: ((2, scT 1, .int 0), false) :: Fk 2) (by decide +kernel) g.2) (by omega) ag (rsl_kok (rset_kok hK)) ⟨av, fcn (decide_eq_false r0) (fcn (decide_eq_false r1) ((fun f hf => by cases hf)))⟩ (fun c hc => by cases hc) (PT_ag ag hp) ?_ ?_
      · show [Value.ref 0, Value.int _, Value.int _, Value.int (6), Value.long _] = [Value.ref 0, sv (pXs L xs) ρ (scT 1), Value.int 1, sv (pXs L xs) ρ (scT 3), sv (pXs L xs) ρ (.op2 .lor (.op2 .lshl (.op1 .i2l (scT 4)) (.int 32)) (.op2 .land (.op1 .i2l (scT 5)) (.long 4294967295)))]
        rw [sv_int (t := scT 1) rfl, sv_int (t := scT 3) rfl, show (sd (pXs L xs) ρ (scT 3)).1 = 6 from v, sv_long (t := .op2 .lor (.op2 .lshl (.op1 .i2l (scT 4)) (.int 32)) (.op2 .land (.op1 .i2l (scT 5)) (.long 4294967295))) rfl]
        rfl
      · show [Value.ref 219, Value.int _, Value.int _, Value.int (6), Value.long _] = [Value.ref 219, sv (pXs L xs) ρ (scT 1), Value.int 1, sv (pXs L xs) ρ (scT 3), sv (pXs L xs) ρ (.op2 .lor (.op2 .lshl (.op1 .i2l (scT 4)) (.int 32)) (.op2 .land (.op1 .i2l (scT 5)) (.long 4294967295)))]
        rw [sv_int (t := scT 1) rfl, sv_int (t := scT 3) rfl, show (sd (pXs L xs) ρ (scT 3)).1 = 6 from v, sv_long (t := .op2 .lor (.op2 .lshl (.op1 .i2l (scT 4)) (.int 32)) (.op2 .land (.op1 .i2l (scT 5)) (.long 4294967295))) rfl]
        rfl
    · have v : (sd (pXs L xs) ρ (scT 3)).1 = 7 := Int32.toInt_inj.mp (by rw [w]; rfl)
      have ag0 : agr 59000 (rset [(60064, (sd (pXs L xs) ρ (scT 1)).1)] ρ) ρ := rset_agr (fun p hp => by
        simp only [List.mem_cons, List.not_mem_nil, or_false] at hp
        rcases hp with rfl
        · show 59000 ≤ 60064; decide)
      have av0 : vok (pXs L xs) (rset [(60064, (sd (pXs L xs) ρ (scT 1)).1)] ρ) := rset_vok (fun p hp r hr => by
        simp only [List.mem_cons, List.not_mem_nil, or_false] at hp
        rcases hp with rfl
        · rw [show vrng 60064 = none from rfl] at hr; cases hr) (fun p hp => by
        simp only [List.mem_cons, List.not_mem_nil, or_false] at hp
        rcases hp with rfl
        · show (60064 : Nat) % 2 = 0; decide) hF.1
      have ag : agr 59000 (rsl 60065 (sd (pXs L xs) ρ (.op2 .lor (.op2 .lshl (.op1 .i2l (scT 4)) (.int 32)) (.op2 .land (.op1 .i2l (scT 5)) (.long 4294967295)))).2 (rset [(60064, (sd (pXs L xs) ρ (scT 1)).1)] ρ)) ρ := rsl_agr (by decide) ag0
      have av : vok (pXs L xs) (rsl 60065 (sd (pXs L xs) ρ (.op2 .lor (.op2 .lshl (.op1 .i2l (scT 4)) (.int 32)) (.op2 .land (.op1 .i2l (scT 5)) (.long 4294967295)))).2 (rset [(60064, (sd (pXs L xs) ρ (scT 1)).1)] ρ)) := rsl_vok rfl av0
      refine lgood (C := wideC c_frm1_7) (t := 40 * (ρ.1 59744).toInt) (tq := 40 * (ρ.1 59744).toInt) (vt := [.arg 59808]) (FZ := fZ_w2_1) (nB := 300) (nC := 300) (SREL_w1 sT_frm1_7 wk_c_frm1_7) rfl (by decide +kernel) (hQ_I rfl rfl (by decide +kernel) kp_c_frm1_7) rfl rfl rfl (by decide +kernel) rfl rfl rfl (by decide +kernel) ⟨200, rfl⟩ rfl (fun w z => ⟨[], fM_w2_1, fun _ _ _ f hf => (by cases hf), kb_w2_1, kc_w2_1⟩) hL hB hi IH hF.1 (fall_S (L := ((0, scT 2, .int 0), false) :: ((2, .int 8, scT 3), false) :: ((2, scT 3, .int 0), false) :: ((2, .int 2047, scT 1), false) :: ((2, scT 1, .int 0), false) :: Fk 2) (by decide +kernel) g.2) (by omega) ag (rsl_kok (rset_kok hK)) ⟨av, fcn (decide_eq_false r0) (fcn (decide_eq_false r1) ((fun f hf => by cases hf)))⟩ (fun c hc => by cases hc) (PT_ag ag hp) ?_ ?_
      · show [Value.ref 0, Value.int _, Value.int _, Value.int (7), Value.long _] = [Value.ref 0, sv (pXs L xs) ρ (scT 1), Value.int 1, sv (pXs L xs) ρ (scT 3), sv (pXs L xs) ρ (.op2 .lor (.op2 .lshl (.op1 .i2l (scT 4)) (.int 32)) (.op2 .land (.op1 .i2l (scT 5)) (.long 4294967295)))]
        rw [sv_int (t := scT 1) rfl, sv_int (t := scT 3) rfl, show (sd (pXs L xs) ρ (scT 3)).1 = 7 from v, sv_long (t := .op2 .lor (.op2 .lshl (.op1 .i2l (scT 4)) (.int 32)) (.op2 .land (.op1 .i2l (scT 5)) (.long 4294967295))) rfl]
        rfl
      · show [Value.ref 219, Value.int _, Value.int _, Value.int (7), Value.long _] = [Value.ref 219, sv (pXs L xs) ρ (scT 1), Value.int 1, sv (pXs L xs) ρ (scT 3), sv (pXs L xs) ρ (.op2 .lor (.op2 .lshl (.op1 .i2l (scT 4)) (.int 32)) (.op2 .land (.op1 .i2l (scT 5)) (.long 4294967295)))]
        rw [sv_int (t := scT 1) rfl, sv_int (t := scT 3) rfl, show (sd (pXs L xs) ρ (scT 3)).1 = 7 from v, sv_long (t := .op2 .lor (.op2 .lshl (.op1 .i2l (scT 4)) (.int 32)) (.op2 .land (.op1 .i2l (scT 5)) (.long 4294967295))) rfl]
        rfl
    · have v : (sd (pXs L xs) ρ (scT 3)).1 = 8 := Int32.toInt_inj.mp (by rw [w]; rfl)
      have ag0 : agr 59000 (rset [(60064, (sd (pXs L xs) ρ (scT 1)).1)] ρ) ρ := rset_agr (fun p hp => by
        simp only [List.mem_cons, List.not_mem_nil, or_false] at hp
        rcases hp with rfl
        · show 59000 ≤ 60064; decide)
      have av0 : vok (pXs L xs) (rset [(60064, (sd (pXs L xs) ρ (scT 1)).1)] ρ) := rset_vok (fun p hp r hr => by
        simp only [List.mem_cons, List.not_mem_nil, or_false] at hp
        rcases hp with rfl
        · rw [show vrng 60064 = none from rfl] at hr; cases hr) (fun p hp => by
        simp only [List.mem_cons, List.not_mem_nil, or_false] at hp
        rcases hp with rfl
        · show (60064 : Nat) % 2 = 0; decide) hF.1
      have ag : agr 59000 (rsl 60065 (sd (pXs L xs) ρ (.op2 .lor (.op2 .lshl (.op1 .i2l (scT 4)) (.int 32)) (.op2 .land (.op1 .i2l (scT 5)) (.long 4294967295)))).2 (rset [(60064, (sd (pXs L xs) ρ (scT 1)).1)] ρ)) ρ := rsl_agr (by decide) ag0
      have av : vok (pXs L xs) (rsl 60065 (sd (pXs L xs) ρ (.op2 .lor (.op2 .lshl (.op1 .i2l (scT 4)) (.int 32)) (.op2 .land (.op1 .i2l (scT 5)) (.long 4294967295)))).2 (rset [(60064, (sd (pXs L xs) ρ (scT 1)).1)] ρ)) := rsl_vok rfl av0
      refine lgood (C := wideC c_frm1_8) (t := 40 * (ρ.1 59744).toInt) (tq := 40 * (ρ.1 59744).toInt) (vt := [.arg 59808]) (FZ := fZ_w2_1) (nB := 300) (nC := 300) (SREL_w1 sT_frm1_8 wk_c_frm1_8) rfl (by decide +kernel) (hQ_I rfl rfl (by decide +kernel) kp_c_frm1_8) rfl rfl rfl (by decide +kernel) rfl rfl rfl (by decide +kernel) ⟨200, rfl⟩ rfl (fun w z => ⟨[], fM_w2_1, fun _ _ _ f hf => (by cases hf), kb_w2_1, kc_w2_1⟩) hL hB hi IH hF.1 (fall_S (L := ((0, scT 2, .int 0), false) :: ((2, .int 8, scT 3), false) :: ((2, scT 3, .int 0), false) :: ((2, .int 2047, scT 1), false) :: ((2, scT 1, .int 0), false) :: Fk 2) (by decide +kernel) g.2) (by omega) ag (rsl_kok (rset_kok hK)) ⟨av, fcn (decide_eq_false r0) (fcn (decide_eq_false r1) ((fun f hf => by cases hf)))⟩ (fun c hc => by cases hc) (PT_ag ag hp) ?_ ?_
      · show [Value.ref 0, Value.int _, Value.int _, Value.int (8), Value.long _] = [Value.ref 0, sv (pXs L xs) ρ (scT 1), Value.int 1, sv (pXs L xs) ρ (scT 3), sv (pXs L xs) ρ (.op2 .lor (.op2 .lshl (.op1 .i2l (scT 4)) (.int 32)) (.op2 .land (.op1 .i2l (scT 5)) (.long 4294967295)))]
        rw [sv_int (t := scT 1) rfl, sv_int (t := scT 3) rfl, show (sd (pXs L xs) ρ (scT 3)).1 = 8 from v, sv_long (t := .op2 .lor (.op2 .lshl (.op1 .i2l (scT 4)) (.int 32)) (.op2 .land (.op1 .i2l (scT 5)) (.long 4294967295))) rfl]
        rfl
      · show [Value.ref 219, Value.int _, Value.int _, Value.int (8), Value.long _] = [Value.ref 219, sv (pXs L xs) ρ (scT 1), Value.int 1, sv (pXs L xs) ρ (scT 3), sv (pXs L xs) ρ (.op2 .lor (.op2 .lshl (.op1 .i2l (scT 4)) (.int 32)) (.op2 .land (.op1 .i2l (scT 5)) (.long 4294967295)))]
        rw [sv_int (t := scT 1) rfl, sv_int (t := scT 3) rfl, show (sd (pXs L xs) ρ (scT 3)).1 = 8 from v, sv_long (t := .op2 .lor (.op2 .lshl (.op1 .i2l (scT 4)) (.int 32)) (.op2 .land (.op1 .i2l (scT 5)) (.long 4294967295))) rfl]
        rfl
