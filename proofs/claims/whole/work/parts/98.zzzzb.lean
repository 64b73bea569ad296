set_option maxRecDepth 20000
/-! ===== the law: cases by contracts ===== -/
theorem kr_8_0 : lrow 491 600 (((2, scT 1, .int 0), true) :: Fk 8) = true := by decide +kernel
theorem kr_8_1 : lrow 491 600 (((2, .int 3, scT 1), true) :: ((2, scT 1, .int 0), false) :: Fk 8) = true := by decide +kernel
theorem kr_8_2 : lrow 491 600 (((2, scT 2, .int 0), true) :: ((2, .int 3, scT 1), false) :: ((2, scT 1, .int 0), false) :: Fk 8) = true := by decide +kernel
theorem kr_8_3 : lrow 491 600 (((2, .int 8, scT 2), true) :: ((2, scT 2, .int 0), false) :: ((2, .int 3, scT 1), false) :: ((2, scT 1, .int 0), false) :: Fk 8) = true := by decide +kernel
theorem wk_c_state0 : wok c_state0 = true := by decide +kernel
theorem kp_c_state0 {X : pX} {t : Int} : KP X c_state0 t := KP_of (by decide +kernel)
theorem wk_c_state1 : wok c_state1 = true := by decide +kernel
theorem kp_c_state1 {X : pX} {t : Int} : KP X c_state1 t := KP_of (by decide +kernel)
theorem wk_c_state2 : wok c_state2 = true := by decide +kernel
theorem kp_c_state2 {X : pX} {t : Int} : KP X c_state2 t := KP_of (by decide +kernel)
theorem wk_c_state3 : wok c_state3 = true := by decide +kernel
theorem kp_c_state3 {X : pX} {t : Int} : KP X c_state3 t := KP_of (by decide +kernel)
theorem wk_c_state4 : wok c_state4 = true := by decide +kernel
theorem kp_c_state4 {X : pX} {t : Int} : KP X c_state4 t := KP_of (by decide +kernel)
theorem wk_c_state5 : wok c_state5 = true := by decide +kernel
theorem kp_c_state5 {X : pX} {t : Int} : KP X c_state5 t := KP_of (by decide +kernel)
theorem wk_c_state7 : wok c_state7 = true := by decide +kernel
theorem kp_c_state7 {X : pX} {t : Int} : KP X c_state7 t := KP_of (by decide +kernel)
theorem wk_c_state8 : wok c_state8 = true := by decide +kernel
theorem kp_c_state8 {X : pX} {t : Int} : KP X c_state8 t := KP_of (by decide +kernel)
noncomputable def hA_w8 : sF := frH 440 5 [(0, tr 0), (1, scT 1), (2, scT 2), (3, tr 348)] [scT 2, scT 1, tr 0, .int 0, tr 348]
noncomputable def lA_w8 : sF := frL 504 zLv []
noncomputable def sA_w8 : sS := (hA_w8, [lA_w8], 19, zLw, 103275)
theorem ka_w8 : crow 491 400 (((2, .int 8, scT 2), false) :: ((2, scT 2, .int 0), false) :: ((2, .int 3, scT 1), false) :: ((2, scT 1, .int 0), false) :: Fk 8) sA_w8 = true := by decide +kernel
noncomputable def hB_w8 : sF := frH 440 6 [(0, tr 0), (1, scT 1), (2, scT 2), (3, tr 348)] ([.arg 59808] ++ [.int 0, tr 348])
noncomputable def sM_w8 : sS := (frL 516 ((5, .int 0) :: zLv) [scT 2, scT 1, tr 219], [], 20, foot zLw fL8, 0)
noncomputable def fM_w8 : sFs := [((6, .arg 59841, .op1 .i2l (.arg 59808)), true)]
noncomputable def fZ_w8 : sFs := []
theorem kb_w8 : srun ysN pF pdfl mt_all hlp kR (fun F s => sinstX kR F (sgM s) fM_w8 sM_w8 s) 300 ([] ++ (fZ_w8 ++ Fi6)) (hB_w8, [lA_w8], 19, foot zLw fL8, 0) = true := by decide +kernel
theorem kc_w8 : srun ysN pF pdfl mt_all hlp kR sBkP 300 (((0, .arg 19232, .int 0), true) :: (fM_w8 ++ Fi6)) (frL 517 ((5, .int 0) :: zLv) ([.arg 59808] ++ []), [], 20, zLw, 103275) = true := by decide +kernel
theorem zcp_8 {L : Nat} {xs : Nat → Int32} (hL : L ≤ 3073) : ZCP L xs 8 491 := by
  intro ρ hB hi IH hK hF hp
  have b1 := hB.1
  have b2 := hB.2.1
  by_cases r0 : (sd (pXs L xs) ρ (scT 1)).1 < (sd (pXs L xs) ρ (.int 0)).1
  · have g : fok (pXs L xs) ρ (((2, scT 1, .int 0), true) :: Fk 8) := ⟨hF.1, fcn (decide_eq_true r0) (hF.2)⟩
    exact lrow_ok hL hB hi IH hK g hp kr_8_0
  by_cases r1 : (sd (pXs L xs) ρ (.int 3)).1 < (sd (pXs L xs) ρ (scT 1)).1
  · have g : fok (pXs L xs) ρ (((2, .int 3, scT 1), true) :: ((2, scT 1, .int 0), false) :: Fk 8) := ⟨hF.1, fcn (decide_eq_true r1) (fcn (decide_eq_false r0) (hF.2))⟩
    exact lrow_ok hL hB hi IH hK g hp kr_8_1
  by_cases r2 : (sd (pXs L xs) ρ (scT 2)).1 < (sd (pXs L xs) ρ (.int 0)).1
  · have g : fok (pXs L xs) ρ (((2, scT 2, .int 0), true) :: ((2, .int 3, scT 1), false) :: ((2, scT 1, .int 0), false) :: Fk 8) := ⟨hF.1, fcn (decide_eq_true r2) (fcn (decide_eq_false r1) (fcn (decide_eq_false r0) (hF.2)))⟩
    exact lrow_ok hL hB hi IH hK g hp kr_8_2
  by_cases r3 : (sd (pXs L xs) ρ (.int 8)).1 < (sd (pXs L xs) ρ (scT 2)).1
  · have g : fok (pXs L xs) ρ (((2, .int 8, scT 2), true) :: ((2, scT 2, .int 0), false) :: ((2, .int 3, scT 1), false) :: ((2, scT 1, .int 0), false) :: Fk 8) := ⟨hF.1, fcn (decide_eq_true r3) (fcn (decide_eq_false r2) (fcn (decide_eq_false r1) (fcn (decide_eq_false r0) (hF.2))))⟩
    exact lrow_ok hL hB hi IH hK g hp kr_8_3
  have g : fok (pXs L xs) ρ (((2, .int 8, scT 2), false) :: ((2, scT 2, .int 0), false) :: ((2, .int 3, scT 1), false) :: ((2, scT 1, .int 0), false) :: Fk 8) := ⟨hF.1, fcn (decide_eq_false r3) (fcn (decide_eq_false r2) (fcn (decide_eq_false r1) (fcn (decide_eq_false r0) (hF.2))))⟩
  refine crow_ok hK g ka_w8 ?_
  have u1 : (0 : Int) ≤ ((sd (pXs L xs) ρ (scT 1)).1).toInt := ge_i r0
  have u2 : ((sd (pXs L xs) ρ (scT 1)).1).toInt ≤ (3 : Int) := le_i r1
  have w1 : (0 : Int) ≤ ((sd (pXs L xs) ρ (scT 2)).1).toInt := ge_i r2
  have w2 : ((sd (pXs L xs) ρ (scT 2)).1).toInt ≤ (8 : Int) := le_i r3
  rcases (show ((sd (pXs L xs) ρ (scT 2)).1).toInt = 0 ∨ ((sd (pXs L xs) ρ (scT 2)).1).toInt = 1 ∨ ((sd (pXs L xs) ρ (scT 2)).1).toInt = 2 ∨ ((sd (pXs L xs) ρ (scT 2)).1).toInt = 3 ∨ ((sd (pXs L xs) ρ (scT 2)).1).toInt = 4 ∨ ((sd (pXs L xs) ρ (scT 2)).1).toInt = 5 ∨ ((sd (pXs L xs) ρ (scT 2)).1).toInt = 6 ∨ ((sd (pXs L xs) ρ (scT 2)).1).toInt = 7 ∨ ((sd (pXs L xs) ρ (scT 2)).1).toInt = 8 by omega) with w | w | w | w | w | w | w | w | w
  · have v : (sd (pXs L xs) ρ (scT 2)).1 = 0 := Int32.toInt_inj.mp (by rw [w]; rfl)
    have ag0 : agr 59000 (rset [(60028, (sd (pXs L xs) ρ (scT 1)).1)] ρ) ρ := rset_agr (fun p hp => by
      simp only [List.mem_cons, List.not_mem_nil, or_false] at hp
      rcases hp with rfl
      · show 59000 ≤ 60028; decide)
    have av0 : vok (pXs L xs) (rset [(60028, (sd (pXs L xs) ρ (scT 1)).1)] ρ) := rset_vok (fun p hp r hr => by
      simp only [List.mem_cons, List.not_mem_nil, or_false] at hp
      rcases hp with rfl
      · rw [show vrng 60028 = some (0, 3) from rfl] at hr; cases hr; exact ⟨ge_i r0, le_i r1⟩) (fun p hp => by
      simp only [List.mem_cons, List.not_mem_nil, or_false] at hp
      rcases hp with rfl
      · show (60028 : Nat) % 2 = 0; decide) hF.1
    have ag := ag0
    have av := av0
    refine lgood (C := wideC c_state0) (t := 40 * (ρ.1 59744).toInt) (tq := 40 * (ρ.1 59744).toInt) (vt := [.arg 59808]) (FZ := fZ_w8) (nB := 300) (nC := 300) (SREL_w1 sT_state0 wk_c_state0) rfl (by decide +kernel) (hQ_I rfl rfl (by decide +kernel) kp_c_state0) rfl rfl rfl (by decide +kernel) rfl rfl rfl (by decide +kernel) ⟨517, rfl⟩ rfl (fun w z => ⟨[], fM_w8, fun _ _ _ f hf => (by cases hf), kb_w8, kc_w8⟩) hL hB hi IH hF.1 (fun f hf => by cases hf) (by omega) ag (rset_kok hK) ⟨av, (fun f hf => by cases hf)⟩ (iok_TD (by decide +kernel) (PT_ag ag hp).1) (PT_ag ag hp) ?_ ?_
    · show [Value.ref 0, Value.int _, Value.int (0)] = [Value.ref 0, sv (pXs L xs) ρ (scT 1), sv (pXs L xs) ρ (scT 2)]
      rw [sv_int (t := scT 1) rfl, sv_int (t := scT 2) rfl, show (sd (pXs L xs) ρ (scT 2)).1 = 0 from v]
      rfl
    · show [Value.ref 219, Value.int _, Value.int (0)] = [Value.ref 219, sv (pXs L xs) ρ (scT 1), sv (pXs L xs) ρ (scT 2)]
      rw [sv_int (t := scT 1) rfl, sv_int (t := scT 2) rfl, show (sd (pXs L xs) ρ (scT 2)).1 = 0 from v]
      rfl
  · have v : (sd (pXs L xs) ρ (scT 2)).1 = 1 := Int32.toInt_inj.mp (by rw [w]; rfl)
    have ag0 : agr 59000 (rset [(60028, (sd (pXs L xs) ρ (scT 1)).1)] ρ) ρ := rset_agr (fun p hp => by
      simp only [List.mem_cons, List.not_mem_nil, or_false] at hp
      rcases hp with rfl
      · show 59000 ≤ 60028; decide)
    have av0 : vok (pXs L xs) (rset [(60028, (sd (pXs L xs) ρ (scT 1)).1)] ρ) := rset_vok (fun p hp r hr => by
      simp only [List.mem_cons, List.not_mem_nil, or_false] at hp
      rcases hp with rfl
      · rw [show vrng 60028 = some (0, 3) from rfl] at hr; cases hr; exact ⟨ge_i r0, le_i r1⟩) (fun p hp => by
      simp only [List.mem_cons, List.not_mem_nil, or_false] at hp
      rcases hp with rfl
      · show (60028 : Nat) % 2 = 0; decide) hF.1
    have ag := ag0
    have av := av0
    refine lgood (C := wideC c_state1) (t := 40 * (ρ.1 59744).toInt) (tq := 40 * (ρ.1 59744).toInt) (vt := [.arg 59808]) (FZ := fZ_w8) (nB := 300) (nC := 300) (SREL_w1 sT_state1 wk_c_state1) rfl (by decide +kernel) (hQ_I rfl rfl (by decide +kernel) kp_c_state1) rfl rfl rfl (by decide +kernel) rfl rfl rfl (by decide +kernel) ⟨517, rfl⟩ rfl (fun w z => ⟨[], fM_w8, fun _ _ _ f hf => (by cases hf), kb_w8, kc_w8⟩) hL hB hi IH hF.1 (fun f hf => by cases hf) (by omega) ag (rset_kok hK) ⟨av, (fun f hf => by cases hf)⟩ (iok_TD (by decide +kernel) (PT_ag ag hp).1) (PT_ag ag hp) ?_ ?_
    · show [Value.ref 0, Value.int _, Value.int (1)] = [Value.ref 0, sv (pXs L xs) ρ (scT 1), sv (pXs L xs) ρ (scT 2)]
      rw [sv_int (t := scT 1) rfl, sv_int (t := scT 2) rfl, show (sd (pXs L xs) ρ (scT 2)).1 = 1 from v]
      rfl
    · show [Value.ref 219, Value.int _, Value.int (1)] = [Value.ref 219, sv (pXs L xs) ρ (scT 1), sv (pXs L xs) ρ (scT 2)]
      rw [sv_int (t := scT 1) rfl, sv_int (t := scT 2) rfl, show (sd (pXs L xs) ρ (scT 2)).1 = 1 from v]
      rfl
  · have v : (sd (pXs L xs) ρ (scT 2)).1 = 2 := Int32.toInt_inj.mp (by rw [w]; rfl)
    have ag0 : agr 59000 (rset [(60028, (sd (pXs L xs) ρ (scT 1)).1)] ρ) ρ := rset_agr (fun p hp => by
      simp only [List.mem_cons, List.not_mem_nil, or_false] at hp
      rcases hp with rfl
      · show 59000 ≤ 60028; decide)
    have av0 : vok (pXs L xs) (rset [(60028, (sd (pXs L xs) ρ (scT 1)).1)] ρ) := rset_vok (fun p hp r hr => by
      simp only [List.mem_cons, List.not_mem_nil, or_false] at hp
      rcases hp with rfl
      · rw [show vrng 60028 = some (0, 3) from rfl] at hr; cases hr; exact ⟨ge_i r0, le_i r1⟩) (fun p hp => by
      simp only [List.mem_cons, List.not_mem_nil, or_false] at hp
      rcases hp with rfl
      · show (60028 : Nat) % 2 = 0; decide) hF.1
    have ag := ag0
    have av := av0
    refine lgood (C := wideC c_state2) (t := 40 * (ρ.1 59744).toInt) (tq := 40 * (ρ.1 59744).toInt) (vt := [.arg 59808]) (FZ := fZ_w8) (nB := 300) (nC := 300) (SREL_w1 sT_state2 wk_c_state2) rfl (by decide +kernel) (hQ_I rfl rfl (by decide +kernel) kp_c_state2) rfl rfl rfl (by decide +kernel) rfl rfl rfl (by decide +kernel) ⟨517, rfl⟩ rfl (fun w z => ⟨[], fM_w8, fun _ _ _ f hf => (by cases hf), kb_w8, kc_w8⟩) hL hB hi IH hF.1 (fun f hf => by cases hf) (by omega) ag (rset_kok hK) ⟨av, (fun f hf => by cases hf)⟩ (iok_TD (by decide +kernel) (PT_ag ag hp).1) (PT_ag ag hp) ?_ ?_
    · show [Value.ref 0, Value.int _, Value.int (2)] = [Value.ref 0, sv (pXs L xs) ρ (scT 1), sv (pXs L xs) ρ (scT 2)]
      rw [sv_int (t := scT 1) rfl, sv_int (t := scT 2) rfl, show (sd (pXs L xs) ρ (scT 2)).1 = 2 from v]
      rfl
    · show [Value.ref 219, Value.int _, Value.int (2)] = [Value.ref 219, sv (pXs L xs) ρ (scT 1), sv (pXs L xs) ρ (scT 2)]
      rw [sv_int (t := scT 1) rfl, sv_int (t := scT 2) rfl, show (sd (pXs L xs) ρ (scT 2)).1 = 2 from v]
      rfl
  · have v : (sd (pXs L xs) ρ (scT 2)).1 = 3 := Int32.toInt_inj.mp (by rw [w]; rfl)
    have ag0 : agr 59000 (rset [(60028, (sd (pXs L xs) ρ (scT 1)).1)] ρ) ρ := rset_agr (fun p hp => by
      simp only [List.mem_cons, List.not_mem_nil, or_false] at hp
      rcases hp with rfl
      · show 59000 ≤ 60028; decide)
    have av0 : vok (pXs L xs) (rset [(60028, (sd (pXs L xs) ρ (scT 1)).1)] ρ) := rset_vok (fun p hp r hr => by
      simp only [List.mem_cons, List.not_mem_nil, or_false] at hp
      rcases hp with rfl
      · rw [show vrng 60028 = some (0, 3) from rfl] at hr; cases hr; exact ⟨ge_i r0, le_i r1⟩) (fun p hp => by
      simp only [List.mem_cons, List.not_mem_nil, or_false] at hp
      rcases hp with rfl
      · show (60028 : Nat) % 2 = 0; decide) hF.1
    have ag := ag0
    have av := av0
    refine lgood (C := wideC c_state3) (t := 40 * (ρ.1 59744).toInt) (tq := 40 * (ρ.1 59744).toInt) (vt := [.arg 59808]) (FZ := fZ_w8) (nB := 300) (nC := 300) (SREL_w1 sT_state3 wk_c_state3) rfl (by decide +kernel) (hQ_I rfl rfl (by decide +kernel) kp_c_state3) rfl rfl rfl (by decide +kernel) rfl rfl rfl (by decide +kernel) ⟨517, rfl⟩ rfl (fun w z => ⟨[], fM_w8, fun _ _ _ f hf => (by cases hf), kb_w8, kc_w8⟩) hL hB hi IH hF.1 (fun f hf => by cases hf) (by omega) ag (rset_kok hK) ⟨av, (fun f hf => by cases hf)⟩ (iok_TD (by decide +kernel) (PT_ag ag hp).1) (PT_ag ag hp) ?_ ?_
    · show [Value.ref 0, Value.int _, Value.int (3)] = [Value.ref 0, sv (pXs L xs) ρ (scT 1), sv (pXs L xs) ρ (scT 2)]
      rw [sv_int (t := scT 1) rfl, sv_int (t := scT 2) rfl, show (sd (pXs L xs) ρ (scT 2)).1 = 3 from v]
      rfl
    · show [Value.ref 219, Value.int _, Value.int (3)] = [Value.ref 219, sv (pXs L xs) ρ (scT 1), sv (pXs L xs) ρ (scT 2)]
      rw [sv_int (t := scT 1) rfl, sv_int (t := scT 2) rfl, show (sd (pXs L xs) ρ (scT 2)).1 = 3 from v]
      rfl
  · have v : (sd (pXs L xs) ρ (scT 2)).1 = 4 := Int32.toInt_inj.mp (by rw [w]; rfl)
    have ag0 : agr 59000 (rset [(60028, (sd (pXs L xs) ρ (scT 1)).1)] ρ) ρ := rset_agr (fun p hp => by
      simp only [List.mem_cons, List.not_mem_nil, or_false] at hp
      rcases hp with rfl
      · show 59000 ≤ 60028; decide)
    have av0 : vok (pXs L xs) (rset [(60028, (sd (pXs L xs) ρ (scT 1)).1)] ρ) := rset_vok (fun p hp r hr => by
      simp only [List.mem_cons, List.not_mem_nil, or_false] at hp
      rcases hp with rfl
      · rw [show vrng 60028 = some (0, 3) from rfl] at hr; cases hr; exact ⟨ge_i r0, le_i r1⟩) (fun p hp => by
      simp only [List.mem_cons, List.not_mem_nil, or_false] at hp
      rcases hp with rfl
      · show (60028 : Nat) % 2 = 0; decide) hF.1
    have ag := ag0
    have av := av0
    refine lgood (C := wideC c_state4) (t := 40 * (ρ.1 59744).toInt) (tq := 40 * (ρ.1 59744).toInt) (vt := [.arg 59808]) (FZ := fZ_w8) (nB := 300) (nC := 300) (SREL_w1 sT_state4 wk_c_state4) rfl (by decide +kernel) (hQ_I rfl rfl (by decide +kernel) kp_c_state4) rfl rfl rfl (by decide +kernel) rfl rfl rfl (by decide +kernel) ⟨517, rfl⟩ rfl (fun w z => ⟨[], fM_w8, fun _ _ _ f hf => (by cases hf), kb_w8, kc_w8⟩) hL hB hi IH hF.1 (fun f hf => by cases hf) (by omega) ag (rset_kok hK) ⟨av, (fun f hf => by cases hf)⟩ (fun c hc => by cases hc) (PT_ag ag hp) ?_ ?_
    · show [Value.ref 0, Value.int _, Value.int (4)] = [Value.ref 0, sv (pXs L xs) ρ (scT 1), sv (pXs L xs) ρ (scT 2)]
      rw [sv_int (t := scT 1) rfl, sv_int (t := scT 2) rfl, show (sd (pXs L xs) ρ (scT 2)).1 = 4 from v]
      rfl
    · show [Value.ref 219, Value.int _, Value.int (4)] = [Value.ref 219, sv (pXs L xs) ρ (scT 1), sv (pXs L xs) ρ (scT 2)]
      rw [sv_int (t := scT 1) rfl, sv_int (t := scT 2) rfl, show (sd (pXs L xs) ρ (scT 2)).1 = 4 from v]
      rfl
  · have v : (sd (pXs L xs) ρ (scT 2)).1 = 5 := Int32.toInt_inj.mp (by rw [w]; rfl)
    have ag0 : agr 59000 (rset [(60028, (sd (pXs L xs) ρ (scT 1)).1)] ρ) ρ := rset_agr (fun p hp => by
      simp only [List.mem_cons, List.not_mem_nil, or_false] at hp
      rcases hp with rfl
      · show 59000 ≤ 60028; decide)
    have av0 : vok (pXs L xs) (rset [(60028, (sd (pXs L xs) ρ (scT 1)).1)] ρ) := rset_vok (fun p hp r hr => by
      simp only [List.mem_cons, List.not_mem_nil, or_false] at hp
      rcases hp with rfl
      · rw [show vrng 60028 = some (0, 3) from rfl] at hr; cases hr; exact ⟨ge_i r0, le_i r1⟩) (fun p hp => by
      simp only [List.mem_cons, List.not_mem_nil, or_false] at hp
      rcases hp with rfl
      · show (60028 : Nat) % 2 = 0; decide) hF.1
    have ag := ag0
    have av := av0
    refine lgood (C := wideC c_state5) (t := 40 * (ρ.1 59744).toInt) (tq := 40 * (ρ.1 59744).toInt) (vt := [.arg 59808]) (FZ := fZ_w8) (nB := 300) (nC := 300) (SREL_w1 sT_state5 wk_c_state5) rfl (by decide +kernel) (hQ_I rfl rfl (by decide +kernel) kp_c_state5) rfl rfl rfl (by decide +kernel) rfl rfl rfl (by decide +kernel) ⟨517, rfl⟩ rfl (fun w z => ⟨[], fM_w8, fun _ _ _ f hf => (by cases hf), kb_w8, kc_w8⟩) hL hB hi IH hF.1 (fun f hf => by cases hf) (by omega) ag (rset_kok hK) ⟨av, (fun f hf => by cases hf)⟩ (iok_TD (by decide +kernel) (PT_ag ag hp).1) (PT_ag ag hp) ?_ ?_
    · show [Value.ref 0, Value.int _, Value.int (5)] = [Value.ref 0, sv (pXs L xs) ρ (scT 1), sv (pXs L xs) ρ (scT 2)]
      rw [sv_int (t := scT 1) rfl, sv_int (t := scT 2) rfl, show (sd (pXs L xs) ρ (scT 2)).1 = 5 from v]
      rfl
    · show [Value.ref 219, Value.int _, Value.int (5)] = [Value.ref 219, sv (pXs L xs) ρ (scT 1), sv (pXs L xs) ρ (scT 2)]
      rw [sv_int (t := scT 1) rfl, sv_int (t := scT 2) rfl, show (sd (pXs L xs) ρ (scT 2)).1 = 5 from v]
      rfl
  · have v : (sd (pXs L xs) ρ (scT 2)).1 = 6 := Int32.toInt_inj.mp (by rw [w]; rfl)
    rcases (show ((sd (pXs L xs) ρ (scT 1)).1).toInt = 0 ∨ ((sd (pXs L xs) ρ (scT 1)).1).toInt = 1 ∨ ((sd (pXs L xs) ρ (scT 1)).1).toInt = 2 ∨ ((sd (pXs L xs) ρ (scT 1)).1).toInt = 3 by omega) with u | u | u | u
    · have z : (sd (pXs L xs) ρ (scT 1)).1 = 0 := Int32.toInt_inj.mp (by rw [u]; rfl)
      refine lgood (C := cD_s60) (t := 40 * (ρ.1 59744).toInt) (tq := 40 * (ρ.1 59744).toInt) (vt := [.arg 59808]) (FZ := fZ_w8) (nB := 300) (nC := 300) s_st60 rfl (by decide +kernel) (fun ρ ρ' v1 v2 q => by
        obtain ⟨r, e1, e2, k', v', t', p'⟩ := q
        exact ⟨r, 0, fun ρ0 => (by rw [e1]; rfl), e2.trans e1.symm, k', v', t', p'⟩) rfl rfl rfl (by decide +kernel) rfl rfl rfl (by decide +kernel) ⟨517, rfl⟩ rfl (fun w z => ⟨[], fM_w8, fun _ _ _ f hf => (by cases hf), kb_w8, kc_w8⟩) hL hB hi IH hF.1 (fun f hf => by cases hf) (by omega) ⟨fun _ _ => ⟨rfl, rfl⟩, fun _ _ => ⟨rfl, rfl⟩⟩ hK ⟨hF.1, fun f hf => by cases hf⟩ (fun c hc => by cases hc) hp ?_ ?_
      · show [Value.ref 0, Value.int 0, Value.int 6] = [Value.ref 0, sv (pXs L xs) ρ (scT 1), sv (pXs L xs) ρ (scT 2)]
        rw [sv_int (t := scT 1) rfl, z, sv_int (t := scT 2) rfl, v]
      · show [Value.ref 219, Value.int 0, Value.int 6] = [Value.ref 219, sv (pXs L xs) ρ (scT 1), sv (pXs L xs) ρ (scT 2)]
        rw [sv_int (t := scT 1) rfl, z, sv_int (t := scT 2) rfl, v]
    · have z : (sd (pXs L xs) ρ (scT 1)).1 = 1 := Int32.toInt_inj.mp (by rw [u]; rfl)
      refine lgood (C := cD_s61) (t := 40 * (ρ.1 59744).toInt) (tq := 40 * (ρ.1 59744).toInt) (vt := [.arg 59808]) (FZ := fZ_w8) (nB := 300) (nC := 300) s_st61 rfl (by decide +kernel) (fun ρ ρ' v1 v2 q => by
        obtain ⟨r, e1, e2, k', v', t', p'⟩ := q
        exact ⟨r, 0, fun ρ0 => (by rw [e1]; rfl), e2.trans e1.symm, k', v', t', p'⟩) rfl rfl rfl (by decide +kernel) rfl rfl rfl (by decide +kernel) ⟨517, rfl⟩ rfl (fun w z => ⟨[], fM_w8, fun _ _ _ f hf => (by cases hf), kb_w8, kc_w8⟩) hL hB hi IH hF.1 (fun f hf => by cases hf) (by omega) ⟨fun _ _ => ⟨rfl, rfl⟩, fun _ _ => ⟨rfl, rfl⟩⟩ hK ⟨hF.1, fun f hf => by cases hf⟩ (fun c hc => by cases hc) hp ?_ ?_
      · show [Value.ref 0, Value.int 1, Value.int 6] = [Value.ref 0, sv (pXs L xs) ρ (scT 1), sv (pXs L xs) ρ (scT 2)]
        rw [sv_int (t := scT 1) rfl, z, sv_int (t := scT 2) rfl, v]
      · show [Value.ref 219, Value.int 1, Value.int 6] = [Value.ref 219, sv (pXs L xs) ρ (scT 1), sv (pXs L xs) ρ (scT 2)]
        rw [sv_int (t := scT 1) rfl, z, sv_int (t := scT 2) rfl, v]
    · have z : (sd (pXs L xs) ρ (scT 1)).1 = 2 := Int32.toInt_inj.mp (by rw [u]; rfl)
      refine lgood (C := cD_s62) (t := 40 * (ρ.1 59744).toInt) (tq := 40 * (ρ.1 59744).toInt) (vt := [.arg 59808]) (FZ := fZ_w8) (nB := 300) (nC := 300) s_st62 rfl (by decide +kernel) (fun ρ ρ' v1 v2 q => by
        obtain ⟨r, e1, e2, k', v', t', p'⟩ := q
        exact ⟨r, 0, fun ρ0 => (by rw [e1]; rfl), e2.trans e1.symm, k', v', t', p'⟩) rfl rfl rfl (by decide +kernel) rfl rfl rfl (by decide +kernel) ⟨517, rfl⟩ rfl (fun w z => ⟨[], fM_w8, fun _ _ _ f hf => (by cases hf), kb_w8, kc_w8⟩) hL hB hi IH hF.1 (fun f hf => by cases hf) (by omega) ⟨fun _ _ => ⟨rfl, rfl⟩, fun _ _ => ⟨rfl, rfl⟩⟩ hK ⟨hF.1, fun f hf => by cases hf⟩ (fun c hc => by cases hc) hp ?_ ?_
      · show [Value.ref 0, Value.int 2, Value.int 6] = [Value.ref 0, sv (pXs L xs) ρ (scT 1), sv (pXs L xs) ρ (scT 2)]
        rw [sv_int (t := scT 1) rfl, z, sv_int (t := scT 2) rfl, v]
      · show [Value.ref 219, Value.int 2, Value.int 6] = [Value.ref 219, sv (pXs L xs) ρ (scT 1), sv (pXs L xs) ρ (scT 2)]
        rw [sv_int (t := scT 1) rfl, z, sv_int (t := scT 2) rfl, v]
    · have z : (sd (pXs L xs) ρ (scT 1)).1 = 3 := Int32.toInt_inj.mp (by rw [u]; rfl)
      refine lgood (C := cD_s63) (t := 40 * (ρ.1 59744).toInt) (tq := 40 * (ρ.1 59744).toInt) (vt := [.arg 59808]) (FZ := fZ_w8) (nB := 300) (nC := 300) s_st63 rfl (by decide +kernel) (fun ρ ρ' v1 v2 q => by
        obtain ⟨r, e1, e2, k', v', t', p'⟩ := q
        exact ⟨r, 0, fun ρ0 => (by rw [e1]; rfl), e2.trans e1.symm, k', v', t', p'⟩) rfl rfl rfl (by decide +kernel) rfl rfl rfl (by decide +kernel) ⟨517, rfl⟩ rfl (fun w z => ⟨[], fM_w8, fun _ _ _ f hf => (by cases hf), kb_w8, kc_w8⟩) hL hB hi IH hF.1 (fun f hf => by cases hf) (by omega) ⟨fun _ _ => ⟨rfl, rfl⟩, fun _ _ => ⟨rfl, rfl⟩⟩ hK ⟨hF.1, fun f hf => by cases hf⟩ (fun c hc => by cases hc) hp ?_ ?_
      · show [Value.ref 0, Value.int 3, Value.int 6] = [Value.ref 0, sv (pXs L xs) ρ (scT 1), sv (pXs L xs) ρ (scT 2)]
        rw [sv_int (t := scT 1) rfl, z, sv_int (t := scT 2) rfl, v]
      · show [Value.ref 219, Value.int 3, Value.int 6] = [Value.ref 219, sv (pXs L xs) ρ (scT 1), sv (pXs L xs) ρ (scT 2)]
        rw [sv_int (t := scT 1) rfl, z, sv_int (t := scT 2) rfl, v]
  · have v : (sd (pXs L xs) ρ (scT 2)).1 = 7 := Int32.toInt_inj.mp (by rw [w]; rfl)
    have ag0 : agr 59000 (rset [(60028, (sd (pXs L xs) ρ (scT 1)).1)] ρ) ρ := rset_agr (fun p hp => by
      simp only [List.mem_cons, List.not_mem_nil, or_false] at hp
      rcases hp with rfl
      · show 59000 ≤ 60028; decide)
    have av0 : vok (pXs L xs) (rset [(60028, (sd (pXs L xs) ρ (scT 1)).1)] ρ) := rset_vok (fun p hp r hr => by
      simp only [List.mem_cons, List.not_mem_nil, or_false] at hp
      rcases hp with rfl
      · rw [show vrng 60028 = some (0, 3) from rfl] at hr; cases hr; exact ⟨ge_i r0, le_i r1⟩) (fun p hp => by
      simp only [List.mem_cons, List.not_mem_nil, or_false] at hp
      rcases hp with rfl
      · show (60028 : Nat) % 2 = 0; decide) hF.1
    have ag := ag0
    have av := av0
    refine lgood (C := wideC c_state7) (t := 40 * (ρ.1 59744).toInt) (tq := 40 * (ρ.1 59744).toInt) (vt := [.arg 59808]) (FZ := fZ_w8) (nB := 300) (nC := 300) (SREL_w1 sT_state7 wk_c_state7) rfl (by decide +kernel) (hQ_I rfl rfl (by decide +kernel) kp_c_state7) rfl rfl rfl (by decide +kernel) rfl rfl rfl (by decide +kernel) ⟨517, rfl⟩ rfl (fun w z => ⟨[], fM_w8, fun _ _ _ f hf => (by cases hf), kb_w8, kc_w8⟩) hL hB hi IH hF.1 (fun f hf => by cases hf) (by omega) ag (rset_kok hK) ⟨av, (fun f hf => by cases hf)⟩ (iok_TD (by decide +kernel) (PT_ag ag hp).1) (PT_ag ag hp) ?_ ?_
    · show [Value.ref 0, Value.int _, Value.int (7)] = [Value.ref 0, sv (pXs L xs) ρ (scT 1), sv (pXs L xs) ρ (scT 2)]
      rw [sv_int (t := scT 1) rfl, sv_int (t := scT 2) rfl, show (sd (pXs L xs) ρ (scT 2)).1 = 7 from v]
      rfl
    · show [Value.ref 219, Value.int _, Value.int (7)] = [Value.ref 219, sv (pXs L xs) ρ (scT 1), sv (pXs L xs) ρ (scT 2)]
      rw [sv_int (t := scT 1) rfl, sv_int (t := scT 2) rfl, show (sd (pXs L xs) ρ (scT 2)).1 = 7 from v]
      rfl
  · have v : (sd (pXs L xs) ρ (scT 2)).1 = 8 := Int32.toInt_inj.mp (by rw [w]; rfl)
    have ag0 : agr 59000 (rset [(60028, (sd (pXs L xs) ρ (scT 1)).1)] ρ) ρ := rset_agr (fun p hp => by
      simp only [List.mem_cons, List.not_mem_nil, or_false] at hp
      rcases hp with rfl
      · show 59000 ≤ 60028; decide)
    have av0 : vok (pXs L xs) (rset [(60028, (sd (pXs L xs) ρ (scT 1)).1)] ρ) := rset_vok (fun p hp r hr => by
      simp only [List.mem_cons, List.not_mem_nil, or_false] at hp
      rcases hp with rfl
      · rw [show vrng 60028 = some (0, 3) from rfl] at hr; cases hr; exact ⟨ge_i r0, le_i r1⟩) (fun p hp => by
      simp only [List.mem_cons, List.not_mem_nil, or_false] at hp
      rcases hp with rfl
      · show (60028 : Nat) % 2 = 0; decide) hF.1
    have ag := ag0
    have av := av0
    refine lgood (C := wideC c_state8) (t := 40 * (ρ.1 59744).toInt) (tq := 40 * (ρ.1 59744).toInt) (vt := [.arg 59808]) (FZ := fZ_w8) (nB := 300) (nC := 300) (SREL_w1 sT_state8 wk_c_state8) rfl (by decide +kernel) (hQ_I rfl rfl (by decide +kernel) kp_c_state8) rfl rfl rfl (by decide +kernel) rfl rfl rfl (by decide +kernel) ⟨517, rfl⟩ rfl (fun w z => ⟨[], fM_w8, fun _ _ _ f hf => (by cases hf), kb_w8, kc_w8⟩) hL hB hi IH hF.1 (fun f hf => by cases hf) (by omega) ag (rset_kok hK) ⟨av, (fun f hf => by cases hf)⟩ (iok_TD (by decide +kernel) (PT_ag ag hp).1) (PT_ag ag hp) ?_ ?_
    · show [Value.ref 0, Value.int _, Value.int (8)] = [Value.ref 0, sv (pXs L xs) ρ (scT 1), sv (pXs L xs) ρ (scT 2)]
      rw [sv_int (t := scT 1) rfl, sv_int (t := scT 2) rfl, show (sd (pXs L xs) ρ (scT 2)).1 = 8 from v]
      rfl
    · show [Value.ref 219, Value.int _, Value.int (8)] = [Value.ref 219, sv (pXs L xs) ρ (scT 1), sv (pXs L xs) ρ (scT 2)]
      rw [sv_int (t := scT 1) rfl, sv_int (t := scT 2) rfl, show (sd (pXs L xs) ρ (scT 2)).1 = 8 from v]
      rfl
