set_option maxRecDepth 20000
/-! ===== the law: tick ===== -/
theorem kr_0_a : lrow 31 600 (((2, scT 1, .int 0), true) :: Fk 0) = true := by decide +kernel
theorem kr_0_b : lrow 31 600 (((2, .int 200, scT 1), true) :: ((2, scT 1, .int 0), false) :: Fk 0) = true := by decide +kernel
noncomputable def hA_tick : sF := frH 432 4 [(0, tr 0), (1, scT 1), (2, tr 348)] [scT 1, tr 0, .int 0, tr 348]
noncomputable def lA_tick : sF := frL 39 zLv []
noncomputable def sA_tick : sS := (hA_tick, [lA_tick], 19, zLw, 103275)
theorem ka_tick : crow 31 400 (((2, .int 200, scT 1), false) :: ((2, scT 1, .int 0), false) :: Fk 0) sA_tick = true := by decide +kernel
noncomputable def hB_tick : sF := frH 432 5 [(0, tr 0), (1, scT 1), (2, tr 348)] ([.arg 59808] ++ [.int 0, tr 348])
noncomputable def sM_tick : sS := (frL 46 ((5, .int 0) :: zLv) [scT 1, tr 219], [], 20, foot zLw fL8, 0)
noncomputable def fM_tick : sFs := [((6, .arg 59841, .op1 .i2l (.arg 59808)), true)]
theorem kb_tick : srun ysN pF pdfl mt_all hlp kR (fun F s => sinstX kR F (sgM s) fM_tick sM_tick s) 300 ([] ++ ([] ++ Fi6)) (hB_tick, [lA_tick], 19, foot zLw fL8, 0) = true := by decide +kernel
theorem kc_tick : srun ysN pF pdfl mt_all hlp kR sBkP 300 (((0, .arg 19232, .int 0), true) :: (fM_tick ++ Fi6)) (frL 47 ((5, .int 0) :: zLv) ([.arg 59808] ++ []), [], 20, zLw, 103275) = true := by decide +kernel
theorem zcp_0 {L : Nat} {xs : Nat → Int32} (hL : L ≤ 3073) : ZCP L xs 0 31 := by
  intro ρ hB hi IH hK hF hp
  by_cases h0 : (sd (pXs L xs) ρ (scT 1)).1 < 0
  · have g : fok (pXs L xs) ρ (((2, scT 1, .int 0), true) :: Fk 0) := ⟨hF.1, fcn (decide_eq_true h0) hF.2⟩
    exact lrow_ok hL hB hi IH hK g hp kr_0_a
  by_cases h1 : (200 : Int32) < (sd (pXs L xs) ρ (scT 1)).1
  · have g : fok (pXs L xs) ρ (((2, .int 200, scT 1), true) :: ((2, scT 1, .int 0), false) :: Fk 0) := ⟨hF.1, fcn (decide_eq_true h1) (fcn (decide_eq_false h0) hF.2)⟩
    exact lrow_ok hL hB hi IH hK g hp kr_0_b
  have g : fok (pXs L xs) ρ (((2, .int 200, scT 1), false) :: ((2, scT 1, .int 0), false) :: Fk 0) := ⟨hF.1, fcn (decide_eq_false h1) (fcn (decide_eq_false h0) hF.2)⟩
  refine crow_ok hK g ka_tick ?_
  have b1 := hB.1
  have b2 := hB.2.1
  have ag : agr 59000 (rset [(59968, (sd (pXs L xs) ρ (scT 1)).1)] ρ) ρ := rset_agr (fun p hp => by rw [List.mem_singleton.mp hp]; show 59000 ≤ 59968; decide)
  have ev : (rset [(59968, (sd (pXs L xs) ρ (scT 1)).1)] ρ).1 59968 = (sd (pXs L xs) ρ (scT 1)).1 := rfl
  refine lgood (C := cD_tk) (t := 40 * (ρ.1 59744).toInt) (tq := 40 * (ρ.1 59744).toInt + 200) (vt := [.arg 59808]) (FZ := []) (nB := 300) (nC := 300) (s_tick (by omega) (by omega)) rfl (by decide +kernel) (fun ρ ρ' v1 v2 q => ⟨ρ'.1 1280, 0, fun ρ0 => by rw [q.1]; rfl, q.2.1.trans q.1.symm, q.2.2.1, q.2.2.2.1, q.2.2.2.2.1, q.2.2.2.2.2⟩) rfl rfl rfl (by decide +kernel) rfl rfl rfl (by decide +kernel) ⟨47, rfl⟩ rfl (fun w z => ⟨[], fM_tick, fun _ _ _ f hf => (by cases hf), kb_tick, kc_tick⟩) hL hB hi IH hF.1 (fun f hf => by cases hf) (by omega) ag (rset_kok hK) ⟨rset_vok (fun p hp r hr => by rw [List.mem_singleton.mp hp, show vrng 59968 = none from rfl] at hr; cases hr) (fun p hp => by rw [List.mem_singleton.mp hp]; show (59968 : Nat) % 2 = 0; decide) hF.1, fcn (decide_eq_false (by show ¬ (rset [(59968, (sd (pXs L xs) ρ (scT 1)).1)] ρ).1 59968 < 0; rw [ev]; exact h0)) (fcn (decide_eq_false (by show ¬ (200 : Int32) < (rset [(59968, (sd (pXs L xs) ρ (scT 1)).1)] ρ).1 59968; rw [ev]; exact h1)) (fun f hf => by cases hf))⟩ (fun c hc => by cases hc) (PT_ag ag hp) ?_ ?_
  · show [Value.ref 0, Value.int _] = [Value.ref 0, sv (pXs L xs) ρ (scT 1)]
    rw [sv_int (t := scT 1) rfl]
    rfl
  · show [Value.ref 219, Value.int _] = [Value.ref 219, sv (pXs L xs) ρ (scT 1)]
    rw [sv_int (t := scT 1) rfl]
    rfl
