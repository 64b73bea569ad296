set_option maxRecDepth 20000
/-! ===== the law: tick ===== -/
theorem kr_0_a : lrow 31 600 (((2, scT 1, .int 0), true) :: Fk 0) = true := by decide +kernel
theorem kr_0_b : lrow 31 600 (((2, .int 200, scT 1), true) :: ((2, scT 1, .int 0), false) :: Fk 0) = true := by decide +kernel
noncomputable def hA_tick : sF := frH 432 4 [(0, tr 0), (1, scT 1), (2, tr 348)] [scT 1, tr 0, .int 0, tr 348]
noncomputable def lA_tick : sF := frL 39 zLv []
noncomputable def sA_tick : sS := (hA_tick, [lA_tick], 19, zLw, 103275)
theorem ka_tick : crow 31 400 (((2, .int 200, scT 1), false) :: ((2, scT 1, .int 0), false) :: Fk 0) sA_tick = true := by decide +kernel
noncomputable def hB_tick : sF := frH 432 5 [(0, tr 0), (1, scT 1), (2, tr 348)] ([.arg 59808] ++ [.int 0, tr 348])
noncomputable def sM_tick : sS := (frL 46 ((5, .int 0) :: zLv) [scT 1, tr 219], [], 20, foot zLw fL8, 0)
noncomputable def fM_tick : sFs := [((6, .arg 59841, .op1 .i2l (.arg 59808)), true)]
theorem kb_tick : srun ysN pF pdfl mt_all hlp kR (fun F s => sinstX kR F (sgM s) fM_tick sM_tick s) 300 ([] ++ Fi6) (hB_tick, [lA_tick], 19, foot zLw fL8, 0) = true := by decide +kernel
theorem kc_tick : srun ysN pF pdfl mt_all hlp kR sBkP 300 (((0, .arg 19232, .int 0), true) :: (fM_tick ++ Fi6)) (frL 47 ((5, .int 0) :: zLv) ([.arg 59808] ++ []), [], 20, zLw, 103275) = true := by decide +kernel
