theorem zb_9_0 : zrun 536 (((2, zaT 1, .int 0), true) :: Fz 9) = true := by decide +kernel
theorem zb_9_1 : zrun 536 (((0, zaT 1, .int 0), true) :: ((2, zaT 1, .int 0), false) :: Fz 9) = true := by decide +kernel
theorem zb_9_2 : zrun 536 (((0, zaT 1, .int 1), true) :: ((0, zaT 1, .int 0), false) :: ((2, zaT 1, .int 0), false) :: Fz 9) = true := by decide +kernel
theorem zb_9_3 : zrun 536 (((0, zaT 1, .int 2), true) :: ((0, zaT 1, .int 1), false) :: ((0, zaT 1, .int 0), false) :: ((2, zaT 1, .int 0), false) :: Fz 9) = true := by decide +kernel
theorem zb_9_4 : zrun 536 (((0, zaT 1, .int 3), true) :: ((0, zaT 1, .int 2), false) :: ((0, zaT 1, .int 1), false) :: ((0, zaT 1, .int 0), false) :: ((2, zaT 1, .int 0), false) :: Fz 9) = true := by decide +kernel
theorem zb_9_5 : zrun 536 (((0, zaT 1, .int 4), true) :: ((0, zaT 1, .int 3), false) :: ((0, zaT 1, .int 2), false) :: ((0, zaT 1, .int 1), false) :: ((0, zaT 1, .int 0), false) :: ((2, zaT 1, .int 0), false) :: Fz 9) = true := by decide +kernel
theorem zb_9_6 : zrun 536 (((0, zaT 1, .int 4), false) :: ((0, zaT 1, .int 3), false) :: ((0, zaT 1, .int 2), false) :: ((0, zaT 1, .int 1), false) :: ((0, zaT 1, .int 0), false) :: ((2, zaT 1, .int 0), false) :: Fz 9) = true := by decide +kernel
theorem zc_9 : psp (zrun 536) [(2, zaT 1, .int 0), (0, zaT 1, .int 0), (0, zaT 1, .int 1), (0, zaT 1, .int 2), (0, zaT 1, .int 3), (0, zaT 1, .int 4)] (Fz 9) = true := psp_cons zb_9_0 (psp_cons zb_9_1 (psp_cons zb_9_2 (psp_cons zb_9_3 (psp_cons zb_9_4 (psp_cons zb_9_5 (psp_nil zb_9_6))))))
