theorem zb_3_0 : zrun 219 (((2, zaT 1, .int 0), true) :: Fz 3) = true := by decide +kernel
theorem zb_3_1 : zrun 219 (((0, zaT 1, .int 0), true) :: ((2, zaT 1, .int 0), false) :: Fz 3) = true := by decide +kernel
theorem zb_3_2 : zrun 219 (((0, zaT 1, .int 1), true) :: ((0, zaT 1, .int 0), false) :: ((2, zaT 1, .int 0), false) :: Fz 3) = true := by decide +kernel
theorem zb_3_3 : zrun 219 (((0, zaT 1, .int 2), true) :: ((0, zaT 1, .int 1), false) :: ((0, zaT 1, .int 0), false) :: ((2, zaT 1, .int 0), false) :: Fz 3) = true := by decide +kernel
theorem zb_3_4 : zrun 219 (((0, zaT 1, .int 3), true) :: ((0, zaT 1, .int 2), false) :: ((0, zaT 1, .int 1), false) :: ((0, zaT 1, .int 0), false) :: ((2, zaT 1, .int 0), false) :: Fz 3) = true := by decide +kernel
theorem zb_3_5 : zrun 219 (((0, zaT 1, .int 4), true) :: ((0, zaT 1, .int 3), false) :: ((0, zaT 1, .int 2), false) :: ((0, zaT 1, .int 1), false) :: ((0, zaT 1, .int 0), false) :: ((2, zaT 1, .int 0), false) :: Fz 3) = true := by decide +kernel
theorem zb_3_6 : zrun 219 (((0, zaT 1, .int 4), false) :: ((0, zaT 1, .int 3), false) :: ((0, zaT 1, .int 2), false) :: ((0, zaT 1, .int 1), false) :: ((0, zaT 1, .int 0), false) :: ((2, zaT 1, .int 0), false) :: Fz 3) = true := by decide +kernel
theorem zc_3 : psp (zrun 219) [(2, zaT 1, .int 0), (0, zaT 1, .int 0), (0, zaT 1, .int 1), (0, zaT 1, .int 2), (0, zaT 1, .int 3), (0, zaT 1, .int 4)] (Fz 3) = true := psp_cons zb_3_0 (psp_cons zb_3_1 (psp_cons zb_3_2 (psp_cons zb_3_3 (psp_cons zb_3_4 (psp_cons zb_3_5 (psp_nil zb_3_6))))))
theorem zb_5_0 : zrun 327 (((2, zaT 1, .int 0), true) :: Fz 5) = true := by decide +kernel
theorem zb_5_1 : zrun 327 (((0, zaT 1, .int 0), true) :: ((2, zaT 1, .int 0), false) :: Fz 5) = true := by decide +kernel
theorem zb_5_2 : zrun 327 (((0, zaT 1, .int 1), true) :: ((0, zaT 1, .int 0), false) :: ((2, zaT 1, .int 0), false) :: Fz 5) = true := by decide +kernel
theorem zb_5_3 : zrun 327 (((0, zaT 1, .int 2), true) :: ((0, zaT 1, .int 1), false) :: ((0, zaT 1, .int 0), false) :: ((2, zaT 1, .int 0), false) :: Fz 5) = true := by decide +kernel
theorem zb_5_4 : zrun 327 (((0, zaT 1, .int 3), true) :: ((0, zaT 1, .int 2), false) :: ((0, zaT 1, .int 1), false) :: ((0, zaT 1, .int 0), false) :: ((2, zaT 1, .int 0), false) :: Fz 5) = true := by decide +kernel
theorem zb_5_5 : zrun 327 (((0, zaT 1, .int 3), false) :: ((0, zaT 1, .int 2), false) :: ((0, zaT 1, .int 1), false) :: ((0, zaT 1, .int 0), false) :: ((2, zaT 1, .int 0), false) :: Fz 5) = true := by decide +kernel
theorem zc_5 : psp (zrun 327) [(2, zaT 1, .int 0), (0, zaT 1, .int 0), (0, zaT 1, .int 1), (0, zaT 1, .int 2), (0, zaT 1, .int 3)] (Fz 5) = true := psp_cons zb_5_0 (psp_cons zb_5_1 (psp_cons zb_5_2 (psp_cons zb_5_3 (psp_cons zb_5_4 (psp_nil zb_5_5)))))
