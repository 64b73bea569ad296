theorem zb_4_0 : zrun 264 (((2, zaT 1, .int 0), true) :: Fz 4) = true := by decide +kernel
theorem zb_4_1 : zrun 264 (((0, zaT 1, .int 0), true) :: ((2, zaT 1, .int 0), false) :: Fz 4) = true := by decide +kernel
theorem zb_4_2 : zrun 264 (((0, zaT 1, .int 1), true) :: ((0, zaT 1, .int 0), false) :: ((2, zaT 1, .int 0), false) :: Fz 4) = true := by decide +kernel
theorem zb_4_3 : zrun 264 (((0, zaT 1, .int 2), true) :: ((0, zaT 1, .int 1), false) :: ((0, zaT 1, .int 0), false) :: ((2, zaT 1, .int 0), false) :: Fz 4) = true := by decide +kernel
theorem zb_4_4 : zrun 264 (((0, zaT 1, .int 3), true) :: ((0, zaT 1, .int 2), false) :: ((0, zaT 1, .int 1), false) :: ((0, zaT 1, .int 0), false) :: ((2, zaT 1, .int 0), false) :: Fz 4) = true := by decide +kernel
theorem zb_4_5 : zrun 264 (((0, zaT 1, .int 3), false) :: ((0, zaT 1, .int 2), false) :: ((0, zaT 1, .int 1), false) :: ((0, zaT 1, .int 0), false) :: ((2, zaT 1, .int 0), false) :: Fz 4) = true := by decide +kernel
theorem zc_4 : psp (zrun 264) [(2, zaT 1, .int 0), (0, zaT 1, .int 0), (0, zaT 1, .int 1), (0, zaT 1, .int 2), (0, zaT 1, .int 3)] (Fz 4) = true := psp_cons zb_4_0 (psp_cons zb_4_1 (psp_cons zb_4_2 (psp_cons zb_4_3 (psp_cons zb_4_4 (psp_nil zb_4_5)))))
theorem zb_14_0 : zrun 780 (Fz 14) = true := by decide +kernel
theorem zc_14 : psp (zrun 780) [] (Fz 14) = true := psp_nil zb_14_0
theorem zb_13_0 : zrun 745 (Fz 13) = true := by decide +kernel
theorem zc_13 : psp (zrun 745) [] (Fz 13) = true := psp_nil zb_13_0
