theorem zb_20_0 : zrun 1052 (((2, zaT 1, .int 0), true) :: Fz 20) = true := by decide +kernel
theorem zb_20_1 : zrun 1052 (((0, zaT 1, .int 0), true) :: ((2, zaT 1, .int 0), false) :: Fz 20) = true := by decide +kernel
theorem zb_20_2 : zrun 1052 (((0, zaT 1, .int 1), true) :: ((0, zaT 1, .int 0), false) :: ((2, zaT 1, .int 0), false) :: Fz 20) = true := by decide +kernel
theorem zb_20_3 : zrun 1052 (((0, zaT 1, .int 2), true) :: ((0, zaT 1, .int 1), false) :: ((0, zaT 1, .int 0), false) :: ((2, zaT 1, .int 0), false) :: Fz 20) = true := by decide +kernel
theorem zb_20_4 : zrun 1052 (((0, zaT 1, .int 3), true) :: ((0, zaT 1, .int 2), false) :: ((0, zaT 1, .int 1), false) :: ((0, zaT 1, .int 0), false) :: ((2, zaT 1, .int 0), false) :: Fz 20) = true := by decide +kernel
theorem zb_20_5 : zrun 1052 (((0, zaT 1, .int 3), false) :: ((0, zaT 1, .int 2), false) :: ((0, zaT 1, .int 1), false) :: ((0, zaT 1, .int 0), false) :: ((2, zaT 1, .int 0), false) :: Fz 20) = true := by decide +kernel
theorem zc_20 : psp (zrun 1052) [(2, zaT 1, .int 0), (0, zaT 1, .int 0), (0, zaT 1, .int 1), (0, zaT 1, .int 2), (0, zaT 1, .int 3)] (Fz 20) = true := psp_cons zb_20_0 (psp_cons zb_20_1 (psp_cons zb_20_2 (psp_cons zb_20_3 (psp_cons zb_20_4 (psp_nil zb_20_5)))))
theorem zb_21_0 : zrun 1097 (((2, zaT 1, .int 0), true) :: Fz 21) = true := by decide +kernel
theorem zb_21_1 : zrun 1097 (((0, zaT 1, .int 0), true) :: ((2, zaT 1, .int 0), false) :: Fz 21) = true := by decide +kernel
theorem zb_21_2 : zrun 1097 (((0, zaT 1, .int 1), true) :: ((0, zaT 1, .int 0), false) :: ((2, zaT 1, .int 0), false) :: Fz 21) = true := by decide +kernel
theorem zb_21_3 : zrun 1097 (((0, zaT 1, .int 2), true) :: ((0, zaT 1, .int 1), false) :: ((0, zaT 1, .int 0), false) :: ((2, zaT 1, .int 0), false) :: Fz 21) = true := by decide +kernel
theorem zb_21_4 : zrun 1097 (((0, zaT 1, .int 3), true) :: ((0, zaT 1, .int 2), false) :: ((0, zaT 1, .int 1), false) :: ((0, zaT 1, .int 0), false) :: ((2, zaT 1, .int 0), false) :: Fz 21) = true := by decide +kernel
theorem zb_21_5 : zrun 1097 (((0, zaT 1, .int 3), false) :: ((0, zaT 1, .int 2), false) :: ((0, zaT 1, .int 1), false) :: ((0, zaT 1, .int 0), false) :: ((2, zaT 1, .int 0), false) :: Fz 21) = true := by decide +kernel
theorem zc_21 : psp (zrun 1097) [(2, zaT 1, .int 0), (0, zaT 1, .int 0), (0, zaT 1, .int 1), (0, zaT 1, .int 2), (0, zaT 1, .int 3)] (Fz 21) = true := psp_cons zb_21_0 (psp_cons zb_21_1 (psp_cons zb_21_2 (psp_cons zb_21_3 (psp_cons zb_21_4 (psp_nil zb_21_5)))))
