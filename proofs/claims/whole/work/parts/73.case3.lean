theorem zb_16_0 : zrun 883 (Fz 16) = true := by decide +kernel
theorem zc_16 : psp (zrun 883) [] (Fz 16) = true := psp_nil zb_16_0
theorem zb_17_0 : zrun 918 (Fz 17) = true := by decide +kernel
theorem zc_17 : psp (zrun 918) [] (Fz 17) = true := psp_nil zb_17_0
theorem zb_18_0 : zrun 935 (((2, zaT 1, .int 0), true) :: Fz 18) = true := by decide +kernel
theorem zb_18_1 : zrun 935 (((0, zaT 1, .int 0), true) :: ((2, zaT 1, .int 0), false) :: Fz 18) = true := by decide +kernel
theorem zb_18_2 : zrun 935 (((0, zaT 1, .int 1), true) :: ((0, zaT 1, .int 0), false) :: ((2, zaT 1, .int 0), false) :: Fz 18) = true := by decide +kernel
theorem zb_18_3 : zrun 935 (((0, zaT 1, .int 2), true) :: ((0, zaT 1, .int 1), false) :: ((0, zaT 1, .int 0), false) :: ((2, zaT 1, .int 0), false) :: Fz 18) = true := by decide +kernel
theorem zb_18_4 : zrun 935 (((0, zaT 1, .int 3), true) :: ((0, zaT 1, .int 2), false) :: ((0, zaT 1, .int 1), false) :: ((0, zaT 1, .int 0), false) :: ((2, zaT 1, .int 0), false) :: Fz 18) = true := by decide +kernel
theorem zb_18_5 : zrun 935 (((0, zaT 1, .int 3), false) :: ((0, zaT 1, .int 2), false) :: ((0, zaT 1, .int 1), false) :: ((0, zaT 1, .int 0), false) :: ((2, zaT 1, .int 0), false) :: Fz 18) = true := by decide +kernel
theorem zc_18 : psp (zrun 935) [(2, zaT 1, .int 0), (0, zaT 1, .int 0), (0, zaT 1, .int 1), (0, zaT 1, .int 2), (0, zaT 1, .int 3)] (Fz 18) = true := psp_cons zb_18_0 (psp_cons zb_18_1 (psp_cons zb_18_2 (psp_cons zb_18_3 (psp_cons zb_18_4 (psp_nil zb_18_5)))))
theorem zb_23_0 : zrun 1186 (Fz 23) = true := by decide +kernel
theorem zc_23 : psp (zrun 1186) [] (Fz 23) = true := psp_nil zb_23_0
