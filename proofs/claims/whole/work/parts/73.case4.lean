theorem zb_19_0 : zrun 977 (((2, zaT 1, .int 0), true) :: Fz 19) = true := by decide +kernel
theorem zb_19_1 : zrun 977 (((0, zaT 1, .int 0), true) :: ((2, zaT 1, .int 0), false) :: Fz 19) = true := by decide +kernel
theorem zb_19_2 : zrun 977 (((0, zaT 1, .int 1), true) :: ((0, zaT 1, .int 0), false) :: ((2, zaT 1, .int 0), false) :: Fz 19) = true := by decide +kernel
theorem zb_19_3 : zrun 977 (((0, zaT 1, .int 2), true) :: ((0, zaT 1, .int 1), false) :: ((0, zaT 1, .int 0), false) :: ((2, zaT 1, .int 0), false) :: Fz 19) = true := by decide +kernel
theorem zb_19_4 : zrun 977 (((0, zaT 1, .int 3), true) :: ((0, zaT 1, .int 2), false) :: ((0, zaT 1, .int 1), false) :: ((0, zaT 1, .int 0), false) :: ((2, zaT 1, .int 0), false) :: Fz 19) = true := by decide +kernel
theorem zb_19_5 : zrun 977 (((0, zaT 1, .int 3), false) :: ((0, zaT 1, .int 2), false) :: ((0, zaT 1, .int 1), false) :: ((0, zaT 1, .int 0), false) :: ((2, zaT 1, .int 0), false) :: Fz 19) = true := by decide +kernel
theorem zc_19 : psp (zrun 977) [(2, zaT 1, .int 0), (0, zaT 1, .int 0), (0, zaT 1, .int 1), (0, zaT 1, .int 2), (0, zaT 1, .int 3)] (Fz 19) = true := psp_cons zb_19_0 (psp_cons zb_19_1 (psp_cons zb_19_2 (psp_cons zb_19_3 (psp_cons zb_19_4 (psp_nil zb_19_5)))))
