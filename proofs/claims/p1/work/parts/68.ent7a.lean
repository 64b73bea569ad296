theorem k7_0 : ([4096, 4097] : List Int32).all (fun c => runN [] 4000 (((0, ixN, .int c), true) :: FgN 7) (zAt 426)) = true := by decide +kernel
theorem k7_1 : ([4099] : List Int32).all (fun c => runN [] 4000 (((0, ixN, .int c), true) :: FgN 7) (zAt 426)) = true := by decide +kernel
theorem k7_2 : ([4101, 4102, 4104, 4112] : List Int32).all (fun c => runN [] 4000 (((0, ixN, .int c), true) :: FgN 7) (zAt 426)) = true := by decide +kernel
theorem k7_3 : ([4113, 4116, 4117, 4118] : List Int32).all (fun c => runN [] 4000 (((0, ixN, .int c), true) :: FgN 7) (zAt 426)) = true := by decide +kernel
theorem k7_4 : ([4119, 4120] : List Int32).all (fun c => runN [] 4000 (((0, ixN, .int c), true) :: FgN 7) (zAt 426)) = true := by decide +kernel
theorem k7_5 : ([4137, 4608] : List Int32).all (fun c => runN [] 4000 (((0, ixN, .int c), true) :: FgN 7) (zAt 426)) = true := by decide +kernel
theorem k7_6 : ([5120] : List Int32).all (fun c => runN [] 4000 (((0, ixN, .int c), true) :: FgN 7) (zAt 426)) = true := by decide +kernel
theorem k7_7 : ([5121] : List Int32).all (fun c => runN [] 4000 (((0, ixN, .int c), true) :: FgN 7) (zAt 426)) = true := by decide +kernel
theorem k7_8 : ([5122] : List Int32).all (fun c => runN [] 4000 (((0, ixN, .int c), true) :: FgN 7) (zAt 426)) = true := by decide +kernel
theorem k7_9 : ([5123] : List Int32).all (fun c => runN [] 4000 (((0, ixN, .int c), true) :: FgN 7) (zAt 426)) = true := by decide +kernel
theorem k7_10 : ([5632] : List Int32).all (fun c => runN [] 4000 (((0, ixN, .int c), true) :: FgN 7) (zAt 426)) = true := by decide +kernel
theorem k7_11 : ([5633] : List Int32).all (fun c => runN [] 4000 (((0, ixN, .int c), true) :: FgN 7) (zAt 426)) = true := by decide +kernel
theorem k7_12 : ([5634] : List Int32).all (fun c => runN [] 4000 (((0, ixN, .int c), true) :: FgN 7) (zAt 426)) = true := by decide +kernel
theorem k7_13 : ([5635] : List Int32).all (fun c => runN [] 4000 (((0, ixN, .int c), true) :: FgN 7) (zAt 426)) = true := by decide +kernel
theorem k7_14 : ([6144] : List Int32).all (fun c => runN [] 4000 (((0, ixN, .int c), true) :: FgN 7) (zAt 426)) = true := by decide +kernel
theorem k7_15 : ([6145] : List Int32).all (fun c => runN [] 4000 (((0, ixN, .int c), true) :: FgN 7) (zAt 426)) = true := by decide +kernel
theorem k7_16 : ([6146] : List Int32).all (fun c => runN [] 4000 (((0, ixN, .int c), true) :: FgN 7) (zAt 426)) = true := by decide +kernel
theorem k7_17 : ([6147] : List Int32).all (fun c => runN [] 4000 (((0, ixN, .int c), true) :: FgN 7) (zAt 426)) = true := by decide +kernel
theorem k7_18 : ([6656] : List Int32).all (fun c => runN [] 4000 (((0, ixN, .int c), true) :: FgN 7) (zAt 426)) = true := by decide +kernel
theorem k7_19 : ([6657] : List Int32).all (fun c => runN [] 4000 (((0, ixN, .int c), true) :: FgN 7) (zAt 426)) = true := by decide +kernel
theorem k7_20 : ([6658] : List Int32).all (fun c => runN [] 4000 (((0, ixN, .int c), true) :: FgN 7) (zAt 426)) = true := by decide +kernel
theorem k7_21 : ([6659, 8192, 8208] : List Int32).all (fun c => runN [] 4000 (((0, ixN, .int c), true) :: FgN 7) (zAt 426)) = true := by decide +kernel
theorem k7_22 : ([8209, 8210, 24639, 24640, 24641, 24666] : List Int32).all (fun c => runN [] 4000 (((0, ixN, .int c), true) :: FgN 7) (zAt 426)) = true := by decide +kernel
theorem k7_23 : ([24667, 24668, 24669, 24670, 24672, 24673] : List Int32).all (fun c => runN [] 4000 (((0, ixN, .int c), true) :: FgN 7) (zAt 426)) = true := by decide +kernel
theorem k7_24 : ([24674, 24676, 24677, 24678, 24679, 24680] : List Int32).all (fun c => runN [] 4000 (((0, ixN, .int c), true) :: FgN 7) (zAt 426)) = true := by decide +kernel
theorem k7_25 : ([24683, 24684, 24698, 24700] : List Int32).all (fun c => runN [] 4000 (((0, ixN, .int c), true) :: FgN 7) (zAt 426)) = true := by decide +kernel
theorem k7_26 : ([24701, 24703, 24705, 24707] : List Int32).all (fun c => runN [] 4000 (((0, ixN, .int c), true) :: FgN 7) (zAt 426)) = true := by decide +kernel
theorem k7_27 : ([24708, 24709, 24728, 24729] : List Int32).all (fun c => runN [] 4000 (((0, ixN, .int c), true) :: FgN 7) (zAt 426)) = true := by decide +kernel
theorem k7_28 : ([24730, 24760, 24761, 24762, 24763, 24829] : List Int32).all (fun c => runN [] 4000 (((0, ixN, .int c), true) :: FgN 7) (zAt 426)) = true := by decide +kernel
theorem k7_29 : ([24830, 24831, 25858] : List Int32).all (fun c => runN [] 4000 (((0, ixN, .int c), true) :: FgN 7) (zAt 426)) = true := by decide +kernel
theorem b7_0 : runN [] 900 (((2, nnN, .int 0), true) :: FcN 7) (zAt 426) = true := by decide +kernel
theorem b7_1 : runN [] 900 (((2, nnN, .int 4), false) :: ((2, nnN, .int 0), false) :: FcN 7) (zAt 426) = true := by decide +kernel
