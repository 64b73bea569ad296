/-! ===== entry and octet: every index of the book, and none of them ===== -/
def ixN : sT := .elem (.string "" 0) (.int 3)
def idxN : List Int32 := [4096, 4097, 4099, 4101, 4102, 4104, 4112, 4113, 4116, 4117, 4118, 4119, 4120, 4137, 4608, 5120, 5121, 5122, 5123, 5632, 5633, 5634, 5635, 6144, 6145, 6146, 6147, 6656, 6657, 6658, 6659, 8192, 8208, 8209, 8210, 24639, 24640, 24641, 24666, 24667, 24668, 24669, 24670, 24672, 24673, 24674, 24676, 24677, 24678, 24679, 24680, 24683, 24684, 24698, 24700, 24701, 24703, 24705, 24707, 24708, 24709, 24728, 24729, 24730, 24760, 24761, 24762, 24763, 24829, 24830, 24831, 25858]
def FgN (c : Nat) : sFs := ((2, nnN, .int 4), true) :: ((2, nnN, .int 0), false) :: FcN c
section CUTS
variable {L : Nat} {xs : Nat → Int32}
theorem GL_end {F F' : sFs} {s : sS} {n : Nat} (h : runN [] n F s = true) (hs : F.all (fun f => F'.contains f) = true) : GL L xs F' s := GL_more (g_end h) (fun f hf => by
  have := List.all_eq_true.mp hs f hf
  simpa using this)
end CUTS
theorem k6_0 : ([4096, 4097] : List Int32).all (fun c => runN [] 4000 (((0, ixN, .int c), true) :: FgN 6) (zAt 372)) = true := by decide +kernel
theorem k6_1 : ([4099] : List Int32).all (fun c => runN [] 4000 (((0, ixN, .int c), true) :: FgN 6) (zAt 372)) = true := by decide +kernel
theorem k6_2 : ([4101, 4102, 4104, 4112] : List Int32).all (fun c => runN [] 4000 (((0, ixN, .int c), true) :: FgN 6) (zAt 372)) = true := by decide +kernel
theorem k6_3 : ([4113, 4116, 4117, 4118] : List Int32).all (fun c => runN [] 4000 (((0, ixN, .int c), true) :: FgN 6) (zAt 372)) = true := by decide +kernel
theorem k6_4 : ([4119, 4120] : List Int32).all (fun c => runN [] 4000 (((0, ixN, .int c), true) :: FgN 6) (zAt 372)) = true := by decide +kernel
theorem k6_5 : ([4137, 4608] : List Int32).all (fun c => runN [] 4000 (((0, ixN, .int c), true) :: FgN 6) (zAt 372)) = true := by decide +kernel
theorem k6_6 : ([5120] : List Int32).all (fun c => runN [] 4000 (((0, ixN, .int c), true) :: FgN 6) (zAt 372)) = true := by decide +kernel
theorem k6_7 : ([5121] : List Int32).all (fun c => runN [] 4000 (((0, ixN, .int c), true) :: FgN 6) (zAt 372)) = true := by decide +kernel
theorem k6_8 : ([5122] : List Int32).all (fun c => runN [] 4000 (((0, ixN, .int c), true) :: FgN 6) (zAt 372)) = true := by decide +kernel
theorem k6_9 : ([5123] : List Int32).all (fun c => runN [] 4000 (((0, ixN, .int c), true) :: FgN 6) (zAt 372)) = true := by decide +kernel
theorem k6_10 : ([5632] : List Int32).all (fun c => runN [] 4000 (((0, ixN, .int c), true) :: FgN 6) (zAt 372)) = true := by decide +kernel
theorem k6_11 : ([5633] : List Int32).all (fun c => runN [] 4000 (((0, ixN, .int c), true) :: FgN 6) (zAt 372)) = true := by decide +kernel
theorem k6_12 : ([5634] : List Int32).all (fun c => runN [] 4000 (((0, ixN, .int c), true) :: FgN 6) (zAt 372)) = true := by decide +kernel
theorem k6_13 : ([5635] : List Int32).all (fun c => runN [] 4000 (((0, ixN, .int c), true) :: FgN 6) (zAt 372)) = true := by decide +kernel
theorem k6_14 : ([6144] : List Int32).all (fun c => runN [] 4000 (((0, ixN, .int c), true) :: FgN 6) (zAt 372)) = true := by decide +kernel
theorem k6_15 : ([6145] : List Int32).all (fun c => runN [] 4000 (((0, ixN, .int c), true) :: FgN 6) (zAt 372)) = true := by decide +kernel
theorem k6_16 : ([6146] : List Int32).all (fun c => runN [] 4000 (((0, ixN, .int c), true) :: FgN 6) (zAt 372)) = true := by decide +kernel
theorem k6_17 : ([6147] : List Int32).all (fun c => runN [] 4000 (((0, ixN, .int c), true) :: FgN 6) (zAt 372)) = true := by decide +kernel
theorem k6_18 : ([6656] : List Int32).all (fun c => runN [] 4000 (((0, ixN, .int c), true) :: FgN 6) (zAt 372)) = true := by decide +kernel
theorem k6_19 : ([6657] : List Int32).all (fun c => runN [] 4000 (((0, ixN, .int c), true) :: FgN 6) (zAt 372)) = true := by decide +kernel
theorem k6_20 : ([6658] : List Int32).all (fun c => runN [] 4000 (((0, ixN, .int c), true) :: FgN 6) (zAt 372)) = true := by decide +kernel
theorem k6_21 : ([6659, 8192, 8208] : List Int32).all (fun c => runN [] 4000 (((0, ixN, .int c), true) :: FgN 6) (zAt 372)) = true := by decide +kernel
theorem k6_22 : ([8209, 8210, 24639, 24640, 24641, 24666] : List Int32).all (fun c => runN [] 4000 (((0, ixN, .int c), true) :: FgN 6) (zAt 372)) = true := by decide +kernel
theorem k6_23 : ([24667, 24668, 24669, 24670, 24672, 24673] : List Int32).all (fun c => runN [] 4000 (((0, ixN, .int c), true) :: FgN 6) (zAt 372)) = true := by decide +kernel
theorem k6_24 : ([24674, 24676, 24677, 24678, 24679, 24680] : List Int32).all (fun c => runN [] 4000 (((0, ixN, .int c), true) :: FgN 6) (zAt 372)) = true := by decide +kernel
theorem k6_25 : ([24683, 24684, 24698, 24700] : List Int32).all (fun c => runN [] 4000 (((0, ixN, .int c), true) :: FgN 6) (zAt 372)) = true := by decide +kernel
theorem k6_26 : ([24701, 24703, 24705, 24707] : List Int32).all (fun c => runN [] 4000 (((0, ixN, .int c), true) :: FgN 6) (zAt 372)) = true := by decide +kernel
theorem k6_27 : ([24708, 24709, 24728, 24729] : List Int32).all (fun c => runN [] 4000 (((0, ixN, .int c), true) :: FgN 6) (zAt 372)) = true := by decide +kernel
theorem k6_28 : ([24730, 24760, 24761, 24762, 24763, 24829] : List Int32).all (fun c => runN [] 4000 (((0, ixN, .int c), true) :: FgN 6) (zAt 372)) = true := by decide +kernel
theorem k6_29 : ([24830, 24831, 25858] : List Int32).all (fun c => runN [] 4000 (((0, ixN, .int c), true) :: FgN 6) (zAt 372)) = true := by decide +kernel
theorem b6_0 : runN [] 900 (((2, nnN, .int 0), true) :: FcN 6) (zAt 372) = true := by decide +kernel
theorem b6_1 : runN [] 900 (((2, nnN, .int 4), false) :: ((2, nnN, .int 0), false) :: FcN 6) (zAt 372) = true := by decide +kernel
