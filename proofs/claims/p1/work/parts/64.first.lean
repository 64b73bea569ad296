/-! ===== the first call on fresh objects ===== -/
def xxN : sT := .op2 .iand (.elem (.string "" 0) (.int 1)) (.int 31)
def F7N : sFs := [((0, lnN, .int 7), true)] ++ FrN
def FcN (c : Nat) : sFs := ((0, xxN, .int (Int32.ofNat c)), true) :: F7N
noncomputable def zAt (j : Nat) : sS := (frL j [(4, ti 1), (3, tr 348), (2, tr 219), (1, tr 0), (0, .string "" 0)] [], [], 20, z_a1.2.2.2.1, z_a1.2.2.2.2)
theorem q_2 : runN [] 900 (FcN 2) (zAt 122) = true := by decide +kernel
theorem q_3 : runN [] 900 (FcN 3) (zAt 219) = true := by decide +kernel
theorem q_4 : runN [] 900 (FcN 4) (zAt 264) = true := by decide +kernel
theorem q_5 : runN [] 900 (FcN 5) (zAt 327) = true := by decide +kernel
theorem q_8 : runN [] 900 (FcN 8) (zAt 491) = true := by decide +kernel
theorem q_9 : runN [] 900 (FcN 9) (zAt 536) = true := by decide +kernel
theorem q_10 : runN [] 900 (FcN 10) (zAt 581) = true := by decide +kernel
theorem q_11 : runN [] 900 (FcN 11) (zAt 625) = true := by decide +kernel
theorem q_12 : runN [] 900 (FcN 12) (zAt 680) = true := by decide +kernel
theorem q_13 : runN [] 900 (FcN 13) (zAt 745) = true := by decide +kernel
theorem q_14 : runN [] 900 (FcN 14) (zAt 780) = true := by decide +kernel
theorem q_15 : runN [] 900 (FcN 15) (zAt 805) = true := by decide +kernel
theorem q_16 : runN [] 900 (FcN 16) (zAt 883) = true := by decide +kernel
theorem q_17 : runN [] 900 (FcN 17) (zAt 918) = true := by decide +kernel
theorem q_18 : runN [] 900 (FcN 18) (zAt 935) = true := by decide +kernel
theorem q_19 : runN [] 900 (FcN 19) (zAt 977) = true := by decide +kernel
theorem q_20 : runN [] 900 (FcN 20) (zAt 1052) = true := by decide +kernel
theorem q_21 : runN [] 900 (FcN 21) (zAt 1097) = true := by decide +kernel
theorem q_22 : runN [] 900 (FcN 22) (zAt 1142) = true := by decide +kernel
theorem q_23 : runN [] 900 (FcN 23) (zAt 1186) = true := by decide +kernel
theorem q_d : runN [(FcN 0, zAt 31), (FcN 1, zAt 66), (FcN 2, zAt 122), (FcN 3, zAt 219), (FcN 4, zAt 264), (FcN 5, zAt 327), (FcN 6, zAt 372), (FcN 7, zAt 426), (FcN 8, zAt 491), (FcN 9, zAt 536), (FcN 10, zAt 581), (FcN 11, zAt 625), (FcN 12, zAt 680), (FcN 13, zAt 745), (FcN 14, zAt 780), (FcN 15, zAt 805), (FcN 16, zAt 883), (FcN 17, zAt 918), (FcN 18, zAt 935), (FcN 19, zAt 977), (FcN 20, zAt 1052), (FcN 21, zAt 1097), (FcN 22, zAt 1142), (FcN 23, zAt 1186)] 300 F7N z_a1 = true := by decide +kernel
theorem q_x : runN [] 100 (((2, lnN, .int 7), true) :: ((2, lnN, .int 0), false) :: FrN) z_a1 = true := by decide +kernel
section CALL1
variable {L : Nat} {xs : Nat → Int32}
theorem g_end {F : sFs} {s : sS} {n : Nat} (h : runN [] n F s = true) : GL L xs F s := GL_run (fun c hc => by cases hc) n h
end CALL1
