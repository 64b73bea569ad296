/-! ===== the loop, put together: what is left is eleven of its cases ===== -/
theorem z_disp : srun ysN pF pdfl mt_all hlp kE (fun F s => atZ F s || sBack [] (zL 19) zvI F s) 400 (((2, .sub lnN (.int 6), ziT), false) :: Fi) (zL 19) = true := by decide +kernel
theorem z_exit : srun ysN pF pdfl mt_all hlp kE (fun _ s => sEndL s) 400 [((2, .sub lnN (.int 6), ziT), true)] (zL 19) = true := by decide +kernel
theorem z_ent : zinst zS zH z_a1.2.2.2.1 = true := by decide +kernel
theorem z_entv : sfnd zS zvI = some (.int 1) := by decide +kernel
theorem z_entm : sMok kE zS = true := by decide +kernel
theorem z_enth : vhold FrN zS = true := by decide +kernel
theorem z_ents : z_a1.2.2.2.2 = (zL 19).2.2.2.2 := by decide +kernel
/-- the cases that are still owed: tick, power, frame, entry, octet, state, place, bank, scratch, job, logged -/
def zOpen : List (Nat × Nat) := [(0, 31), (1, 66), (2, 122), (6, 372), (7, 426), (8, 491), (10, 581), (11, 625), (12, 680), (15, 805), (22, 1142)]
theorem zcases {L : Nat} {xs : Nat → Int32} (hL : L ≤ 3073) (h : ∀ q ∈ zOpen, ZCase L xs q.1 q.2) : ∀ q ∈ zJ, ZCase L xs q.1 q.2 := by
  intro q hq
  simp only [zJ, List.mem_cons, List.not_mem_nil, or_false] at hq
  have o : ∀ q, q ∈ zOpen → ZCase L xs q.1 q.2 := h
  rcases hq with rfl | rfl | rfl | rfl | rfl | rfl | rfl | rfl | rfl | rfl | rfl | rfl | rfl | rfl | rfl | rfl | rfl | rfl | rfl | rfl | rfl | rfl | rfl | rfl
  · exact o _ (by decide)
  · exact o _ (by decide)
  · exact o _ (by decide)
  · exact zcase_of hL zc_3
  · exact zcase_of hL zc_4
  · exact zcase_of hL zc_5
  · exact o _ (by decide)
  · exact o _ (by decide)
  · exact o _ (by decide)
  · exact zcase_of hL zc_9
  · exact o _ (by decide)
  · exact o _ (by decide)
  · exact o _ (by decide)
  · exact zcase_of hL zc_13
  · exact zcase_of hL zc_14
  · exact o _ (by decide)
  · exact zcase_of hL zc_16
  · exact zcase_of hL zc_17
  · exact zcase_of hL zc_18
  · exact zcase_of hL zc_19
  · exact zcase_of hL zc_20
  · exact zcase_of hL zc_21
  · exact o _ (by decide)
  · exact zcase_of hL zc_23
/-- the claim of the pure machine, from the cases that are still owed -/
theorem pure_cases {L : Nat} {xs : Nat → Int32} (hL : L ≤ 3073) (h : ∀ q ∈ zOpen, ZCase L xs q.1 q.2) : PURE L xs := pure_of (g_start (by omega) (g_s0 (z_enter hL z_entm z_enth z_ent z_ents z_entv (L_loop (zin hL z_disp (zcases hL h)) (zout hL z_exit) (L + 1) 1 (by omega)))))
