set_option maxRecDepth 20000
/-! ===== all of it ===== -/
theorem zcps {L : Nat} {xs : Nat → Int32} (hL : L ≤ 3073) : ∀ q ∈ zJp, ZCP L xs q.1 q.2 := fun q hq => by
  simp only [zJp, List.mem_cons, List.not_mem_nil, or_false] at hq
  rcases hq with rfl | rfl | rfl | rfl | rfl | rfl | rfl | rfl | rfl | rfl | rfl | rfl | rfl | rfl | rfl | rfl | rfl | rfl | rfl | rfl | rfl | rfl | rfl | rfl
  · exact zcp_0 hL
  · exact zcp_1 hL
  · exact zcp_2 hL
  · exact zcp_3 hL
  · exact zcp_4 hL
  · exact zcp_5 hL
  · exact zcp_6 hL
  · exact zcp_7 hL
  · exact zcp_8 hL
  · exact zcp_9 hL
  · exact zcp_10 hL
  · exact zcp_11 hL
  · exact zcp_12 hL
  · exact zcp_13 hL
  · exact zcp_14 hL
  · exact zcp_15 hL
  · exact zcp_16 hL
  · exact zcp_17 hL
  · exact zcp_18 hL
  · exact zcp_19 hL
  · exact zcp_20 hL
  · exact zcp_21 hL
  · exact zcp_22 hL
  · exact zcp_23 hL
theorem pe_all {L : Nat} {xs : Nat → Int32} (hL : L ≤ 3073) : PE L xs (mo_455, [(0, .retAddr 0)], [], [], 0) := g_start (by omega) (ctg_s0 (z_enterT (L_loopP hL (zcps hL) L 1 (by omega))))
theorem pure_of {L : Nat} {xs : Nat → Int32} (h : PE L xs pSt) : PURE L xs := by
  obtain ⟨N, hN⟩ := h
  obtain ⟨n, y, o, t, h1, h2, h3, h4, h5, h6, h7⟩ := hN N (Nat.le_refl _)
  exact ⟨N, n, y, o, t, h1, h2, h3, h4, h5, h6, h7⟩
theorem pure_all {L : Nat} {xs : Nat → Int32} (hL : L ≤ 3073) : PURE L xs := pure_of (pe_all hL)
