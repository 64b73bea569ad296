/-! ===== scripts of at most seven ints ===== -/
theorem tget_new {α : Type} {a : α} : ∀ (n k : Nat), tget n (tnew a n) k = a
  | 0, _ => rfl
  | n + 1, k => by
    by_cases h : k < 2 ^ n
    · exact (tget_l h).trans (tget_new n k)
    · exact (tget_r h).trans (tget_new n _)
section P1
variable {L : Nat} {xs : Nat → Int32}
theorem g_a7 (h6 : GL L xs (FcN 6) (zAt 372)) (h7 : GL L xs (FcN 7) (zAt 426)) : GL L xs F7N z_a1 := GL_run (fun c hc => by
  simp only [List.mem_cons, List.not_mem_nil, or_false] at hc
  rcases hc with rfl | rfl | rfl | rfl | rfl | rfl | rfl | rfl | rfl | rfl | rfl | rfl | rfl | rfl | rfl | rfl | rfl | rfl | rfl | rfl | rfl | rfl | rfl | rfl
  · exact g_tick
  · exact g_power
  · exact g_end q_2
  · exact g_end q_3
  · exact g_end q_4
  · exact g_end q_5
  · exact h6
  · exact h7
  · exact g_end q_8
  · exact g_end q_9
  · exact g_end q_10
  · exact g_end q_11
  · exact g_end q_12
  · exact g_end q_13
  · exact g_end q_14
  · exact g_end q_15
  · exact g_end q_16
  · exact g_end q_17
  · exact g_end q_18
  · exact g_end q_19
  · exact g_end q_20
  · exact g_end q_21
  · exact g_end q_22
  · exact g_end q_23) 300 q_d
theorem ln_d (ρ : sR) : (sd (pXs L xs) ρ lnN).1 = Int32.ofNat L := rfl
theorem g_a1 (hL : L ≤ 7) (h6 : GL L xs (FcN 6) (zAt 372)) (h7 : GL L xs (FcN 7) (zAt 426)) : GL L xs FrN z_a1 := fun ρ G hK hF hR => by
  have hn : (Int32.ofNat L).toInt = L := Int32.toInt_ofNat_of_lt (by omega)
  by_cases h : L = 7
  · refine g_a7 h6 h7 ρ G hK (fun f hf => ?_) hR
    rcases List.mem_cons.mp hf with rfl | hf
    · show decide ((sd (pXs L xs) ρ lnN).1 = 7) = true
      rw [ln_d, h]
      rfl
    · exact hF f hf
  · refine g_end q_x ρ G hK (fun f hf => ?_) hR
    rcases List.mem_cons.mp hf with rfl | hf
    · show decide ((sd (pXs L xs) ρ lnN).1 < 7) = true
      rw [ln_d]
      exact decide_eq_true (Int32.lt_iff_toInt_lt.mpr (by rw [hn]; show (L : Int) < 7; omega))
    · rcases List.mem_cons.mp hf with rfl | hf
      · show decide ((sd (pXs L xs) ρ lnN).1 < 0) = false
        rw [ln_d]
        exact decide_eq_false (fun h9 => by
          have := Int32.lt_iff_toInt_lt.mp h9
          rw [hn] at this
          simp at this
          omega)
      · exact hF f hf
/-- the law's entry -/
theorem g_start (hL : L < 2147483648) (h : GL L xs [((2, lnN, .int 0), false)] s0N) : PE L xs (mo_455, [(0, .retAddr 0)], [], [], 0) := by
  have hn : (Int32.ofNat L).toInt = L := Int32.toInt_ofNat_of_lt (by omega)
  have h1 := h (fun _ => 0, fun _ => 0, fun _ _ => 0, fun _ _ => 0) [] (kokN hL _) (fun f hf => by
    simp only [List.mem_cons, List.not_mem_nil, or_false] at hf
    subst hf
    show decide ((sd (pXs L xs) _ lnN).1 < 0) = false
    rw [ln_d]
    exact decide_eq_false (fun h9 => by
      have := Int32.lt_iff_toInt_lt.mp h9
      rw [hn] at this
      simp at this
      omega)) ⟨rfl, fun k e hk => by
      have hlt := hget_lt hk
      have : hget hnil k = none := by
        unfold hget hnil
        rw [if_pos hlt]
        exact tget_new 9 k
      rw [show (s0N.2.2.2.1 : sH) = hnil from rfl, this] at hk
      cases hk⟩
  exact h1 rfl
end P1
theorem pure_of {L : Nat} {xs : Nat → Int32} (h : PE L xs pSt) : PURE L xs := by
  obtain ⟨N, hN⟩ := h
  obtain ⟨n, y, o, t, h1, h2, h3, h4, h5, h6, h7⟩ := hN N (Nat.le_refl _)
  exact ⟨N, n, y, o, t, h1, h2, h3, h4, h5, h6, h7⟩
/-- one call on fresh objects, but for entry and octet -/
theorem pure_1 {L : Nat} {xs : Nat → Int32} (hL : L ≤ 7) (h6 : GL L xs (FcN 6) (zAt 372)) (h7 : GL L xs (FcN 7) (zAt 426)) : PURE L xs := pure_of (g_start (by omega) (g_s0 (g_a1 hL h6 h7)))
