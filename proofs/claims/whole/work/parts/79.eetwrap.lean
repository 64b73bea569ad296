/-! ===== the alarms' invariant by its name ===== -/
theorem al6_mem {g : Nat → Int32} {n : Int} (h : al6 g n = true) {k : Nat} (hk : (k : Int) < n) : g k ∈ [(33040 : Int32), 33072, 33088, 34321, 34322, 65281] := by
  simp only [al6, Bool.and_eq_true, decide_eq_true_eq, List.all_eq_true] at h
  have := h.2.2.1 k (List.mem_range.mpr (by omega))
  simpa using this
theorem al6_ne {g : Nat → Int32} {n : Int} (h : al6 g n = true) {j k : Nat} (hj : j < k) (hk : (k : Int) < n) : ¬ g j = g k := by
  simp only [al6, Bool.and_eq_true, decide_eq_true_eq, List.all_eq_true] at h
  have := h.2.2.2 k (List.mem_range.mpr (by omega)) j (List.mem_range.mpr hj)
  simpa using this
theorem al6_le {g : Nat → Int32} {n : Int} (h : al6 g n = true) : 0 ≤ n ∧ n ≤ 6 := by
  simp only [al6, Bool.and_eq_true, decide_eq_true_eq] at h
  exact ⟨h.1, h.2.1⟩
theorem al6_of {g : Nat → Int32} {n : Int} (h0 : 0 ≤ n) (h6 : n ≤ 6) (hm : ∀ k : Nat, (k : Int) < n → g k ∈ [(33040 : Int32), 33072, 33088, 34321, 34322, 65281]) (hn : ∀ j k : Nat, j < k → (k : Int) < n → ¬ g j = g k) : al6 g n = true := by
  simp only [al6, Bool.and_eq_true, decide_eq_true_eq, List.all_eq_true]
  refine ⟨h0, h6, fun k hk => ?_, fun k hk j hj => ?_⟩
  · have := hm k (by have := List.mem_range.mp hk; omega)
    simpa using this
  · have := hn j k (List.mem_range.mp hj) (by have := List.mem_range.mp hk; omega)
    simpa using this
theorem al_six {X : pX} {ρ : sR} {A n : Nat} (h : al6 (ρ.2.2.1 A) (ρ.1 n).toInt = true) (k : Int32) (hk : 0 ≤ k.toInt) (hg : fall X ρ [((2, .int k, .arg n), true), ((0, .elem (.arg A) (.int k), .int 33072), false), ((0, .elem (.arg A) (.int k), .int 33088), false), ((0, .elem (.arg A) (.int k), .int 34321), false), ((0, .elem (.arg A) (.int k), .int 34322), false), ((0, .elem (.arg A) (.int k), .int 65281), false)]) : sc X ρ (0, .elem (.arg A) (.int k), .int 33040) = true := by
  have h1 : k < ρ.1 n := of_decide_eq_true (hg ((2, .int k, .arg n), true) List.mem_cons_self)
  have h1 := Int32.lt_iff_toInt_lt.mp h1
  have hm := al6_mem h (k := k.toNatClampNeg) (by rw [s_nat]; omega)
  have g1 : ¬ ρ.2.2.1 A k.toNatClampNeg = 33072 := of_decide_eq_false (hg ((0, .elem (.arg A) (.int k), .int 33072), false) (by simp))
  have g2 : ¬ ρ.2.2.1 A k.toNatClampNeg = 33088 := of_decide_eq_false (hg ((0, .elem (.arg A) (.int k), .int 33088), false) (by simp))
  have g3 : ¬ ρ.2.2.1 A k.toNatClampNeg = 34321 := of_decide_eq_false (hg ((0, .elem (.arg A) (.int k), .int 34321), false) (by simp))
  have g4 : ¬ ρ.2.2.1 A k.toNatClampNeg = 34322 := of_decide_eq_false (hg ((0, .elem (.arg A) (.int k), .int 34322), false) (by simp))
  have g5 : ¬ ρ.2.2.1 A k.toNatClampNeg = 65281 := of_decide_eq_false (hg ((0, .elem (.arg A) (.int k), .int 65281), false) (by simp))
  apply decide_eq_true
  show ρ.2.2.1 A k.toNatClampNeg = 33040
  simpa [g1, g2, g3, g4, g5] using hm
theorem al_dis {X : pX} {ρ : sR} {A n : Nat} (h : al6 (ρ.2.2.1 A) (ρ.1 n).toInt = true) (j k : Int32) (hj : 0 ≤ j.toInt) (hk : j.toInt < k.toInt) (hg : fall X ρ [((2, .int k, .arg n), true)]) : sc X ρ (0, .elem (.arg A) (.int j), .elem (.arg A) (.int k)) = false := by
  have h1 : k < ρ.1 n := of_decide_eq_true (hg ((2, .int k, .arg n), true) List.mem_cons_self)
  have h1 := Int32.lt_iff_toInt_lt.mp h1
  exact decide_eq_false (al6_ne h (j := j.toNatClampNeg) (k := k.toNatClampNeg) (by rw [s_nat, s_nat]; omega) (by rw [s_nat]; omega))
/-- a contract that asks for other things before, and says other things then -/
theorem SREL_mono {X : pX} {K : sK} {Z : sH} {C : sC} {F' G' : sFs} {I' J' : sI} (h : SREL X pF pdfl mt_all K Z C) (hp : ∀ ρ : sR, fok X ρ F' → iok X ρ I' → fok X ρ C.2.2.2.1 ∧ iok X ρ C.2.2.2.2.2.2.2.1) (hq : ∀ ρ : sR, fok X ρ C.2.2.2.2.2.2.1 → iok X ρ C.2.2.2.2.2.2.2.2 → fok X ρ G' ∧ iok X ρ J') : SREL X pF pdfl mt_all K Z (C.1, C.2.1, C.2.2.1, F', C.2.2.2.2.1, C.2.2.2.2.2.1, G', (I', J')) := by
  intro ρ hK hF hI
  obtain ⟨h1, h2⟩ := hp ρ hF hI
  obtain ⟨ρ', k1, k2, k3, k4⟩ := h ρ hK h1 h2
  obtain ⟨g1, g2⟩ := hq ρ' k2 k3
  exact ⟨ρ', k1, g1, g2, k4⟩
theorem al_un0 {X : pX} {ρ : sR} (h : sc X ρ (100, .elem (.arg 2944) (.int 0), .arg 1318) = true) : iok X ρ iv_al0 := by
  have h : al6 (ρ.2.2.1 2944) (ρ.1 1318).toInt = true := h
  intro c hc
  simp only [iv_al0, List.mem_cons, List.not_mem_nil, or_false] at hc
  rcases hc with rfl | rfl | rfl | rfl | rfl | rfl | rfl | rfl | rfl | rfl | rfl | rfl | rfl | rfl | rfl | rfl | rfl | rfl | rfl | rfl | rfl
  · exact al_six h 0 (by decide)
  · exact al_six h 1 (by decide)
  · exact al_six h 2 (by decide)
  · exact al_six h 3 (by decide)
  · exact al_six h 4 (by decide)
  · exact al_six h 5 (by decide)
  · exact al_dis h 0 1 (by decide) (by decide)
  · exact al_dis h 0 2 (by decide) (by decide)
  · exact al_dis h 1 2 (by decide) (by decide)
  · exact al_dis h 0 3 (by decide) (by decide)
  · exact al_dis h 1 3 (by decide) (by decide)
  · exact al_dis h 2 3 (by decide) (by decide)
  · exact al_dis h 0 4 (by decide) (by decide)
  · exact al_dis h 1 4 (by decide) (by decide)
  · exact al_dis h 2 4 (by decide) (by decide)
  · exact al_dis h 3 4 (by decide) (by decide)
  · exact al_dis h 0 5 (by decide) (by decide)
  · exact al_dis h 1 5 (by decide) (by decide)
  · exact al_dis h 2 5 (by decide) (by decide)
  · exact al_dis h 3 5 (by decide) (by decide)
  · exact al_dis h 4 5 (by decide) (by decide)
theorem al_fo0 {X : pX} {ρ : sR} (hv : vok X ρ) (h6 : sc X ρ (2, .int 6, .arg 1318) = false) (hI : iok X ρ iv_al0) : sc X ρ (100, .elem (.arg 2944) (.int 0), .arg 1318) = true := by
  show al6 (ρ.2.2.1 2944) (ρ.1 1318).toInt = true
  have h6 : ¬ (6 : Int32) < ρ.1 1318 := of_decide_eq_false h6
  have h6 : (ρ.1 1318).toInt ≤ 6 := Int32.le_iff_toInt_le.mp (Int32.not_lt.mp h6)
  have h0 : 0 ≤ (ρ.1 1318).toInt := (hv.1 1318 (0, 8) rfl).1
  have kl : ∀ k : Int32, k.toInt < (ρ.1 1318).toInt → sc X ρ (2, .int k, .arg 1318) = true := fun k hk => decide_eq_true (Int32.lt_iff_toInt_lt.mpr hk)
  have m0 : (0 : Int) < (ρ.1 1318).toInt → ρ.2.2.1 2944 0 ∈ [(33040 : Int32), 33072, 33088, 34321, 34322, 65281] := fun hk => pg_six (fun h1 h2 h3 h4 h5 => by
    have q := hI ([((2, .int 0, .arg 1318), true), ((0, .elem (.arg 2944) (.int 0), .int 33072), false), ((0, .elem (.arg 2944) (.int 0), .int 33088), false), ((0, .elem (.arg 2944) (.int 0), .int 34321), false), ((0, .elem (.arg 2944) (.int 0), .int 34322), false), ((0, .elem (.arg 2944) (.int 0), .int 65281), false)], (0, .elem (.arg 2944) (.int 0), .int 33040), true) (show _ ∈ iv_al0 from List.mem_cons_self)
    exact of_decide_eq_true (q (fa_cons (kl 0 hk) (fa_cons (decide_eq_false h1) (fa_cons (decide_eq_false h2) (fa_cons (decide_eq_false h3) (fa_cons (decide_eq_false h4) (fa_cons (decide_eq_false h5) fa_nil))))))))
  have m1 : (1 : Int) < (ρ.1 1318).toInt → ρ.2.2.1 2944 1 ∈ [(33040 : Int32), 33072, 33088, 34321, 34322, 65281] := fun hk => pg_six (fun h1 h2 h3 h4 h5 => by
    have q := hI ([((2, .int 1, .arg 1318), true), ((0, .elem (.arg 2944) (.int 1), .int 33072), false), ((0, .elem (.arg 2944) (.int 1), .int 33088), false), ((0, .elem (.arg 2944) (.int 1), .int 34321), false), ((0, .elem (.arg 2944) (.int 1), .int 34322), false), ((0, .elem (.arg 2944) (.int 1), .int 65281), false)], (0, .elem (.arg 2944) (.int 1), .int 33040), true) (show _ ∈ iv_al0 from List.mem_cons_of_mem _ (List.mem_cons_self))
    exact of_decide_eq_true (q (fa_cons (kl 1 hk) (fa_cons (decide_eq_false h1) (fa_cons (decide_eq_false h2) (fa_cons (decide_eq_false h3) (fa_cons (decide_eq_false h4) (fa_cons (decide_eq_false h5) fa_nil))))))))
  have m2 : (2 : Int) < (ρ.1 1318).toInt → ρ.2.2.1 2944 2 ∈ [(33040 : Int32), 33072, 33088, 34321, 34322, 65281] := fun hk => pg_six (fun h1 h2 h3 h4 h5 => by
    have q := hI ([((2, .int 2, .arg 1318), true), ((0, .elem (.arg 2944) (.int 2), .int 33072), false), ((0, .elem (.arg 2944) (.int 2), .int 33088), false), ((0, .elem (.arg 2944) (.int 2), .int 34321), false), ((0, .elem (.arg 2944) (.int 2), .int 34322), false), ((0, .elem (.arg 2944) (.int 2), .int 65281), false)], (0, .elem (.arg 2944) (.int 2), .int 33040), true) (show _ ∈ iv_al0 from List.mem_cons_of_mem _ (List.mem_cons_of_mem _ (List.mem_cons_self)))
    exact of_decide_eq_true (q (fa_cons (kl 2 hk) (fa_cons (decide_eq_false h1) (fa_cons (decide_eq_false h2) (fa_cons (decide_eq_false h3) (fa_cons (decide_eq_false h4) (fa_cons (decide_eq_false h5) fa_nil))))))))
  have m3 : (3 : Int) < (ρ.1 1318).toInt → ρ.2.2.1 2944 3 ∈ [(33040 : Int32), 33072, 33088, 34321, 34322, 65281] := fun hk => pg_six (fun h1 h2 h3 h4 h5 => by
    have q := hI ([((2, .int 3, .arg 1318), true), ((0, .elem (.arg 2944) (.int 3), .int 33072), false), ((0, .elem (.arg 2944) (.int 3), .int 33088), false), ((0, .elem (.arg 2944) (.int 3), .int 34321), false), ((0, .elem (.arg 2944) (.int 3), .int 34322), false), ((0, .elem (.arg 2944) (.int 3), .int 65281), false)], (0, .elem (.arg 2944) (.int 3), .int 33040), true) (show _ ∈ iv_al0 from List.mem_cons_of_mem _ (List.mem_cons_of_mem _ (List.mem_cons_of_mem _ (List.mem_cons_self))))
    exact of_decide_eq_true (q (fa_cons (kl 3 hk) (fa_cons (decide_eq_false h1) (fa_cons (decide_eq_false h2) (fa_cons (decide_eq_false h3) (fa_cons (decide_eq_false h4) (fa_cons (decide_eq_false h5) fa_nil))))))))
  have m4 : (4 : Int) < (ρ.1 1318).toInt → ρ.2.2.1 2944 4 ∈ [(33040 : Int32), 33072, 33088, 34321, 34322, 65281] := fun hk => pg_six (fun h1 h2 h3 h4 h5 => by
    have q := hI ([((2, .int 4, .arg 1318), true), ((0, .elem (.arg 2944) (.int 4), .int 33072), false), ((0, .elem (.arg 2944) (.int 4), .int 33088), false), ((0, .elem (.arg 2944) (.int 4), .int 34321), false), ((0, .elem (.arg 2944) (.int 4), .int 34322), false), ((0, .elem (.arg 2944) (.int 4), .int 65281), false)], (0, .elem (.arg 2944) (.int 4), .int 33040), true) (show _ ∈ iv_al0 from List.mem_cons_of_mem _ (List.mem_cons_of_mem _ (List.mem_cons_of_mem _ (List.mem_cons_of_mem _ (List.mem_cons_self)))))
    exact of_decide_eq_true (q (fa_cons (kl 4 hk) (fa_cons (decide_eq_false h1) (fa_cons (decide_eq_false h2) (fa_cons (decide_eq_false h3) (fa_cons (decide_eq_false h4) (fa_cons (decide_eq_false h5) fa_nil))))))))
  have m5 : (5 : Int) < (ρ.1 1318).toInt → ρ.2.2.1 2944 5 ∈ [(33040 : Int32), 33072, 33088, 34321, 34322, 65281] := fun hk => pg_six (fun h1 h2 h3 h4 h5 => by
    have q := hI ([((2, .int 5, .arg 1318), true), ((0, .elem (.arg 2944) (.int 5), .int 33072), false), ((0, .elem (.arg 2944) (.int 5), .int 33088), false), ((0, .elem (.arg 2944) (.int 5), .int 34321), false), ((0, .elem (.arg 2944) (.int 5), .int 34322), false), ((0, .elem (.arg 2944) (.int 5), .int 65281), false)], (0, .elem (.arg 2944) (.int 5), .int 33040), true) (show _ ∈ iv_al0 from List.mem_cons_of_mem _ (List.mem_cons_of_mem _ (List.mem_cons_of_mem _ (List.mem_cons_of_mem _ (List.mem_cons_of_mem _ (List.mem_cons_self))))))
    exact of_decide_eq_true (q (fa_cons (kl 5 hk) (fa_cons (decide_eq_false h1) (fa_cons (decide_eq_false h2) (fa_cons (decide_eq_false h3) (fa_cons (decide_eq_false h4) (fa_cons (decide_eq_false h5) fa_nil))))))))
  have d0_1 : (1 : Int) < (ρ.1 1318).toInt → ¬ ρ.2.2.1 2944 0 = ρ.2.2.1 2944 1 := fun hk => by
    have q := hI ([((2, .int 1, .arg 1318), true)], (0, .elem (.arg 2944) (.int 0), .elem (.arg 2944) (.int 1)), false) (show _ ∈ iv_al0 from List.mem_cons_of_mem _ (List.mem_cons_of_mem _ (List.mem_cons_of_mem _ (List.mem_cons_of_mem _ (List.mem_cons_of_mem _ (List.mem_cons_of_mem _ (List.mem_cons_self)))))))
    exact of_decide_eq_false (q (fa_cons (kl 1 hk) fa_nil))
  have d0_2 : (2 : Int) < (ρ.1 1318).toInt → ¬ ρ.2.2.1 2944 0 = ρ.2.2.1 2944 2 := fun hk => by
    have q := hI ([((2, .int 2, .arg 1318), true)], (0, .elem (.arg 2944) (.int 0), .elem (.arg 2944) (.int 2)), false) (show _ ∈ iv_al0 from List.mem_cons_of_mem _ (List.mem_cons_of_mem _ (List.mem_cons_of_mem _ (List.mem_cons_of_mem _ (List.mem_cons_of_mem _ (List.mem_cons_of_mem _ (List.mem_cons_of_mem _ (List.mem_cons_self))))))))
    exact of_decide_eq_false (q (fa_cons (kl 2 hk) fa_nil))
  have d1_2 : (2 : Int) < (ρ.1 1318).toInt → ¬ ρ.2.2.1 2944 1 = ρ.2.2.1 2944 2 := fun hk => by
    have q := hI ([((2, .int 2, .arg 1318), true)], (0, .elem (.arg 2944) (.int 1), .elem (.arg 2944) (.int 2)), false) (show _ ∈ iv_al0 from List.mem_cons_of_mem _ (List.mem_cons_of_mem _ (List.mem_cons_of_mem _ (List.mem_cons_of_mem _ (List.mem_cons_of_mem _ (List.mem_cons_of_mem _ (List.mem_cons_of_mem _ (List.mem_cons_of_mem _ (List.mem_cons_self)))))))))
    exact of_decide_eq_false (q (fa_cons (kl 2 hk) fa_nil))
  have d0_3 : (3 : Int) < (ρ.1 1318).toInt → ¬ ρ.2.2.1 2944 0 = ρ.2.2.1 2944 3 := fun hk => by
    have q := hI ([((2, .int 3, .arg 1318), true)], (0, .elem (.arg 2944) (.int 0), .elem (.arg 2944) (.int 3)), false) (show _ ∈ iv_al0 from List.mem_cons_of_mem _ (List.mem_cons_of_mem _ (List.mem_cons_of_mem _ (List.mem_cons_of_mem _ (List.mem_cons_of_mem _ (List.mem_cons_of_mem _ (List.mem_cons_of_mem _ (List.mem_cons_of_mem _ (List.mem_cons_of_mem _ (List.mem_cons_self))))))))))
    exact of_decide_eq_false (q (fa_cons (kl 3 hk) fa_nil))
  have d1_3 : (3 : Int) < (ρ.1 1318).toInt → ¬ ρ.2.2.1 2944 1 = ρ.2.2.1 2944 3 := fun hk => by
    have q := hI ([((2, .int 3, .arg 1318), true)], (0, .elem (.arg 2944) (.int 1), .elem (.arg 2944) (.int 3)), false) (show _ ∈ iv_al0 from List.mem_cons_of_mem _ (List.mem_cons_of_mem _ (List.mem_cons_of_mem _ (List.mem_cons_of_mem _ (List.mem_cons_of_mem _ (List.mem_cons_of_mem _ (List.mem_cons_of_mem _ (List.mem_cons_of_mem _ (List.mem_cons_of_mem _ (List.mem_cons_of_mem _ (List.mem_cons_self)))))))))))
    exact of_decide_eq_false (q (fa_cons (kl 3 hk) fa_nil))
  have d2_3 : (3 : Int) < (ρ.1 1318).toInt → ¬ ρ.2.2.1 2944 2 = ρ.2.2.1 2944 3 := fun hk => by
    have q := hI ([((2, .int 3, .arg 1318), true)], (0, .elem (.arg 2944) (.int 2), .elem (.arg 2944) (.int 3)), false) (show _ ∈ iv_al0 from List.mem_cons_of_mem _ (List.mem_cons_of_mem _ (List.mem_cons_of_mem _ (List.mem_cons_of_mem _ (List.mem_cons_of_mem _ (List.mem_cons_of_mem _ (List.mem_cons_of_mem _ (List.mem_cons_of_mem _ (List.mem_cons_of_mem _ (List.mem_cons_of_mem _ (List.mem_cons_of_mem _ (List.mem_cons_self))))))))))))
    exact of_decide_eq_false (q (fa_cons (kl 3 hk) fa_nil))
  have d0_4 : (4 : Int) < (ρ.1 1318).toInt → ¬ ρ.2.2.1 2944 0 = ρ.2.2.1 2944 4 := fun hk => by
    have q := hI ([((2, .int 4, .arg 1318), true)], (0, .elem (.arg 2944) (.int 0), .elem (.arg 2944) (.int 4)), false) (show _ ∈ iv_al0 from List.mem_cons_of_mem _ (List.mem_cons_of_mem _ (List.mem_cons_of_mem _ (List.mem_cons_of_mem _ (List.mem_cons_of_mem _ (List.mem_cons_of_mem _ (List.mem_cons_of_mem _ (List.mem_cons_of_mem _ (List.mem_cons_of_mem _ (List.mem_cons_of_mem _ (List.mem_cons_of_mem _ (List.mem_cons_of_mem _ (List.mem_cons_self)))))))))))))
    exact of_decide_eq_false (q (fa_cons (kl 4 hk) fa_nil))
  have d1_4 : (4 : Int) < (ρ.1 1318).toInt → ¬ ρ.2.2.1 2944 1 = ρ.2.2.1 2944 4 := fun hk => by
    have q := hI ([((2, .int 4, .arg 1318), true)], (0, .elem (.arg 2944) (.int 1), .elem (.arg 2944) (.int 4)), false) (show _ ∈ iv_al0 from List.mem_cons_of_mem _ (List.mem_cons_of_mem _ (List.mem_cons_of_mem _ (List.mem_cons_of_mem _ (List.mem_cons_of_mem _ (List.mem_cons_of_mem _ (List.mem_cons_of_mem _ (List.mem_cons_of_mem _ (List.mem_cons_of_mem _ (List.mem_cons_of_mem _ (List.mem_cons_of_mem _ (List.mem_cons_of_mem _ (List.mem_cons_of_mem _ (List.mem_cons_self))))))))))))))
    exact of_decide_eq_false (q (fa_cons (kl 4 hk) fa_nil))
  have d2_4 : (4 : Int) < (ρ.1 1318).toInt → ¬ ρ.2.2.1 2944 2 = ρ.2.2.1 2944 4 := fun hk => by
    have q := hI ([((2, .int 4, .arg 1318), true)], (0, .elem (.arg 2944) (.int 2), .elem (.arg 2944) (.int 4)), false) (show _ ∈ iv_al0 from List.mem_cons_of_mem _ (List.mem_cons_of_mem _ (List.mem_cons_of_mem _ (List.mem_cons_of_mem _ (List.mem_cons_of_mem _ (List.mem_cons_of_mem _ (List.mem_cons_of_mem _ (List.mem_cons_of_mem _ (List.mem_cons_of_mem _ (List.mem_cons_of_mem _ (List.mem_cons_of_mem _ (List.mem_cons_of_mem _ (List.mem_cons_of_mem _ (List.mem_cons_of_mem _ (List.mem_cons_self)))))))))))))))
    exact of_decide_eq_false (q (fa_cons (kl 4 hk) fa_nil))
  have d3_4 : (4 : Int) < (ρ.1 1318).toInt → ¬ ρ.2.2.1 2944 3 = ρ.2.2.1 2944 4 := fun hk => by
    have q := hI ([((2, .int 4, .arg 1318), true)], (0, .elem (.arg 2944) (.int 3), .elem (.arg 2944) (.int 4)), false) (show _ ∈ iv_al0 from List.mem_cons_of_mem _ (List.mem_cons_of_mem _ (List.mem_cons_of_mem _ (List.mem_cons_of_mem _ (List.mem_cons_of_mem _ (List.mem_cons_of_mem _ (List.mem_cons_of_mem _ (List.mem_cons_of_mem _ (List.mem_cons_of_mem _ (List.mem_cons_of_mem _ (List.mem_cons_of_mem _ (List.mem_cons_of_mem _ (List.mem_cons_of_mem _ (List.mem_cons_of_mem _ (List.mem_cons_of_mem _ (List.mem_cons_self))))))))))))))))
    exact of_decide_eq_false (q (fa_cons (kl 4 hk) fa_nil))
  have d0_5 : (5 : Int) < (ρ.1 1318).toInt → ¬ ρ.2.2.1 2944 0 = ρ.2.2.1 2944 5 := fun hk => by
    have q := hI ([((2, .int 5, .arg 1318), true)], (0, .elem (.arg 2944) (.int 0), .elem (.arg 2944) (.int 5)), false) (show _ ∈ iv_al0 from List.mem_cons_of_mem _ (List.mem_cons_of_mem _ (List.mem_cons_of_mem _ (List.mem_cons_of_mem _ (List.mem_cons_of_mem _ (List.mem_cons_of_mem _ (List.mem_cons_of_mem _ (List.mem_cons_of_mem _ (List.mem_cons_of_mem _ (List.mem_cons_of_mem _ (List.mem_cons_of_mem _ (List.mem_cons_of_mem _ (List.mem_cons_of_mem _ (List.mem_cons_of_mem _ (List.mem_cons_of_mem _ (List.mem_cons_of_mem _ (List.mem_cons_self)))))))))))))))))
    exact of_decide_eq_false (q (fa_cons (kl 5 hk) fa_nil))
  have d1_5 : (5 : Int) < (ρ.1 1318).toInt → ¬ ρ.2.2.1 2944 1 = ρ.2.2.1 2944 5 := fun hk => by
    have q := hI ([((2, .int 5, .arg 1318), true)], (0, .elem (.arg 2944) (.int 1), .elem (.arg 2944) (.int 5)), false) (show _ ∈ iv_al0 from List.mem_cons_of_mem _ (List.mem_cons_of_mem _ (List.mem_cons_of_mem _ (List.mem_cons_of_mem _ (List.mem_cons_of_mem _ (List.mem_cons_of_mem _ (List.mem_cons_of_mem _ (List.mem_cons_of_mem _ (List.mem_cons_of_mem _ (List.mem_cons_of_mem _ (List.mem_cons_of_mem _ (List.mem_cons_of_mem _ (List.mem_cons_of_mem _ (List.mem_cons_of_mem _ (List.mem_cons_of_mem _ (List.mem_cons_of_mem _ (List.mem_cons_of_mem _ (List.mem_cons_self))))))))))))))))))
    exact of_decide_eq_false (q (fa_cons (kl 5 hk) fa_nil))
  have d2_5 : (5 : Int) < (ρ.1 1318).toInt → ¬ ρ.2.2.1 2944 2 = ρ.2.2.1 2944 5 := fun hk => by
    have q := hI ([((2, .int 5, .arg 1318), true)], (0, .elem (.arg 2944) (.int 2), .elem (.arg 2944) (.int 5)), false) (show _ ∈ iv_al0 from List.mem_cons_of_mem _ (List.mem_cons_of_mem _ (List.mem_cons_of_mem _ (List.mem_cons_of_mem _ (List.mem_cons_of_mem _ (List.mem_cons_of_mem _ (List.mem_cons_of_mem _ (List.mem_cons_of_mem _ (List.mem_cons_of_mem _ (List.mem_cons_of_mem _ (List.mem_cons_of_mem _ (List.mem_cons_of_mem _ (List.mem_cons_of_mem _ (List.mem_cons_of_mem _ (List.mem_cons_of_mem _ (List.mem_cons_of_mem _ (List.mem_cons_of_mem _ (List.mem_cons_of_mem _ (List.mem_cons_self)))))))))))))))))))
    exact of_decide_eq_false (q (fa_cons (kl 5 hk) fa_nil))
  have d3_5 : (5 : Int) < (ρ.1 1318).toInt → ¬ ρ.2.2.1 2944 3 = ρ.2.2.1 2944 5 := fun hk => by
    have q := hI ([((2, .int 5, .arg 1318), true)], (0, .elem (.arg 2944) (.int 3), .elem (.arg 2944) (.int 5)), false) (show _ ∈ iv_al0 from List.mem_cons_of_mem _ (List.mem_cons_of_mem _ (List.mem_cons_of_mem _ (List.mem_cons_of_mem _ (List.mem_cons_of_mem _ (List.mem_cons_of_mem _ (List.mem_cons_of_mem _ (List.mem_cons_of_mem _ (List.mem_cons_of_mem _ (List.mem_cons_of_mem _ (List.mem_cons_of_mem _ (List.mem_cons_of_mem _ (List.mem_cons_of_mem _ (List.mem_cons_of_mem _ (List.mem_cons_of_mem _ (List.mem_cons_of_mem _ (List.mem_cons_of_mem _ (List.mem_cons_of_mem _ (List.mem_cons_of_mem _ (List.mem_cons_self))))))))))))))))))))
    exact of_decide_eq_false (q (fa_cons (kl 5 hk) fa_nil))
  have d4_5 : (5 : Int) < (ρ.1 1318).toInt → ¬ ρ.2.2.1 2944 4 = ρ.2.2.1 2944 5 := fun hk => by
    have q := hI ([((2, .int 5, .arg 1318), true)], (0, .elem (.arg 2944) (.int 4), .elem (.arg 2944) (.int 5)), false) (show _ ∈ iv_al0 from List.mem_cons_of_mem _ (List.mem_cons_of_mem _ (List.mem_cons_of_mem _ (List.mem_cons_of_mem _ (List.mem_cons_of_mem _ (List.mem_cons_of_mem _ (List.mem_cons_of_mem _ (List.mem_cons_of_mem _ (List.mem_cons_of_mem _ (List.mem_cons_of_mem _ (List.mem_cons_of_mem _ (List.mem_cons_of_mem _ (List.mem_cons_of_mem _ (List.mem_cons_of_mem _ (List.mem_cons_of_mem _ (List.mem_cons_of_mem _ (List.mem_cons_of_mem _ (List.mem_cons_of_mem _ (List.mem_cons_of_mem _ (List.mem_cons_of_mem _ (List.mem_cons_self)))))))))))))))))))))
    exact of_decide_eq_false (q (fa_cons (kl 5 hk) fa_nil))
  refine al6_of h0 h6 (fun k hk => ?_) (fun j k hj hk => ?_)
  · have hk6 : k < 6 := by omega
    match k, hk6, hk with
    | 0, _, hk => exact m0 hk
    | 1, _, hk => exact m1 hk
    | 2, _, hk => exact m2 hk
    | 3, _, hk => exact m3 hk
    | 4, _, hk => exact m4 hk
    | 5, _, hk => exact m5 hk
  · have hk6 : k < 6 := by omega
    match k, hk6, hk, j, hj with
    | 1, _, hk, 0, _ => exact d0_1 hk
    | 2, _, hk, 0, _ => exact d0_2 hk
    | 2, _, hk, 1, _ => exact d1_2 hk
    | 3, _, hk, 0, _ => exact d0_3 hk
    | 3, _, hk, 1, _ => exact d1_3 hk
    | 3, _, hk, 2, _ => exact d2_3 hk
    | 4, _, hk, 0, _ => exact d0_4 hk
    | 4, _, hk, 1, _ => exact d1_4 hk
    | 4, _, hk, 2, _ => exact d2_4 hk
    | 4, _, hk, 3, _ => exact d3_4 hk
    | 5, _, hk, 0, _ => exact d0_5 hk
    | 5, _, hk, 1, _ => exact d1_5 hk
    | 5, _, hk, 2, _ => exact d2_5 hk
    | 5, _, hk, 3, _ => exact d3_5 hk
    | 5, _, hk, 4, _ => exact d4_5 hk
noncomputable def c_resetn0 : sC := (c_reset0.1, c_reset0.2.1, c_reset0.2.2.1, [((100, .elem (.arg 2944) (.int 0), .arg 1318), true), ((104, .add (.arg 6625) (.add (.arg 7041) (.elem (.arg 2944) (.int 0))), .arg 1318), true)], c_reset0.2.2.2.2.1, c_reset0.2.2.2.2.2.1, [((100, .elem (.arg 2944) (.int 0), .arg 1318), true), ((104, .add (.arg 6625) (.add (.arg 7041) (.elem (.arg 2944) (.int 0))), .arg 1318), true), ((0, .arg 20192, .int 1), true)], ([], []))
theorem s_resetn0 {X : pX} : SREL X pF pdfl mt_all kR zVQ c_resetn0 := SREL_mono s_reset0
  (fun ρ hF _ => by
    have h : sc X ρ (100, .elem (.arg 2944) (.int 0), .arg 1318) = true := hF.2 _ List.mem_cons_self
    have h2 : al6 (ρ.2.2.1 2944) (ρ.1 1318).toInt = true := h
    exact ⟨⟨hF.1, fa_cons (decide_eq_false (Int32.not_lt.mpr (Int32.le_iff_toInt_le.mpr (al6_le h2).2))) (fun f hf => hF.2 f (List.mem_cons_of_mem _ hf))⟩, al_un0 h⟩)
  (fun ρ hF hI => ⟨⟨hF.1, fa_cons (al_fo0 hF.1 (hF.2 _ List.mem_cons_self) hI) (fun f hf => hF.2 f (List.mem_cons_of_mem _ hf))⟩, fun c hc => by cases hc⟩)
noncomputable def c_raizn0 : sC := (c_raiz0.1, c_raiz0.2.1, c_raiz0.2.2.1, [((100, .elem (.arg 2944) (.int 0), .arg 1318), true), ((104, .add (.arg 6625) (.add (.arg 7041) (.elem (.arg 2944) (.int 0))), .arg 1318), true), ((2, .arg 2816, .int 1), false), ((2, .int 7, .arg 2816), false), ((6, .arg 7041, .arg 8545), true), ((0, .arg 2816, .arg 60160), true)], c_raiz0.2.2.2.2.1, c_raiz0.2.2.2.2.2.1, [((100, .elem (.arg 2944) (.int 0), .arg 1318), true), ((104, .add (.arg 6625) (.add (.arg 7041) (.elem (.arg 2944) (.int 0))), .arg 1318), true), ((2, .arg 2816, .int 1), false), ((2, .int 7, .arg 2816), false), ((6, .arg 7041, .arg 8545), true)], ([([((0, .arg 2816, .int 4), true)], (0, .arg 3232, .arg 1340), true), ([((0, .arg 2816, .int 4), false)], (0, .arg 1340, .int 0), true), ([((0, .arg 2816, .int 4), true)], (0, .arg 64000, .int 4), true), ([((0, .arg 60000, .int 33072), false), ((0, .arg 60000, .int 33088), false), ((0, .arg 60000, .int 34321), false), ((0, .arg 60000, .int 34322), false), ((0, .arg 60000, .int 65281), false)], (0, .arg 60000, .int 33040), true)], [([((0, .arg 2816, .int 4), true)], (0, .arg 3232, .arg 1340), true), ([((0, .arg 2816, .int 4), false)], (0, .arg 1340, .int 0), true), ([((0, .arg 2816, .int 4), true)], (0, .arg 64000, .int 4), true), ([((2, .arg 60160, .int 4), false), ((2, .int 6, .arg 60160), false)], (2, .int 3, .arg 2816), true), ([((2, .arg 60160, .int 4), false), ((2, .int 6, .arg 60160), false)], (2, .arg 2816, .int 7), true), ([((0, .arg 2816, .int 4), true)], (0, .arg 60160, .int 4), true)]))
theorem s_raizn0 {X : pX} : SREL X pF pdfl mt_all kR zVS c_raizn0 := SREL_mono s_raiz0
  (fun ρ hF hI => by
    have h : sc X ρ (100, .elem (.arg 2944) (.int 0), .arg 1318) = true := hF.2 _ List.mem_cons_self
    have h2 : al6 (ρ.2.2.1 2944) (ρ.1 1318).toInt = true := h
    exact ⟨⟨hF.1, fa_cons (decide_eq_false (Int32.not_lt.mpr (Int32.le_iff_toInt_le.mpr (al6_le h2).2))) (fun f hf => hF.2 f (List.mem_cons_of_mem _ hf))⟩, fun c hc => by
      rcases List.mem_append.mp hc with hc | hc
      · exact al_un0 h c hc
      · exact hI c hc⟩)
  (fun ρ hF hI => ⟨⟨hF.1, fa_cons (al_fo0 hF.1 (hF.2 _ List.mem_cons_self) (fun c hc => hI c (List.mem_append_left _ hc))) (fun f hf => hF.2 f (List.mem_cons_of_mem _ hf))⟩, fun c hc => hI c (List.mem_append_right _ hc)⟩)
