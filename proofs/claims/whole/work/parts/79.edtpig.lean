/-! ===== six codes, each at most once ===== -/
theorem pg_len : ∀ {l s : List Int32}, l.Nodup → (∀ x ∈ l, x ∈ s) → l.length ≤ s.length
  | [], _, _, _ => Nat.zero_le _
  | x :: r, s, hn, hs => by
    have hx := hs x List.mem_cons_self
    have hn' := List.nodup_cons.mp hn
    have h := pg_len (l := r) (s := s.erase x) hn'.2 (fun y hy => (List.mem_erase_of_ne (fun (e : y = x) => hn'.1 (e ▸ hy))).mpr (hs y (List.mem_cons_of_mem _ hy)))
    rw [List.length_erase_of_mem hx] at h
    have : 0 < s.length := List.length_pos_of_mem hx
    simp only [List.length_cons]
    omega
theorem pg_six {x : Int32} (h : ¬ x = 33072 → ¬ x = 33088 → ¬ x = 34321 → ¬ x = 34322 → ¬ x = 65281 → x = 33040) : x ∈ [(33040 : Int32), 33072, 33088, 34321, 34322, 65281] := by
  by_cases h1 : x = 33072
  · simp [h1]
  by_cases h2 : x = 33088
  · simp [h2]
  by_cases h3 : x = 34321
  · simp [h3]
  by_cases h4 : x = 34322
  · simp [h4]
  by_cases h5 : x = 65281
  · simp [h5]
  simp [h h1 h2 h3 h4 h5]
theorem fa_nil {X : pX} {ρ : sR} : fall X ρ [] := fun f hf => by cases hf
theorem fa_cons {X : pX} {ρ : sR} {f : sQ × Bool} {r : sFs} (h : sc X ρ f.1 = f.2) (hr : fall X ρ r) : fall X ρ (f :: r) := fun g hg => by
  rcases List.mem_cons.mp hg with e | hg
  · rw [e]; exact h
  · exact hr g hg
/-- a contract that asks for less before -/
theorem SREL_pre {X : pX} {K : sK} {Z : sH} {C : sC} {iv' : sI} (h : SREL X pF pdfl mt_all K Z C) (himp : ∀ ρ : sR, fok X ρ C.2.2.2.1 → iok X ρ iv' → iok X ρ C.2.2.2.2.2.2.2.1) : SREL X pF pdfl mt_all K Z (C.1, C.2.1, C.2.2.1, C.2.2.2.1, C.2.2.2.2.1, C.2.2.2.2.2.1, C.2.2.2.2.2.2.1, (iv', C.2.2.2.2.2.2.2.2)) :=
  fun ρ hK hF hI => h ρ hK hF (himp ρ hF hI)
theorem pig0 {X : pX} {ρ : sR} (hF : fok X ρ c_raise0.2.2.2.1) (hI : iok X ρ iv_ra0) : iok X ρ iv_rb0 := by
  intro c hc
  rcases List.mem_append.mp hc with hc | hc
  · exact hI c hc
  rw [List.mem_singleton.mp hc]
  intro hg
  have f6 : sc X ρ (2, .int 6, .arg 1318) = false := hF.2 ((2, .int 6, .arg 1318), false) List.mem_cons_self
  show decide (ρ.1 1318 < 6) = true
  by_cases hlt : ρ.1 1318 < 6
  · exact decide_eq_true hlt
  exfalso
  have hge : (6 : Int32) ≤ ρ.1 1318 := Int32.not_lt.mp hlt
  have kl : ∀ k : Int32, k < 6 → sc X ρ (2, .int k, .arg 1318) = true := fun k hk => decide_eq_true (Int32.lt_of_lt_of_le hk hge)
  have m0 : (sd X ρ (.elem (.arg 2944) (.int 0))).1 ∈ [(33040 : Int32), 33072, 33088, 34321, 34322, 65281] := pg_six (fun h1 h2 h3 h4 h5 => by
    have q := hI ([((2, .int 0, .arg 1318), true), ((0, .elem (.arg 2944) (.int 0), .int 33072), false), ((0, .elem (.arg 2944) (.int 0), .int 33088), false), ((0, .elem (.arg 2944) (.int 0), .int 34321), false), ((0, .elem (.arg 2944) (.int 0), .int 34322), false), ((0, .elem (.arg 2944) (.int 0), .int 65281), false)], (0, .elem (.arg 2944) (.int 0), .int 33040), true) (List.mem_append_left _ (show _ ∈ iv_al0 from List.mem_cons_self))
    exact of_decide_eq_true (q (fa_cons (kl 0 (by decide)) (fa_cons (decide_eq_false h1) (fa_cons (decide_eq_false h2) (fa_cons (decide_eq_false h3) (fa_cons (decide_eq_false h4) (fa_cons (decide_eq_false h5) fa_nil))))))))
  have m1 : (sd X ρ (.elem (.arg 2944) (.int 1))).1 ∈ [(33040 : Int32), 33072, 33088, 34321, 34322, 65281] := pg_six (fun h1 h2 h3 h4 h5 => by
    have q := hI ([((2, .int 1, .arg 1318), true), ((0, .elem (.arg 2944) (.int 1), .int 33072), false), ((0, .elem (.arg 2944) (.int 1), .int 33088), false), ((0, .elem (.arg 2944) (.int 1), .int 34321), false), ((0, .elem (.arg 2944) (.int 1), .int 34322), false), ((0, .elem (.arg 2944) (.int 1), .int 65281), false)], (0, .elem (.arg 2944) (.int 1), .int 33040), true) (List.mem_append_left _ (show _ ∈ iv_al0 from List.mem_cons_of_mem _ (List.mem_cons_self)))
    exact of_decide_eq_true (q (fa_cons (kl 1 (by decide)) (fa_cons (decide_eq_false h1) (fa_cons (decide_eq_false h2) (fa_cons (decide_eq_false h3) (fa_cons (decide_eq_false h4) (fa_cons (decide_eq_false h5) fa_nil))))))))
  have m2 : (sd X ρ (.elem (.arg 2944) (.int 2))).1 ∈ [(33040 : Int32), 33072, 33088, 34321, 34322, 65281] := pg_six (fun h1 h2 h3 h4 h5 => by
    have q := hI ([((2, .int 2, .arg 1318), true), ((0, .elem (.arg 2944) (.int 2), .int 33072), false), ((0, .elem (.arg 2944) (.int 2), .int 33088), false), ((0, .elem (.arg 2944) (.int 2), .int 34321), false), ((0, .elem (.arg 2944) (.int 2), .int 34322), false), ((0, .elem (.arg 2944) (.int 2), .int 65281), false)], (0, .elem (.arg 2944) (.int 2), .int 33040), true) (List.mem_append_left _ (show _ ∈ iv_al0 from List.mem_cons_of_mem _ (List.mem_cons_of_mem _ (List.mem_cons_self))))
    exact of_decide_eq_true (q (fa_cons (kl 2 (by decide)) (fa_cons (decide_eq_false h1) (fa_cons (decide_eq_false h2) (fa_cons (decide_eq_false h3) (fa_cons (decide_eq_false h4) (fa_cons (decide_eq_false h5) fa_nil))))))))
  have m3 : (sd X ρ (.elem (.arg 2944) (.int 3))).1 ∈ [(33040 : Int32), 33072, 33088, 34321, 34322, 65281] := pg_six (fun h1 h2 h3 h4 h5 => by
    have q := hI ([((2, .int 3, .arg 1318), true), ((0, .elem (.arg 2944) (.int 3), .int 33072), false), ((0, .elem (.arg 2944) (.int 3), .int 33088), false), ((0, .elem (.arg 2944) (.int 3), .int 34321), false), ((0, .elem (.arg 2944) (.int 3), .int 34322), false), ((0, .elem (.arg 2944) (.int 3), .int 65281), false)], (0, .elem (.arg 2944) (.int 3), .int 33040), true) (List.mem_append_left _ (show _ ∈ iv_al0 from List.mem_cons_of_mem _ (List.mem_cons_of_mem _ (List.mem_cons_of_mem _ (List.mem_cons_self)))))
    exact of_decide_eq_true (q (fa_cons (kl 3 (by decide)) (fa_cons (decide_eq_false h1) (fa_cons (decide_eq_false h2) (fa_cons (decide_eq_false h3) (fa_cons (decide_eq_false h4) (fa_cons (decide_eq_false h5) fa_nil))))))))
  have m4 : (sd X ρ (.elem (.arg 2944) (.int 4))).1 ∈ [(33040 : Int32), 33072, 33088, 34321, 34322, 65281] := pg_six (fun h1 h2 h3 h4 h5 => by
    have q := hI ([((2, .int 4, .arg 1318), true), ((0, .elem (.arg 2944) (.int 4), .int 33072), false), ((0, .elem (.arg 2944) (.int 4), .int 33088), false), ((0, .elem (.arg 2944) (.int 4), .int 34321), false), ((0, .elem (.arg 2944) (.int 4), .int 34322), false), ((0, .elem (.arg 2944) (.int 4), .int 65281), false)], (0, .elem (.arg 2944) (.int 4), .int 33040), true) (List.mem_append_left _ (show _ ∈ iv_al0 from List.mem_cons_of_mem _ (List.mem_cons_of_mem _ (List.mem_cons_of_mem _ (List.mem_cons_of_mem _ (List.mem_cons_self))))))
    exact of_decide_eq_true (q (fa_cons (kl 4 (by decide)) (fa_cons (decide_eq_false h1) (fa_cons (decide_eq_false h2) (fa_cons (decide_eq_false h3) (fa_cons (decide_eq_false h4) (fa_cons (decide_eq_false h5) fa_nil))))))))
  have m5 : (sd X ρ (.elem (.arg 2944) (.int 5))).1 ∈ [(33040 : Int32), 33072, 33088, 34321, 34322, 65281] := pg_six (fun h1 h2 h3 h4 h5 => by
    have q := hI ([((2, .int 5, .arg 1318), true), ((0, .elem (.arg 2944) (.int 5), .int 33072), false), ((0, .elem (.arg 2944) (.int 5), .int 33088), false), ((0, .elem (.arg 2944) (.int 5), .int 34321), false), ((0, .elem (.arg 2944) (.int 5), .int 34322), false), ((0, .elem (.arg 2944) (.int 5), .int 65281), false)], (0, .elem (.arg 2944) (.int 5), .int 33040), true) (List.mem_append_left _ (show _ ∈ iv_al0 from List.mem_cons_of_mem _ (List.mem_cons_of_mem _ (List.mem_cons_of_mem _ (List.mem_cons_of_mem _ (List.mem_cons_of_mem _ (List.mem_cons_self)))))))
    exact of_decide_eq_true (q (fa_cons (kl 5 (by decide)) (fa_cons (decide_eq_false h1) (fa_cons (decide_eq_false h2) (fa_cons (decide_eq_false h3) (fa_cons (decide_eq_false h4) (fa_cons (decide_eq_false h5) fa_nil))))))))
  have d0_1 : ¬ (sd X ρ (.elem (.arg 2944) (.int 0))).1 = (sd X ρ (.elem (.arg 2944) (.int 1))).1 := by
    have q := hI ([((2, .int 1, .arg 1318), true)], (0, .elem (.arg 2944) (.int 0), .elem (.arg 2944) (.int 1)), false) (List.mem_append_left _ (show _ ∈ iv_al0 from List.mem_cons_of_mem _ (List.mem_cons_of_mem _ (List.mem_cons_of_mem _ (List.mem_cons_of_mem _ (List.mem_cons_of_mem _ (List.mem_cons_of_mem _ (List.mem_cons_self))))))))
    exact of_decide_eq_false (q (fa_cons (kl 1 (by decide)) fa_nil))
  have d0_2 : ¬ (sd X ρ (.elem (.arg 2944) (.int 0))).1 = (sd X ρ (.elem (.arg 2944) (.int 2))).1 := by
    have q := hI ([((2, .int 2, .arg 1318), true)], (0, .elem (.arg 2944) (.int 0), .elem (.arg 2944) (.int 2)), false) (List.mem_append_left _ (show _ ∈ iv_al0 from List.mem_cons_of_mem _ (List.mem_cons_of_mem _ (List.mem_cons_of_mem _ (List.mem_cons_of_mem _ (List.mem_cons_of_mem _ (List.mem_cons_of_mem _ (List.mem_cons_of_mem _ (List.mem_cons_self)))))))))
    exact of_decide_eq_false (q (fa_cons (kl 2 (by decide)) fa_nil))
  have d1_2 : ¬ (sd X ρ (.elem (.arg 2944) (.int 1))).1 = (sd X ρ (.elem (.arg 2944) (.int 2))).1 := by
    have q := hI ([((2, .int 2, .arg 1318), true)], (0, .elem (.arg 2944) (.int 1), .elem (.arg 2944) (.int 2)), false) (List.mem_append_left _ (show _ ∈ iv_al0 from List.mem_cons_of_mem _ (List.mem_cons_of_mem _ (List.mem_cons_of_mem _ (List.mem_cons_of_mem _ (List.mem_cons_of_mem _ (List.mem_cons_of_mem _ (List.mem_cons_of_mem _ (List.mem_cons_of_mem _ (List.mem_cons_self))))))))))
    exact of_decide_eq_false (q (fa_cons (kl 2 (by decide)) fa_nil))
  have d0_3 : ¬ (sd X ρ (.elem (.arg 2944) (.int 0))).1 = (sd X ρ (.elem (.arg 2944) (.int 3))).1 := by
    have q := hI ([((2, .int 3, .arg 1318), true)], (0, .elem (.arg 2944) (.int 0), .elem (.arg 2944) (.int 3)), false) (List.mem_append_left _ (show _ ∈ iv_al0 from List.mem_cons_of_mem _ (List.mem_cons_of_mem _ (List.mem_cons_of_mem _ (List.mem_cons_of_mem _ (List.mem_cons_of_mem _ (List.mem_cons_of_mem _ (List.mem_cons_of_mem _ (List.mem_cons_of_mem _ (List.mem_cons_of_mem _ (List.mem_cons_self)))))))))))
    exact of_decide_eq_false (q (fa_cons (kl 3 (by decide)) fa_nil))
  have d1_3 : ¬ (sd X ρ (.elem (.arg 2944) (.int 1))).1 = (sd X ρ (.elem (.arg 2944) (.int 3))).1 := by
    have q := hI ([((2, .int 3, .arg 1318), true)], (0, .elem (.arg 2944) (.int 1), .elem (.arg 2944) (.int 3)), false) (List.mem_append_left _ (show _ ∈ iv_al0 from List.mem_cons_of_mem _ (List.mem_cons_of_mem _ (List.mem_cons_of_mem _ (List.mem_cons_of_mem _ (List.mem_cons_of_mem _ (List.mem_cons_of_mem _ (List.mem_cons_of_mem _ (List.mem_cons_of_mem _ (List.mem_cons_of_mem _ (List.mem_cons_of_mem _ (List.mem_cons_self))))))))))))
    exact of_decide_eq_false (q (fa_cons (kl 3 (by decide)) fa_nil))
  have d2_3 : ¬ (sd X ρ (.elem (.arg 2944) (.int 2))).1 = (sd X ρ (.elem (.arg 2944) (.int 3))).1 := by
    have q := hI ([((2, .int 3, .arg 1318), true)], (0, .elem (.arg 2944) (.int 2), .elem (.arg 2944) (.int 3)), false) (List.mem_append_left _ (show _ ∈ iv_al0 from List.mem_cons_of_mem _ (List.mem_cons_of_mem _ (List.mem_cons_of_mem _ (List.mem_cons_of_mem _ (List.mem_cons_of_mem _ (List.mem_cons_of_mem _ (List.mem_cons_of_mem _ (List.mem_cons_of_mem _ (List.mem_cons_of_mem _ (List.mem_cons_of_mem _ (List.mem_cons_of_mem _ (List.mem_cons_self)))))))))))))
    exact of_decide_eq_false (q (fa_cons (kl 3 (by decide)) fa_nil))
  have d0_4 : ¬ (sd X ρ (.elem (.arg 2944) (.int 0))).1 = (sd X ρ (.elem (.arg 2944) (.int 4))).1 := by
    have q := hI ([((2, .int 4, .arg 1318), true)], (0, .elem (.arg 2944) (.int 0), .elem (.arg 2944) (.int 4)), false) (List.mem_append_left _ (show _ ∈ iv_al0 from List.mem_cons_of_mem _ (List.mem_cons_of_mem _ (List.mem_cons_of_mem _ (List.mem_cons_of_mem _ (List.mem_cons_of_mem _ (List.mem_cons_of_mem _ (List.mem_cons_of_mem _ (List.mem_cons_of_mem _ (List.mem_cons_of_mem _ (List.mem_cons_of_mem _ (List.mem_cons_of_mem _ (List.mem_cons_of_mem _ (List.mem_cons_self))))))))))))))
    exact of_decide_eq_false (q (fa_cons (kl 4 (by decide)) fa_nil))
  have d1_4 : ¬ (sd X ρ (.elem (.arg 2944) (.int 1))).1 = (sd X ρ (.elem (.arg 2944) (.int 4))).1 := by
    have q := hI ([((2, .int 4, .arg 1318), true)], (0, .elem (.arg 2944) (.int 1), .elem (.arg 2944) (.int 4)), false) (List.mem_append_left _ (show _ ∈ iv_al0 from List.mem_cons_of_mem _ (List.mem_cons_of_mem _ (List.mem_cons_of_mem _ (List.mem_cons_of_mem _ (List.mem_cons_of_mem _ (List.mem_cons_of_mem _ (List.mem_cons_of_mem _ (List.mem_cons_of_mem _ (List.mem_cons_of_mem _ (List.mem_cons_of_mem _ (List.mem_cons_of_mem _ (List.mem_cons_of_mem _ (List.mem_cons_of_mem _ (List.mem_cons_self)))))))))))))))
    exact of_decide_eq_false (q (fa_cons (kl 4 (by decide)) fa_nil))
  have d2_4 : ¬ (sd X ρ (.elem (.arg 2944) (.int 2))).1 = (sd X ρ (.elem (.arg 2944) (.int 4))).1 := by
    have q := hI ([((2, .int 4, .arg 1318), true)], (0, .elem (.arg 2944) (.int 2), .elem (.arg 2944) (.int 4)), false) (List.mem_append_left _ (show _ ∈ iv_al0 from List.mem_cons_of_mem _ (List.mem_cons_of_mem _ (List.mem_cons_of_mem _ (List.mem_cons_of_mem _ (List.mem_cons_of_mem _ (List.mem_cons_of_mem _ (List.mem_cons_of_mem _ (List.mem_cons_of_mem _ (List.mem_cons_of_mem _ (List.mem_cons_of_mem _ (List.mem_cons_of_mem _ (List.mem_cons_of_mem _ (List.mem_cons_of_mem _ (List.mem_cons_of_mem _ (List.mem_cons_self))))))))))))))))
    exact of_decide_eq_false (q (fa_cons (kl 4 (by decide)) fa_nil))
  have d3_4 : ¬ (sd X ρ (.elem (.arg 2944) (.int 3))).1 = (sd X ρ (.elem (.arg 2944) (.int 4))).1 := by
    have q := hI ([((2, .int 4, .arg 1318), true)], (0, .elem (.arg 2944) (.int 3), .elem (.arg 2944) (.int 4)), false) (List.mem_append_left _ (show _ ∈ iv_al0 from List.mem_cons_of_mem _ (List.mem_cons_of_mem _ (List.mem_cons_of_mem _ (List.mem_cons_of_mem _ (List.mem_cons_of_mem _ (List.mem_cons_of_mem _ (List.mem_cons_of_mem _ (List.mem_cons_of_mem _ (List.mem_cons_of_mem _ (List.mem_cons_of_mem _ (List.mem_cons_of_mem _ (List.mem_cons_of_mem _ (List.mem_cons_of_mem _ (List.mem_cons_of_mem _ (List.mem_cons_of_mem _ (List.mem_cons_self)))))))))))))))))
    exact of_decide_eq_false (q (fa_cons (kl 4 (by decide)) fa_nil))
  have d0_5 : ¬ (sd X ρ (.elem (.arg 2944) (.int 0))).1 = (sd X ρ (.elem (.arg 2944) (.int 5))).1 := by
    have q := hI ([((2, .int 5, .arg 1318), true)], (0, .elem (.arg 2944) (.int 0), .elem (.arg 2944) (.int 5)), false) (List.mem_append_left _ (show _ ∈ iv_al0 from List.mem_cons_of_mem _ (List.mem_cons_of_mem _ (List.mem_cons_of_mem _ (List.mem_cons_of_mem _ (List.mem_cons_of_mem _ (List.mem_cons_of_mem _ (List.mem_cons_of_mem _ (List.mem_cons_of_mem _ (List.mem_cons_of_mem _ (List.mem_cons_of_mem _ (List.mem_cons_of_mem _ (List.mem_cons_of_mem _ (List.mem_cons_of_mem _ (List.mem_cons_of_mem _ (List.mem_cons_of_mem _ (List.mem_cons_of_mem _ (List.mem_cons_self))))))))))))))))))
    exact of_decide_eq_false (q (fa_cons (kl 5 (by decide)) fa_nil))
  have d1_5 : ¬ (sd X ρ (.elem (.arg 2944) (.int 1))).1 = (sd X ρ (.elem (.arg 2944) (.int 5))).1 := by
    have q := hI ([((2, .int 5, .arg 1318), true)], (0, .elem (.arg 2944) (.int 1), .elem (.arg 2944) (.int 5)), false) (List.mem_append_left _ (show _ ∈ iv_al0 from List.mem_cons_of_mem _ (List.mem_cons_of_mem _ (List.mem_cons_of_mem _ (List.mem_cons_of_mem _ (List.mem_cons_of_mem _ (List.mem_cons_of_mem _ (List.mem_cons_of_mem _ (List.mem_cons_of_mem _ (List.mem_cons_of_mem _ (List.mem_cons_of_mem _ (List.mem_cons_of_mem _ (List.mem_cons_of_mem _ (List.mem_cons_of_mem _ (List.mem_cons_of_mem _ (List.mem_cons_of_mem _ (List.mem_cons_of_mem _ (List.mem_cons_of_mem _ (List.mem_cons_self)))))))))))))))))))
    exact of_decide_eq_false (q (fa_cons (kl 5 (by decide)) fa_nil))
  have d2_5 : ¬ (sd X ρ (.elem (.arg 2944) (.int 2))).1 = (sd X ρ (.elem (.arg 2944) (.int 5))).1 := by
    have q := hI ([((2, .int 5, .arg 1318), true)], (0, .elem (.arg 2944) (.int 2), .elem (.arg 2944) (.int 5)), false) (List.mem_append_left _ (show _ ∈ iv_al0 from List.mem_cons_of_mem _ (List.mem_cons_of_mem _ (List.mem_cons_of_mem _ (List.mem_cons_of_mem _ (List.mem_cons_of_mem _ (List.mem_cons_of_mem _ (List.mem_cons_of_mem _ (List.mem_cons_of_mem _ (List.mem_cons_of_mem _ (List.mem_cons_of_mem _ (List.mem_cons_of_mem _ (List.mem_cons_of_mem _ (List.mem_cons_of_mem _ (List.mem_cons_of_mem _ (List.mem_cons_of_mem _ (List.mem_cons_of_mem _ (List.mem_cons_of_mem _ (List.mem_cons_of_mem _ (List.mem_cons_self))))))))))))))))))))
    exact of_decide_eq_false (q (fa_cons (kl 5 (by decide)) fa_nil))
  have d3_5 : ¬ (sd X ρ (.elem (.arg 2944) (.int 3))).1 = (sd X ρ (.elem (.arg 2944) (.int 5))).1 := by
    have q := hI ([((2, .int 5, .arg 1318), true)], (0, .elem (.arg 2944) (.int 3), .elem (.arg 2944) (.int 5)), false) (List.mem_append_left _ (show _ ∈ iv_al0 from List.mem_cons_of_mem _ (List.mem_cons_of_mem _ (List.mem_cons_of_mem _ (List.mem_cons_of_mem _ (List.mem_cons_of_mem _ (List.mem_cons_of_mem _ (List.mem_cons_of_mem _ (List.mem_cons_of_mem _ (List.mem_cons_of_mem _ (List.mem_cons_of_mem _ (List.mem_cons_of_mem _ (List.mem_cons_of_mem _ (List.mem_cons_of_mem _ (List.mem_cons_of_mem _ (List.mem_cons_of_mem _ (List.mem_cons_of_mem _ (List.mem_cons_of_mem _ (List.mem_cons_of_mem _ (List.mem_cons_of_mem _ (List.mem_cons_self)))))))))))))))))))))
    exact of_decide_eq_false (q (fa_cons (kl 5 (by decide)) fa_nil))
  have d4_5 : ¬ (sd X ρ (.elem (.arg 2944) (.int 4))).1 = (sd X ρ (.elem (.arg 2944) (.int 5))).1 := by
    have q := hI ([((2, .int 5, .arg 1318), true)], (0, .elem (.arg 2944) (.int 4), .elem (.arg 2944) (.int 5)), false) (List.mem_append_left _ (show _ ∈ iv_al0 from List.mem_cons_of_mem _ (List.mem_cons_of_mem _ (List.mem_cons_of_mem _ (List.mem_cons_of_mem _ (List.mem_cons_of_mem _ (List.mem_cons_of_mem _ (List.mem_cons_of_mem _ (List.mem_cons_of_mem _ (List.mem_cons_of_mem _ (List.mem_cons_of_mem _ (List.mem_cons_of_mem _ (List.mem_cons_of_mem _ (List.mem_cons_of_mem _ (List.mem_cons_of_mem _ (List.mem_cons_of_mem _ (List.mem_cons_of_mem _ (List.mem_cons_of_mem _ (List.mem_cons_of_mem _ (List.mem_cons_of_mem _ (List.mem_cons_of_mem _ (List.mem_cons_self))))))))))))))))))))))
    exact of_decide_eq_false (q (fa_cons (kl 5 (by decide)) fa_nil))
  have mc : (sd X ρ (.arg 60000)).1 ∈ [(33040 : Int32), 33072, 33088, 34321, 34322, 65281] := pg_six (fun h1 h2 h3 h4 h5 => by
    have q := hI ([((0, .arg 60000, .int 33072), false), ((0, .arg 60000, .int 33088), false), ((0, .arg 60000, .int 34321), false), ((0, .arg 60000, .int 34322), false), ((0, .arg 60000, .int 65281), false)], (0, .arg 60000, .int 33040), true) (List.mem_append_right _ (List.mem_cons_of_mem _ (List.mem_cons_of_mem _ ((List.mem_cons_of_mem _ List.mem_cons_self)))))
    exact of_decide_eq_true (q (fa_cons (decide_eq_false h1) (fa_cons (decide_eq_false h2) (fa_cons (decide_eq_false h3) (fa_cons (decide_eq_false h4) (fa_cons (decide_eq_false h5) fa_nil)))))))
  have g0 : ¬ (sd X ρ (.elem (.arg 2944) (.int 0))).1 = (sd X ρ (.arg 60000)).1 := of_decide_eq_false (hg ((0, .elem (.arg 2944) (.int 0), .arg 60000), false) (by simp))
  have g1 : ¬ (sd X ρ (.elem (.arg 2944) (.int 1))).1 = (sd X ρ (.arg 60000)).1 := of_decide_eq_false (hg ((0, .elem (.arg 2944) (.int 1), .arg 60000), false) (by simp))
  have g2 : ¬ (sd X ρ (.elem (.arg 2944) (.int 2))).1 = (sd X ρ (.arg 60000)).1 := of_decide_eq_false (hg ((0, .elem (.arg 2944) (.int 2), .arg 60000), false) (by simp))
  have g3 : ¬ (sd X ρ (.elem (.arg 2944) (.int 3))).1 = (sd X ρ (.arg 60000)).1 := of_decide_eq_false (hg ((0, .elem (.arg 2944) (.int 3), .arg 60000), false) (by simp))
  have g4 : ¬ (sd X ρ (.elem (.arg 2944) (.int 4))).1 = (sd X ρ (.arg 60000)).1 := of_decide_eq_false (hg ((0, .elem (.arg 2944) (.int 4), .arg 60000), false) (by simp))
  have g5 : ¬ (sd X ρ (.elem (.arg 2944) (.int 5))).1 = (sd X ρ (.arg 60000)).1 := of_decide_eq_false (hg ((0, .elem (.arg 2944) (.int 5), .arg 60000), false) (by simp))
  have hn : [(sd X ρ (.arg 60000)).1, (sd X ρ (.elem (.arg 2944) (.int 0))).1, (sd X ρ (.elem (.arg 2944) (.int 1))).1, (sd X ρ (.elem (.arg 2944) (.int 2))).1, (sd X ρ (.elem (.arg 2944) (.int 3))).1, (sd X ρ (.elem (.arg 2944) (.int 4))).1, (sd X ρ (.elem (.arg 2944) (.int 5))).1].Nodup := by
    simp only [List.nodup_cons, List.mem_cons, List.not_mem_nil, or_false, not_or, not_false_eq_true, List.nodup_nil, and_true]
    exact ⟨⟨fun e => g0 e.symm, fun e => g1 e.symm, fun e => g2 e.symm, fun e => g3 e.symm, fun e => g4 e.symm, fun e => g5 e.symm⟩, ⟨d0_1, d0_2, d0_3, d0_4, d0_5⟩, ⟨d1_2, d1_3, d1_4, d1_5⟩, ⟨d2_3, d2_4, d2_5⟩, ⟨d3_4, d3_5⟩, d4_5⟩
  have hl := pg_len hn (s := [(33040 : Int32), 33072, 33088, 34321, 34322, 65281]) (fun x hx => by
    simp only [List.mem_cons, List.not_mem_nil, or_false] at hx
    rcases hx with e | e | e | e | e | e | e <;> rw [e] <;> assumption)
  simp at hl
/-- an alarm is raised, from what always holds -/
noncomputable def c_raiz0 : sC := (c_raise0.1, c_raise0.2.1, c_raise0.2.2.1, c_raise0.2.2.2.1, c_raise0.2.2.2.2.1, c_raise0.2.2.2.2.2.1, c_raise0.2.2.2.2.2.2.1, (iv_ra0, c_raise0.2.2.2.2.2.2.2.2))
theorem s_raiz0 {X : pX} : SREL X pF pdfl mt_all kR zVS c_raiz0 := SREL_pre s_raise0 (fun _ hF hI => pig0 hF hI)
