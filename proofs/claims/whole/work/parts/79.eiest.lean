/-! ===== a step ends: Modes.endStep and endStep ===== -/
noncomputable def c_estep0 : sC := ((126, 363, 9), ([tr 52], [tr 219, .arg 1308]), ([52, 42, 43, 44, 46, 47, 53, 55], [219, 228, 229, 220, 221, 232, 233, 284, 285, 279, 274, 265, 286]), [((0, .arg 2018, .int 1), true), ((0, .arg 20832, .arg 3104), true), ((2, .arg 3104, .int 0), false), ((2, .int 11, .arg 3104), false), ((2, .arg 3104, .div (.arg 1330) (.int 12)), true), ((8, .arg 5473, .long 1), false), ((8, .long 2000000000, .arg 5473), false), ((8, .elem (.arg 1761) (.int 137), .long 1), false), ((8, .long 2000000, .elem (.arg 1761) (.int 137)), false)], ([2018, 1954, 3104, 20832, 20960, 5441, 5473, 60002, 60032], [3200]), (some (.arg 60002), some (.arg 60002)), [((8, .arg 5473, .long 0), false), ((8, .long 2000000000, .arg 5473), false)], ([([((0, .arg 1858, .int 0), false)], (8, .long 0, .arg 5473), true)], [([((0, .arg 2018, .int 0), false)], (0, .arg 20832, .arg 3104), true), ([((0, .arg 2018, .int 0), true)], (0, .arg 20832, .int (-1)), true), ([((0, .arg 2018, .int 0), false)], (2, .int (-1), .arg 3104), true), ([((0, .arg 2018, .int 0), false)], (2, .arg 3104, .int 12), true), ([((0, .arg 2018, .int 0), false)], (2, .arg 3104, .div (.arg 1330) (.int 12)), true), ([((0, .arg 2018, .int 0), false)], (8, .long 0, .arg 5473), true), ([((0, .arg 1858, .int 0), false)], (8, .long 0, .arg 5473), true)]))
theorem c_estep0_f : cfine zWP 65536 c_estep0 = true := by decide +kernel
noncomputable def q_eg : sCut := ((fr 0 126 48 [(0, tr 52), (1, .arg 60032)] [], [fBot], 8), (fr 0 363 66 [(0, tr 219), (1, .arg 1308), (3, .arg 60032)] [], [fBot], 8), [((2, .int 12, .arg 60032), false), ((2, .arg 60032, .int 0), false), ((2, .arg 3104, .arg 60032), false), ((0, .arg 2018, .int 1), true), ((0, .arg 20832, .arg 3104), true), ((2, .arg 3104, .int 0), false), ((2, .int 11, .arg 3104), false), ((2, .arg 3104, .div (.arg 1330) (.int 12)), true), ((8, .arg 5473, .long 1), false), ((8, .long 2000000000, .arg 5473), false), ((8, .elem (.arg 1761) (.int 137), .long 1), false), ((8, .long 2000000, .elem (.arg 1761) (.int 137)), false)], [([((0, .arg 1858, .int 0), false)], (8, .long 0, .arg 5473), true)])
theorem k_eg : cbody kR [(zWP, c_bstep0)] (cpl1 zWP c_estep0 []) (cpl2 zWP c_estep0 []) (cleaf kR zWP c_estep0 []) 3000 true true q_eg.2.2.1 q_eg.2.2.2 (cst zWP c_estep0.2.2.1.1 q_eg.1) (cst zWP c_estep0.2.2.1.2 q_eg.2.1) = true := by decide +kernel
theorem t_eg {X : pX} {ρ0 : sR} (hv : vok X ρ0) : CUTOK X kR zWP c_estep0 8 ρ0 q_eg := CUT_run kR_x kR_0 (Cs := [(zWP, c_bstep0)]) (fun C hC => by
    simp only [List.mem_cons, List.not_mem_nil, or_false] at hC
    rw [hC]; exact s_bstep0) c_estep0_f (Q := []) hv (fun q hq => by cases hq) 3000 (b1 := true) (b2 := true) k_eg
noncomputable def q_ef : sCut := ((fr 0 126 48 [(0, tr 52), (1, .arg 60032)] [], [fBot], 8), (fr 0 363 66 [(0, tr 219), (1, .arg 1308), (3, .arg 60032)] [], [fBot], 8), [((2, .arg 60032, .int 0), false), ((2, .arg 3104, .arg 60032), false), ((0, .arg 2018, .int 1), true), ((0, .arg 20832, .arg 3104), true), ((2, .arg 3104, .int 0), false), ((2, .int 11, .arg 3104), false), ((2, .arg 3104, .div (.arg 1330) (.int 12)), true), ((8, .arg 5473, .long 1), false), ((8, .long 2000000000, .arg 5473), false), ((8, .elem (.arg 1761) (.int 137), .long 1), false), ((8, .long 2000000, .elem (.arg 1761) (.int 137)), false)], [([((0, .arg 1858, .int 0), false)], (8, .long 0, .arg 5473), true)])
theorem t_ef {X : pX} {ρ0 : sR} (hv : vok X ρ0) : CUTOK X kR zWP c_estep0 8 ρ0 q_ef := CUT_mono (t_eg hv) (fun ρ hF hI => ⟨fok_cons (by
    have h1 : ¬ ρ.1 3104 < ρ.1 60032 := of_decide_eq_false (hF.2 ((2, .arg 3104, .arg 60032), false) (List.mem_cons_of_mem _ List.mem_cons_self))
    have h2 : ¬ (11 : Int32) < ρ.1 3104 := of_decide_eq_false (hF.2 ((2, .int 11, .arg 3104), false) (by simp))
    have h1 := Int32.le_iff_toInt_le.mp (Int32.not_lt.mp h1)
    have h2 := Int32.le_iff_toInt_le.mp (Int32.not_lt.mp h2)
    have z1 : (11 : Int32).toInt = 11 := rfl
    have z2 : (12 : Int32).toInt = 12 := rfl
    rw [z1] at h2
    exact decide_eq_false (Int32.not_lt.mpr (Int32.le_iff_toInt_le.mpr (show (ρ.1 60032).toInt ≤ (12 : Int32).toInt by rw [z2]; omega)))) hF, hI⟩)
noncomputable def q_es : sCut := ((fr 0 126 9 [(0, tr 52)] [], [fBot], 8), (fr 0 363 5 [(0, tr 219), (1, .arg 1308), (2, .arg 3104)] [], [fBot], 8), [((0, .arg 2018, .int 1), true), ((0, .arg 20832, .arg 3104), true), ((2, .arg 3104, .int 0), false), ((2, .int 11, .arg 3104), false), ((2, .arg 3104, .div (.arg 1330) (.int 12)), true), ((8, .arg 5473, .long 1), false), ((8, .long 2000000000, .arg 5473), false), ((8, .elem (.arg 1761) (.int 137), .long 1), false), ((8, .long 2000000, .elem (.arg 1761) (.int 137)), false)], [([((0, .arg 1858, .int 0), false)], (8, .long 0, .arg 5473), true)])
theorem k_es : cbody kR [(zVP, c_step0_10), (zVP, c_step0_11), (zWP, c_bstep0)] (cpl1 zWP c_estep0 [q_ef]) (cpl2 zWP c_estep0 [q_ef]) (cleaf kR zWP c_estep0 [q_ef]) 3000 true true q_es.2.2.1 q_es.2.2.2 (cst zWP c_estep0.2.2.1.1 q_es.1) (cst zWP c_estep0.2.2.1.2 q_es.2.1) = true := by decide +kernel
theorem t_es {X : pX} {ρ0 : sR} (hv : vok X ρ0) : CUTOK X kR zWP c_estep0 8 ρ0 q_es := CUT_run kR_x kR_0 (Cs := [(zVP, c_step0_10), (zVP, c_step0_11), (zWP, c_bstep0)]) (fun C hC => by
    simp only [List.mem_cons, List.not_mem_nil, or_false] at hC
    rcases hC with hC | hC | hC
    · rw [hC]; exact s_step0_10
    · rw [hC]; exact s_step0_11
    · rw [hC]; exact s_bstep0) c_estep0_f (Q := [q_ef]) hv (fun q hq => by
    simp only [List.mem_cons, List.not_mem_nil, or_false] at hq
    rw [hq]; exact t_ef hv) 3000 (b1 := true) (b2 := true) k_es
theorem e_estep0 : frun kR [] (cpl1 zWP c_estep0 [q_es]) (cpl2 zWP c_estep0 [q_es]) (cleaf kR zWP c_estep0 [q_es]) 3000 65536 (isatP (c_estep0.2.2.2.1) c_estep0.2.2.2.2.2.2.2.1) c_estep0.2.2.2.2.2.2.2.1 (sin0 mt_all c_estep0.1.1 8 c_estep0.2.1.1 (foot zWP c_estep0.2.2.1.1)) (sin0 mt_all c_estep0.1.2.1 8 c_estep0.2.1.2 (foot zWP c_estep0.2.2.1.2)) = true := by decide +kernel
theorem s_estep0 {X : pX} : SREL X pF pdfl mt_all kR zWP c_estep0 := SREL_QC kR_x kR_0 (Cs := []) (fun C hC => by cases hC) (d := 8) rfl c_estep0_f (Q := [q_es]) (fun ρ0 hv => fun q hq => by
    simp only [List.mem_cons, List.not_mem_nil, or_false] at hq
    rw [hq]; exact t_es hv) (QC_run 3000 e_estep0)
