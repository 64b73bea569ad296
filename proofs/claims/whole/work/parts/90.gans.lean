/-! ===== an answer in phase 4 ===== -/
noncomputable def c_ans4 : sC := ((76, 377, 12), ([tr 203, .arg 5121], [tr 219]), ([2, 3, 8, 9, 14, 15, 203, 204], [219, 237, 238, 239, 240, 241, 335]), [((0, .arg 17728, .int 1), true), ((0, .arg 17856, .int 4), true), ((0, .arg 19424, .int 5), true), ((0, .arg 17888, .arg 19456), true), ((2, .arg 17888, .int 0), false), ((2, .int 1, .arg 17888), false)], ([1418, 1312, 17792, 18048, 17728, 17760, 1292, 17856, 17888, 17920, 17952, 17984, 18016, 19424, 19456, 19488, 19520, 19552, 19584, 60004, 60006], [1536, 1409, 2052]), (none, none), [], ([], [([((0, .arg 17728, .int 1), true)], (0, .arg 19424, .add (.arg 17856) (.int 1)), true), ([((0, .arg 17728, .int 1), true)], (2, .int (-1), .arg 17856), true), ([((0, .arg 17728, .int 1), true)], (2, .arg 17856, .int 11), true), ([((0, .arg 17728, .int 1), true), ((0, .arg 17856, .int 1), true)], (0, .arg 17888, .int 0), true), ([((0, .arg 17728, .int 1), true), ((0, .arg 17856, .int 1), true)], (0, .arg 17920, .int 0), true), ([((0, .arg 17728, .int 1), true), ((0, .arg 17856, .int 2), true)], (0, .arg 17920, .arg 19488), true), ([((0, .arg 17728, .int 1), true), ((0, .arg 17856, .int 2), true)], (0, .arg 17888, .arg 19456), true), ([((0, .arg 17728, .int 1), true), ((0, .arg 17856, .int 2), true)], (2, .int (-1), .arg 17888), true), ([((0, .arg 17728, .int 1), true), ((0, .arg 17856, .int 2), true)], (2, .arg 17888, .int 2), true), ([((0, .arg 17728, .int 1), true), ((0, .arg 17856, .int 2), true)], (2, .arg 17920, .int 0), false), ([((0, .arg 17728, .int 1), true), ((0, .arg 17856, .int 2), true)], (2, .int 160, .arg 17920), false), ([((0, .arg 17728, .int 1), true), ((0, .arg 17856, .int 2), true)], (2, .arg 1292, .arg 17920), false), ([((0, .arg 17728, .int 1), true), ((0, .arg 17856, .int 2), true), ((0, .arg 17920, .arg 1292), true)], (0, .arg 19520, .int 1), true), ([((0, .arg 17728, .int 1), true), ((0, .arg 17856, .int 2), true), ((0, .arg 17920, .arg 1292), false)], (0, .arg 19520, .int 0), true), ([((0, .arg 17728, .int 1), true), ((0, .arg 17856, .int 3), true)], (0, .arg 17888, .int 0), true), ([((0, .arg 17728, .int 1), true), ((0, .arg 17856, .int 4), true)], (0, .arg 17888, .arg 19456), true), ([((0, .arg 17728, .int 1), true), ((0, .arg 17856, .int 4), true)], (2, .int (-1), .arg 17888), true), ([((0, .arg 17728, .int 1), true), ((0, .arg 17856, .int 4), true)], (2, .arg 17888, .int 2), true), ([((0, .arg 17728, .int 1), true), ((0, .arg 17856, .int 5), true)], (0, .arg 17952, .int 0), true), ([((0, .arg 17728, .int 1), true), ((0, .arg 17856, .int 6), true)], (0, .arg 19488, .mul (.arg 17952) (.int 7)), true), ([((0, .arg 17728, .int 1), true), ((0, .arg 17856, .int 6), true)], (0, .arg 17984, .arg 19584), true), ([((0, .arg 17728, .int 1), true), ((0, .arg 17856, .int 6), true)], (2, .arg 17952, .int 0), false), ([((0, .arg 17728, .int 1), true), ((0, .arg 17856, .int 6), true)], (2, .int 22, .arg 17952), false), ([((0, .arg 17728, .int 1), true), ((0, .arg 17856, .int 6), true)], (2, .arg 17984, .int 1), false), ([((0, .arg 17728, .int 1), true), ((0, .arg 17856, .int 6), true)], (2, .int 127, .arg 17984), false), ([((0, .arg 17728, .int 1), true), ((0, .arg 17856, .int 6), true), ((0, .arg 1292, .int 0), false)], (2, .mul (.add (.arg 17952) (.arg 17984)) (.int 7), .add (.arg 1292) (.int 7)), true), ([((0, .arg 17728, .int 1), true), ((0, .arg 17856, .int 6), true), ((0, .arg 1292, .int 0), true)], (2, .mul (.add (.arg 17952) (.arg 17984)) (.int 7), .int 8), true), ([((0, .arg 17728, .int 1), true), ((0, .arg 17856, .int 6), true), ((2, .mul (.add (.arg 17952) (.arg 17984)) (.int 7), .arg 1292), true)], (0, .arg 19520, .int 0), true), ([((0, .arg 17728, .int 1), true), ((0, .arg 17856, .int 6), true), ((2, .mul (.add (.arg 17952) (.arg 17984)) (.int 7), .arg 1292), false)], (0, .arg 19520, .int 1), true), ([((0, .arg 17728, .int 1), true), ((0, .arg 17856, .int 8), true)], (0, .arg 18016, .int 0), true), ([((0, .arg 17728, .int 1), true), ((0, .arg 17856, .int 9), true)], (0, .arg 18016, .arg 19584), true), ([((0, .arg 17728, .int 1), true), ((0, .arg 17856, .int 9), true)], (2, .int (-1), .arg 18016), true), ([((0, .arg 17728, .int 1), true), ((0, .arg 17856, .int 9), true)], (2, .arg 18016, .int 128), true), ([((0, .arg 17728, .int 1), true), ((0, .arg 17856, .int 10), true)], (2, .int 6, .arg 1292), true)]))
theorem c_ans4_f : cfine zJ 65536 c_ans4 = true := by decide +kernel
noncomputable def q_tk : sCut := ((fr 0 82 0 [(0, tr 203), (1, .arg 5121), (3, .arg 60006)] [], [fr 0 81 23 [(0, tr 203), (1, .arg 5121), (3, .arg 60004)] [], fr 0 76 79 [(0, tr 203), (1, .arg 5121), (3, .arg 60004)] [], fBot], 9), (fr 0 383 0 [(0, tr 219), (1, .arg 60006)] [], [fr 0 382 31 [(0, tr 219), (1, .arg 60004)] [], fr 0 377 46 [(0, tr 219)] [], fBot], 9), [((0, .arg 17728, .int 1), true), ((0, .arg 17856, .int 4), true), ((0, .arg 19424, .int 5), true), ((0, .arg 17888, .arg 19456), true), ((2, .arg 17888, .int 0), false), ((2, .int 1, .arg 17888), false), ((2, .int 7, .arg 60006), false)], [])
noncomputable def q_tku0 : sCut := ((fr 0 82 0 [(0, tr 203), (1, .arg 5121), (3, .arg 60006)] [], [fr 0 81 23 [(0, tr 203), (1, .arg 5121), (3, .arg 60004)] [], fr 0 76 79 [(0, tr 203), (1, .arg 5121), (3, .arg 60004)] [], fBot], 9), (fr 0 383 0 [(0, tr 219), (1, .arg 60006)] [], [fr 0 382 31 [(0, tr 219), (1, .arg 60004)] [], fr 0 377 46 [(0, tr 219)] [], fBot], 9), [((0, .arg 17888, .int 0), true), ((0, .arg 19456, .int 0), true), ((0, .arg 17728, .int 1), true), ((0, .arg 17856, .int 4), true), ((0, .arg 19424, .int 5), true), ((0, .arg 17888, .arg 19456), true), ((2, .arg 17888, .int 0), false), ((2, .int 1, .arg 17888), false), ((2, .int 7, .arg 60006), false)], [])
noncomputable def q_tku0y : sCut := ((fr 0 82 0 [(0, tr 203), (1, .arg 5121), (3, .arg 60006)] [], [fr 0 81 23 [(0, tr 203), (1, .arg 5121), (3, .arg 60004)] [], fr 0 76 79 [(0, tr 203), (1, .arg 5121), (3, .arg 60004)] [], fBot], 9), (fr 0 383 0 [(0, tr 219), (1, .arg 60006)] [], [fr 0 382 31 [(0, tr 219), (1, .arg 60004)] [], fr 0 377 46 [(0, tr 219)] [], fBot], 9), [((2, .int 160, .add (.arg 1292) (.arg 60006)), true), ((0, .arg 17888, .int 0), true), ((0, .arg 19456, .int 0), true), ((0, .arg 17728, .int 1), true), ((0, .arg 17856, .int 4), true), ((0, .arg 19424, .int 5), true), ((0, .arg 17888, .arg 19456), true), ((2, .arg 17888, .int 0), false), ((2, .int 1, .arg 17888), false), ((2, .int 7, .arg 60006), false)], [])
theorem k_tku0y : cbody kR [(zJ, c_jab), (zJR, c_reqj)] (cpl1 zJ c_ans4 []) (cpl2 zJ c_ans4 []) (cleaf kR zJ c_ans4 []) 760 true true q_tku0y.2.2.1 q_tku0y.2.2.2 (cst zJ c_ans4.2.2.1.1 q_tku0y.1) (cst zJ c_ans4.2.2.1.2 q_tku0y.2.1) = true := by decide +kernel
theorem t_tku0y {X : pX} {ρ0 : sR} (hv : vok X ρ0) : CUTOK X kR zJ c_ans4 11 ρ0 q_tku0y := CUT_run kR_x kR_0 (Cs := [(zJ, c_jab), (zJR, c_reqj)]) (fun C hC => by
    simp only [List.mem_cons, List.not_mem_nil, or_false] at hC
    rcases hC with hC | hC
    · rw [hC]; exact s_jab
    · rw [hC]; exact s_reqj) c_ans4_f (Q := []) hv (fun q hq => by cases hq) 760 (b1 := true) (b2 := true) k_tku0y
noncomputable def q_tku0n : sCut := ((fr 0 82 0 [(0, tr 203), (1, .arg 5121), (3, .arg 60006)] [], [fr 0 81 23 [(0, tr 203), (1, .arg 5121), (3, .arg 60004)] [], fr 0 76 79 [(0, tr 203), (1, .arg 5121), (3, .arg 60004)] [], fBot], 9), (fr 0 383 0 [(0, tr 219), (1, .arg 60006)] [], [fr 0 382 31 [(0, tr 219), (1, .arg 60004)] [], fr 0 377 46 [(0, tr 219)] [], fBot], 9), [((2, .int 160, .add (.arg 1292) (.arg 60006)), false), ((0, .arg 17888, .int 0), true), ((0, .arg 19456, .int 0), true), ((0, .arg 17728, .int 1), true), ((0, .arg 17856, .int 4), true), ((0, .arg 19424, .int 5), true), ((0, .arg 17888, .arg 19456), true), ((2, .arg 17888, .int 0), false), ((2, .int 1, .arg 17888), false), ((2, .int 7, .arg 60006), false)], [])
noncomputable def q_tku0n_0 : sCut := ((fr 0 82 0 [(0, tr 203), (1, .arg 5121), (3, .arg 60006)] [], [fr 0 81 23 [(0, tr 203), (1, .arg 5121), (3, .arg 60004)] [], fr 0 76 79 [(0, tr 203), (1, .arg 5121), (3, .arg 60004)] [], fBot], 9), (fr 0 383 0 [(0, tr 219), (1, .arg 60006)] [], [fr 0 382 31 [(0, tr 219), (1, .arg 60004)] [], fr 0 377 46 [(0, tr 219)] [], fBot], 9), [((0, .arg 60006, .int 0), true), ((2, .int 160, .add (.arg 1292) (.arg 60006)), false), ((0, .arg 17888, .int 0), true), ((0, .arg 19456, .int 0), true), ((0, .arg 17728, .int 1), true), ((0, .arg 17856, .int 4), true), ((0, .arg 19424, .int 5), true), ((0, .arg 17888, .arg 19456), true), ((2, .arg 17888, .int 0), false), ((2, .int 1, .arg 17888), false), ((2, .int 7, .arg 60006), false)], [])
noncomputable def q_tku0n_0m : sCut := ((fr 0 82 0 [(0, tr 203), (1, .arg 5121), (3, .arg 60006)] [], [fr 0 81 23 [(0, tr 203), (1, .arg 5121), (3, .arg 60004)] [], fr 0 76 79 [(0, tr 203), (1, .arg 5121), (3, .arg 60004)] [], fBot], 9), (fr 0 383 0 [(0, tr 219), (1, .arg 60006)] [], [fr 0 382 31 [(0, tr 219), (1, .arg 60004)] [], fr 0 377 46 [(0, tr 219)] [], fBot], 9), [((2, .int 160, .arg 1292), false), ((0, .arg 60006, .int 0), true), ((2, .int 160, .add (.arg 1292) (.arg 60006)), false), ((0, .arg 17888, .int 0), true), ((0, .arg 19456, .int 0), true), ((0, .arg 17728, .int 1), true), ((0, .arg 17856, .int 4), true), ((0, .arg 19424, .int 5), true), ((0, .arg 17888, .arg 19456), true), ((2, .arg 17888, .int 0), false), ((2, .int 1, .arg 17888), false), ((2, .int 7, .arg 60006), false)], [])
theorem k_tku0n_0m : cbody kR [(zJ, c_jab), (zJR, c_reqj)] (cpl1 zJ c_ans4 []) (cpl2 zJ c_ans4 []) (cleaf kR zJ c_ans4 []) 760 true true q_tku0n_0m.2.2.1 q_tku0n_0m.2.2.2 (cst zJ c_ans4.2.2.1.1 q_tku0n_0m.1) (cst zJ c_ans4.2.2.1.2 q_tku0n_0m.2.1) = true := by decide +kernel
theorem t_tku0n_0m {X : pX} {ρ0 : sR} (hv : vok X ρ0) : CUTOK X kR zJ c_ans4 11 ρ0 q_tku0n_0m := CUT_run kR_x kR_0 (Cs := [(zJ, c_jab), (zJR, c_reqj)]) (fun C hC => by
    simp only [List.mem_cons, List.not_mem_nil, or_false] at hC
    rcases hC with hC | hC
    · rw [hC]; exact s_jab
    · rw [hC]; exact s_reqj) c_ans4_f (Q := []) hv (fun q hq => by cases hq) 760 (b1 := true) (b2 := true) k_tku0n_0m
theorem t_tku0n_0 {X : pX} {ρ0 : sR} (hv : vok X ρ0) : CUTOK X kR zJ c_ans4 11 ρ0 q_tku0n_0 := CUT_mono (t_tku0n_0m hv) (fun ρ hF hI => ⟨⟨hF.1, by
    have g : ¬ (160 : Int32) < ρ.1 1292 + ρ.1 60006 := of_decide_eq_false (hF.2 ((2, .int 160, .add (.arg 1292) (.arg 60006)), false) (by simp))
    rw [show ρ.1 60006 = (0 : Int32) from of_decide_eq_true (hF.2 _ List.mem_cons_self)] at g
    have hs : 0 ≤ (ρ.1 1292).toInt ∧ (ρ.1 1292).toInt ≤ 160 := hF.1.1 1292 (0, 160) rfl
    have z : (160 : Int32).toInt = 160 := rfl
    have zn : (0 : Int32).toInt = 0 := rfl
    have zm : (160 : Int32).toInt = 160 := rfl
    rw [Int32.lt_iff_toInt_lt, z, s_add (by rw [zn]; omega) (by rw [zn]; omega), zn] at g
    exact fcn (decide_eq_false (show ¬ (160 : Int32) < ρ.1 1292 by rw [Int32.lt_iff_toInt_lt, zm]; omega)) hF.2⟩, hI⟩)
noncomputable def q_tku0n_1 : sCut := ((fr 0 82 0 [(0, tr 203), (1, .arg 5121), (3, .arg 60006)] [], [fr 0 81 23 [(0, tr 203), (1, .arg 5121), (3, .arg 60004)] [], fr 0 76 79 [(0, tr 203), (1, .arg 5121), (3, .arg 60004)] [], fBot], 9), (fr 0 383 0 [(0, tr 219), (1, .arg 60006)] [], [fr 0 382 31 [(0, tr 219), (1, .arg 60004)] [], fr 0 377 46 [(0, tr 219)] [], fBot], 9), [((0, .arg 60006, .int 1), true), ((2, .int 160, .add (.arg 1292) (.arg 60006)), false), ((0, .arg 17888, .int 0), true), ((0, .arg 19456, .int 0), true), ((0, .arg 17728, .int 1), true), ((0, .arg 17856, .int 4), true), ((0, .arg 19424, .int 5), true), ((0, .arg 17888, .arg 19456), true), ((2, .arg 17888, .int 0), false), ((2, .int 1, .arg 17888), false), ((2, .int 7, .arg 60006), false)], [])
noncomputable def q_tku0n_1m : sCut := ((fr 0 82 0 [(0, tr 203), (1, .arg 5121), (3, .arg 60006)] [], [fr 0 81 23 [(0, tr 203), (1, .arg 5121), (3, .arg 60004)] [], fr 0 76 79 [(0, tr 203), (1, .arg 5121), (3, .arg 60004)] [], fBot], 9), (fr 0 383 0 [(0, tr 219), (1, .arg 60006)] [], [fr 0 382 31 [(0, tr 219), (1, .arg 60004)] [], fr 0 377 46 [(0, tr 219)] [], fBot], 9), [((2, .int 159, .arg 1292), false), ((0, .arg 60006, .int 1), true), ((2, .int 160, .add (.arg 1292) (.arg 60006)), false), ((0, .arg 17888, .int 0), true), ((0, .arg 19456, .int 0), true), ((0, .arg 17728, .int 1), true), ((0, .arg 17856, .int 4), true), ((0, .arg 19424, .int 5), true), ((0, .arg 17888, .arg 19456), true), ((2, .arg 17888, .int 0), false), ((2, .int 1, .arg 17888), false), ((2, .int 7, .arg 60006), false)], [])
theorem k_tku0n_1m : cbody kR [(zJ, c_jab), (zJR, c_reqj)] (cpl1 zJ c_ans4 []) (cpl2 zJ c_ans4 []) (cleaf kR zJ c_ans4 []) 760 true true q_tku0n_1m.2.2.1 q_tku0n_1m.2.2.2 (cst zJ c_ans4.2.2.1.1 q_tku0n_1m.1) (cst zJ c_ans4.2.2.1.2 q_tku0n_1m.2.1) = true := by decide +kernel
theorem t_tku0n_1m {X : pX} {ρ0 : sR} (hv : vok X ρ0) : CUTOK X kR zJ c_ans4 11 ρ0 q_tku0n_1m := CUT_run kR_x kR_0 (Cs := [(zJ, c_jab), (zJR, c_reqj)]) (fun C hC => by
    simp only [List.mem_cons, List.not_mem_nil, or_false] at hC
    rcases hC with hC | hC
    · rw [hC]; exact s_jab
    · rw [hC]; exact s_reqj) c_ans4_f (Q := []) hv (fun q hq => by cases hq) 760 (b1 := true) (b2 := true) k_tku0n_1m
theorem t_tku0n_1 {X : pX} {ρ0 : sR} (hv : vok X ρ0) : CUTOK X kR zJ c_ans4 11 ρ0 q_tku0n_1 := CUT_mono (t_tku0n_1m hv) (fun ρ hF hI => ⟨⟨hF.1, by
    have g : ¬ (160 : Int32) < ρ.1 1292 + ρ.1 60006 := of_decide_eq_false (hF.2 ((2, .int 160, .add (.arg 1292) (.arg 60006)), false) (by simp))
    rw [show ρ.1 60006 = (1 : Int32) from of_decide_eq_true (hF.2 _ List.mem_cons_self)] at g
    have hs : 0 ≤ (ρ.1 1292).toInt ∧ (ρ.1 1292).toInt ≤ 160 := hF.1.1 1292 (0, 160) rfl
    have z : (160 : Int32).toInt = 160 := rfl
    have zn : (1 : Int32).toInt = 1 := rfl
    have zm : (159 : Int32).toInt = 159 := rfl
    rw [Int32.lt_iff_toInt_lt, z, s_add (by rw [zn]; omega) (by rw [zn]; omega), zn] at g
    exact fcn (decide_eq_false (show ¬ (159 : Int32) < ρ.1 1292 by rw [Int32.lt_iff_toInt_lt, zm]; omega)) hF.2⟩, hI⟩)
noncomputable def q_tku0n_2 : sCut := ((fr 0 82 0 [(0, tr 203), (1, .arg 5121), (3, .arg 60006)] [], [fr 0 81 23 [(0, tr 203), (1, .arg 5121), (3, .arg 60004)] [], fr 0 76 79 [(0, tr 203), (1, .arg 5121), (3, .arg 60004)] [], fBot], 9), (fr 0 383 0 [(0, tr 219), (1, .arg 60006)] [], [fr 0 382 31 [(0, tr 219), (1, .arg 60004)] [], fr 0 377 46 [(0, tr 219)] [], fBot], 9), [((0, .arg 60006, .int 2), true), ((2, .int 160, .add (.arg 1292) (.arg 60006)), false), ((0, .arg 17888, .int 0), true), ((0, .arg 19456, .int 0), true), ((0, .arg 17728, .int 1), true), ((0, .arg 17856, .int 4), true), ((0, .arg 19424, .int 5), true), ((0, .arg 17888, .arg 19456), true), ((2, .arg 17888, .int 0), false), ((2, .int 1, .arg 17888), false), ((2, .int 7, .arg 60006), false)], [])
noncomputable def q_tku0n_2m : sCut := ((fr 0 82 0 [(0, tr 203), (1, .arg 5121), (3, .arg 60006)] [], [fr 0 81 23 [(0, tr 203), (1, .arg 5121), (3, .arg 60004)] [], fr 0 76 79 [(0, tr 203), (1, .arg 5121), (3, .arg 60004)] [], fBot], 9), (fr 0 383 0 [(0, tr 219), (1, .arg 60006)] [], [fr 0 382 31 [(0, tr 219), (1, .arg 60004)] [], fr 0 377 46 [(0, tr 219)] [], fBot], 9), [((2, .int 158, .arg 1292), false), ((0, .arg 60006, .int 2), true), ((2, .int 160, .add (.arg 1292) (.arg 60006)), false), ((0, .arg 17888, .int 0), true), ((0, .arg 19456, .int 0), true), ((0, .arg 17728, .int 1), true), ((0, .arg 17856, .int 4), true), ((0, .arg 19424, .int 5), true), ((0, .arg 17888, .arg 19456), true), ((2, .arg 17888, .int 0), false), ((2, .int 1, .arg 17888), false), ((2, .int 7, .arg 60006), false)], [])
theorem k_tku0n_2m : cbody kR [(zJ, c_jab), (zJR, c_reqj)] (cpl1 zJ c_ans4 []) (cpl2 zJ c_ans4 []) (cleaf kR zJ c_ans4 []) 760 true true q_tku0n_2m.2.2.1 q_tku0n_2m.2.2.2 (cst zJ c_ans4.2.2.1.1 q_tku0n_2m.1) (cst zJ c_ans4.2.2.1.2 q_tku0n_2m.2.1) = true := by decide +kernel
theorem t_tku0n_2m {X : pX} {ρ0 : sR} (hv : vok X ρ0) : CUTOK X kR zJ c_ans4 11 ρ0 q_tku0n_2m := CUT_run kR_x kR_0 (Cs := [(zJ, c_jab), (zJR, c_reqj)]) (fun C hC => by
    simp only [List.mem_cons, List.not_mem_nil, or_false] at hC
    rcases hC with hC | hC
    · rw [hC]; exact s_jab
    · rw [hC]; exact s_reqj) c_ans4_f (Q := []) hv (fun q hq => by cases hq) 760 (b1 := true) (b2 := true) k_tku0n_2m
theorem t_tku0n_2 {X : pX} {ρ0 : sR} (hv : vok X ρ0) : CUTOK X kR zJ c_ans4 11 ρ0 q_tku0n_2 := CUT_mono (t_tku0n_2m hv) (fun ρ hF hI => ⟨⟨hF.1, by
    have g : ¬ (160 : Int32) < ρ.1 1292 + ρ.1 60006 := of_decide_eq_false (hF.2 ((2, .int 160, .add (.arg 1292) (.arg 60006)), false) (by simp))
    rw [show ρ.1 60006 = (2 : Int32) from of_decide_eq_true (hF.2 _ List.mem_cons_self)] at g
    have hs : 0 ≤ (ρ.1 1292).toInt ∧ (ρ.1 1292).toInt ≤ 160 := hF.1.1 1292 (0, 160) rfl
    have z : (160 : Int32).toInt = 160 := rfl
    have zn : (2 : Int32).toInt = 2 := rfl
    have zm : (158 : Int32).toInt = 158 := rfl
    rw [Int32.lt_iff_toInt_lt, z, s_add (by rw [zn]; omega) (by rw [zn]; omega), zn] at g
    exact fcn (decide_eq_false (show ¬ (158 : Int32) < ρ.1 1292 by rw [Int32.lt_iff_toInt_lt, zm]; omega)) hF.2⟩, hI⟩)
noncomputable def q_tku0n_3 : sCut := ((fr 0 82 0 [(0, tr 203), (1, .arg 5121), (3, .arg 60006)] [], [fr 0 81 23 [(0, tr 203), (1, .arg 5121), (3, .arg 60004)] [], fr 0 76 79 [(0, tr 203), (1, .arg 5121), (3, .arg 60004)] [], fBot], 9), (fr 0 383 0 [(0, tr 219), (1, .arg 60006)] [], [fr 0 382 31 [(0, tr 219), (1, .arg 60004)] [], fr 0 377 46 [(0, tr 219)] [], fBot], 9), [((0, .arg 60006, .int 3), true), ((2, .int 160, .add (.arg 1292) (.arg 60006)), false), ((0, .arg 17888, .int 0), true), ((0, .arg 19456, .int 0), true), ((0, .arg 17728, .int 1), true), ((0, .arg 17856, .int 4), true), ((0, .arg 19424, .int 5), true), ((0, .arg 17888, .arg 19456), true), ((2, .arg 17888, .int 0), false), ((2, .int 1, .arg 17888), false), ((2, .int 7, .arg 60006), false)], [])
noncomputable def q_tku0n_3m : sCut := ((fr 0 82 0 [(0, tr 203), (1, .arg 5121), (3, .arg 60006)] [], [fr 0 81 23 [(0, tr 203), (1, .arg 5121), (3, .arg 60004)] [], fr 0 76 79 [(0, tr 203), (1, .arg 5121), (3, .arg 60004)] [], fBot], 9), (fr 0 383 0 [(0, tr 219), (1, .arg 60006)] [], [fr 0 382 31 [(0, tr 219), (1, .arg 60004)] [], fr 0 377 46 [(0, tr 219)] [], fBot], 9), [((2, .int 157, .arg 1292), false), ((0, .arg 60006, .int 3), true), ((2, .int 160, .add (.arg 1292) (.arg 60006)), false), ((0, .arg 17888, .int 0), true), ((0, .arg 19456, .int 0), true), ((0, .arg 17728, .int 1), true), ((0, .arg 17856, .int 4), true), ((0, .arg 19424, .int 5), true), ((0, .arg 17888, .arg 19456), true), ((2, .arg 17888, .int 0), false), ((2, .int 1, .arg 17888), false), ((2, .int 7, .arg 60006), false)], [])
theorem k_tku0n_3m : cbody kR [(zJ, c_jab), (zJR, c_reqj)] (cpl1 zJ c_ans4 []) (cpl2 zJ c_ans4 []) (cleaf kR zJ c_ans4 []) 760 true true q_tku0n_3m.2.2.1 q_tku0n_3m.2.2.2 (cst zJ c_ans4.2.2.1.1 q_tku0n_3m.1) (cst zJ c_ans4.2.2.1.2 q_tku0n_3m.2.1) = true := by decide +kernel
theorem t_tku0n_3m {X : pX} {ρ0 : sR} (hv : vok X ρ0) : CUTOK X kR zJ c_ans4 11 ρ0 q_tku0n_3m := CUT_run kR_x kR_0 (Cs := [(zJ, c_jab), (zJR, c_reqj)]) (fun C hC => by
    simp only [List.mem_cons, List.not_mem_nil, or_false] at hC
    rcases hC with hC | hC
    · rw [hC]; exact s_jab
    · rw [hC]; exact s_reqj) c_ans4_f (Q := []) hv (fun q hq => by cases hq) 760 (b1 := true) (b2 := true) k_tku0n_3m
theorem t_tku0n_3 {X : pX} {ρ0 : sR} (hv : vok X ρ0) : CUTOK X kR zJ c_ans4 11 ρ0 q_tku0n_3 := CUT_mono (t_tku0n_3m hv) (fun ρ hF hI => ⟨⟨hF.1, by
    have g : ¬ (160 : Int32) < ρ.1 1292 + ρ.1 60006 := of_decide_eq_false (hF.2 ((2, .int 160, .add (.arg 1292) (.arg 60006)), false) (by simp))
    rw [show ρ.1 60006 = (3 : Int32) from of_decide_eq_true (hF.2 _ List.mem_cons_self)] at g
    have hs : 0 ≤ (ρ.1 1292).toInt ∧ (ρ.1 1292).toInt ≤ 160 := hF.1.1 1292 (0, 160) rfl
    have z : (160 : Int32).toInt = 160 := rfl
    have zn : (3 : Int32).toInt = 3 := rfl
    have zm : (157 : Int32).toInt = 157 := rfl
    rw [Int32.lt_iff_toInt_lt, z, s_add (by rw [zn]; omega) (by rw [zn]; omega), zn] at g
    exact fcn (decide_eq_false (show ¬ (157 : Int32) < ρ.1 1292 by rw [Int32.lt_iff_toInt_lt, zm]; omega)) hF.2⟩, hI⟩)
noncomputable def q_tku0n_4 : sCut := ((fr 0 82 0 [(0, tr 203), (1, .arg 5121), (3, .arg 60006)] [], [fr 0 81 23 [(0, tr 203), (1, .arg 5121), (3, .arg 60004)] [], fr 0 76 79 [(0, tr 203), (1, .arg 5121), (3, .arg 60004)] [], fBot], 9), (fr 0 383 0 [(0, tr 219), (1, .arg 60006)] [], [fr 0 382 31 [(0, tr 219), (1, .arg 60004)] [], fr 0 377 46 [(0, tr 219)] [], fBot], 9), [((0, .arg 60006, .int 4), true), ((2, .int 160, .add (.arg 1292) (.arg 60006)), false), ((0, .arg 17888, .int 0), true), ((0, .arg 19456, .int 0), true), ((0, .arg 17728, .int 1), true), ((0, .arg 17856, .int 4), true), ((0, .arg 19424, .int 5), true), ((0, .arg 17888, .arg 19456), true), ((2, .arg 17888, .int 0), false), ((2, .int 1, .arg 17888), false), ((2, .int 7, .arg 60006), false)], [])
noncomputable def q_tku0n_4m : sCut := ((fr 0 82 0 [(0, tr 203), (1, .arg 5121), (3, .arg 60006)] [], [fr 0 81 23 [(0, tr 203), (1, .arg 5121), (3, .arg 60004)] [], fr 0 76 79 [(0, tr 203), (1, .arg 5121), (3, .arg 60004)] [], fBot], 9), (fr 0 383 0 [(0, tr 219), (1, .arg 60006)] [], [fr 0 382 31 [(0, tr 219), (1, .arg 60004)] [], fr 0 377 46 [(0, tr 219)] [], fBot], 9), [((2, .int 156, .arg 1292), false), ((0, .arg 60006, .int 4), true), ((2, .int 160, .add (.arg 1292) (.arg 60006)), false), ((0, .arg 17888, .int 0), true), ((0, .arg 19456, .int 0), true), ((0, .arg 17728, .int 1), true), ((0, .arg 17856, .int 4), true), ((0, .arg 19424, .int 5), true), ((0, .arg 17888, .arg 19456), true), ((2, .arg 17888, .int 0), false), ((2, .int 1, .arg 17888), false), ((2, .int 7, .arg 60006), false)], [])
theorem k_tku0n_4m : cbody kR [(zJ, c_jab), (zJR, c_reqj)] (cpl1 zJ c_ans4 []) (cpl2 zJ c_ans4 []) (cleaf kR zJ c_ans4 []) 760 true true q_tku0n_4m.2.2.1 q_tku0n_4m.2.2.2 (cst zJ c_ans4.2.2.1.1 q_tku0n_4m.1) (cst zJ c_ans4.2.2.1.2 q_tku0n_4m.2.1) = true := by decide +kernel
theorem t_tku0n_4m {X : pX} {ρ0 : sR} (hv : vok X ρ0) : CUTOK X kR zJ c_ans4 11 ρ0 q_tku0n_4m := CUT_run kR_x kR_0 (Cs := [(zJ, c_jab), (zJR, c_reqj)]) (fun C hC => by
    simp only [List.mem_cons, List.not_mem_nil, or_false] at hC
    rcases hC with hC | hC
    · rw [hC]; exact s_jab
    · rw [hC]; exact s_reqj) c_ans4_f (Q := []) hv (fun q hq => by cases hq) 760 (b1 := true) (b2 := true) k_tku0n_4m
theorem t_tku0n_4 {X : pX} {ρ0 : sR} (hv : vok X ρ0) : CUTOK X kR zJ c_ans4 11 ρ0 q_tku0n_4 := CUT_mono (t_tku0n_4m hv) (fun ρ hF hI => ⟨⟨hF.1, by
    have g : ¬ (160 : Int32) < ρ.1 1292 + ρ.1 60006 := of_decide_eq_false (hF.2 ((2, .int 160, .add (.arg 1292) (.arg 60006)), false) (by simp))
    rw [show ρ.1 60006 = (4 : Int32) from of_decide_eq_true (hF.2 _ List.mem_cons_self)] at g
    have hs : 0 ≤ (ρ.1 1292).toInt ∧ (ρ.1 1292).toInt ≤ 160 := hF.1.1 1292 (0, 160) rfl
    have z : (160 : Int32).toInt = 160 := rfl
    have zn : (4 : Int32).toInt = 4 := rfl
    have zm : (156 : Int32).toInt = 156 := rfl
    rw [Int32.lt_iff_toInt_lt, z, s_add (by rw [zn]; omega) (by rw [zn]; omega), zn] at g
    exact fcn (decide_eq_false (show ¬ (156 : Int32) < ρ.1 1292 by rw [Int32.lt_iff_toInt_lt, zm]; omega)) hF.2⟩, hI⟩)
noncomputable def q_tku0n_5 : sCut := ((fr 0 82 0 [(0, tr 203), (1, .arg 5121), (3, .arg 60006)] [], [fr 0 81 23 [(0, tr 203), (1, .arg 5121), (3, .arg 60004)] [], fr 0 76 79 [(0, tr 203), (1, .arg 5121), (3, .arg 60004)] [], fBot], 9), (fr 0 383 0 [(0, tr 219), (1, .arg 60006)] [], [fr 0 382 31 [(0, tr 219), (1, .arg 60004)] [], fr 0 377 46 [(0, tr 219)] [], fBot], 9), [((0, .arg 60006, .int 5), true), ((2, .int 160, .add (.arg 1292) (.arg 60006)), false), ((0, .arg 17888, .int 0), true), ((0, .arg 19456, .int 0), true), ((0, .arg 17728, .int 1), true), ((0, .arg 17856, .int 4), true), ((0, .arg 19424, .int 5), true), ((0, .arg 17888, .arg 19456), true), ((2, .arg 17888, .int 0), false), ((2, .int 1, .arg 17888), false), ((2, .int 7, .arg 60006), false)], [])
noncomputable def q_tku0n_5m : sCut := ((fr 0 82 0 [(0, tr 203), (1, .arg 5121), (3, .arg 60006)] [], [fr 0 81 23 [(0, tr 203), (1, .arg 5121), (3, .arg 60004)] [], fr 0 76 79 [(0, tr 203), (1, .arg 5121), (3, .arg 60004)] [], fBot], 9), (fr 0 383 0 [(0, tr 219), (1, .arg 60006)] [], [fr 0 382 31 [(0, tr 219), (1, .arg 60004)] [], fr 0 377 46 [(0, tr 219)] [], fBot], 9), [((2, .int 155, .arg 1292), false), ((0, .arg 60006, .int 5), true), ((2, .int 160, .add (.arg 1292) (.arg 60006)), false), ((0, .arg 17888, .int 0), true), ((0, .arg 19456, .int 0), true), ((0, .arg 17728, .int 1), true), ((0, .arg 17856, .int 4), true), ((0, .arg 19424, .int 5), true), ((0, .arg 17888, .arg 19456), true), ((2, .arg 17888, .int 0), false), ((2, .int 1, .arg 17888), false), ((2, .int 7, .arg 60006), false)], [])
theorem k_tku0n_5m : cbody kR [(zJ, c_jab), (zJR, c_reqj)] (cpl1 zJ c_ans4 []) (cpl2 zJ c_ans4 []) (cleaf kR zJ c_ans4 []) 760 true true q_tku0n_5m.2.2.1 q_tku0n_5m.2.2.2 (cst zJ c_ans4.2.2.1.1 q_tku0n_5m.1) (cst zJ c_ans4.2.2.1.2 q_tku0n_5m.2.1) = true := by decide +kernel
theorem t_tku0n_5m {X : pX} {ρ0 : sR} (hv : vok X ρ0) : CUTOK X kR zJ c_ans4 11 ρ0 q_tku0n_5m := CUT_run kR_x kR_0 (Cs := [(zJ, c_jab), (zJR, c_reqj)]) (fun C hC => by
    simp only [List.mem_cons, List.not_mem_nil, or_false] at hC
    rcases hC with hC | hC
    · rw [hC]; exact s_jab
    · rw [hC]; exact s_reqj) c_ans4_f (Q := []) hv (fun q hq => by cases hq) 760 (b1 := true) (b2 := true) k_tku0n_5m
theorem t_tku0n_5 {X : pX} {ρ0 : sR} (hv : vok X ρ0) : CUTOK X kR zJ c_ans4 11 ρ0 q_tku0n_5 := CUT_mono (t_tku0n_5m hv) (fun ρ hF hI => ⟨⟨hF.1, by
    have g : ¬ (160 : Int32) < ρ.1 1292 + ρ.1 60006 := of_decide_eq_false (hF.2 ((2, .int 160, .add (.arg 1292) (.arg 60006)), false) (by simp))
    rw [show ρ.1 60006 = (5 : Int32) from of_decide_eq_true (hF.2 _ List.mem_cons_self)] at g
    have hs : 0 ≤ (ρ.1 1292).toInt ∧ (ρ.1 1292).toInt ≤ 160 := hF.1.1 1292 (0, 160) rfl
    have z : (160 : Int32).toInt = 160 := rfl
    have zn : (5 : Int32).toInt = 5 := rfl
    have zm : (155 : Int32).toInt = 155 := rfl
    rw [Int32.lt_iff_toInt_lt, z, s_add (by rw [zn]; omega) (by rw [zn]; omega), zn] at g
    exact fcn (decide_eq_false (show ¬ (155 : Int32) < ρ.1 1292 by rw [Int32.lt_iff_toInt_lt, zm]; omega)) hF.2⟩, hI⟩)
noncomputable def q_tku0n_6 : sCut := ((fr 0 82 0 [(0, tr 203), (1, .arg 5121), (3, .arg 60006)] [], [fr 0 81 23 [(0, tr 203), (1, .arg 5121), (3, .arg 60004)] [], fr 0 76 79 [(0, tr 203), (1, .arg 5121), (3, .arg 60004)] [], fBot], 9), (fr 0 383 0 [(0, tr 219), (1, .arg 60006)] [], [fr 0 382 31 [(0, tr 219), (1, .arg 60004)] [], fr 0 377 46 [(0, tr 219)] [], fBot], 9), [((0, .arg 60006, .int 6), true), ((2, .int 160, .add (.arg 1292) (.arg 60006)), false), ((0, .arg 17888, .int 0), true), ((0, .arg 19456, .int 0), true), ((0, .arg 17728, .int 1), true), ((0, .arg 17856, .int 4), true), ((0, .arg 19424, .int 5), true), ((0, .arg 17888, .arg 19456), true), ((2, .arg 17888, .int 0), false), ((2, .int 1, .arg 17888), false), ((2, .int 7, .arg 60006), false)], [])
noncomputable def q_tku0n_6m : sCut := ((fr 0 82 0 [(0, tr 203), (1, .arg 5121), (3, .arg 60006)] [], [fr 0 81 23 [(0, tr 203), (1, .arg 5121), (3, .arg 60004)] [], fr 0 76 79 [(0, tr 203), (1, .arg 5121), (3, .arg 60004)] [], fBot], 9), (fr 0 383 0 [(0, tr 219), (1, .arg 60006)] [], [fr 0 382 31 [(0, tr 219), (1, .arg 60004)] [], fr 0 377 46 [(0, tr 219)] [], fBot], 9), [((2, .int 154, .arg 1292), false), ((0, .arg 60006, .int 6), true), ((2, .int 160, .add (.arg 1292) (.arg 60006)), false), ((0, .arg 17888, .int 0), true), ((0, .arg 19456, .int 0), true), ((0, .arg 17728, .int 1), true), ((0, .arg 17856, .int 4), true), ((0, .arg 19424, .int 5), true), ((0, .arg 17888, .arg 19456), true), ((2, .arg 17888, .int 0), false), ((2, .int 1, .arg 17888), false), ((2, .int 7, .arg 60006), false)], [])
theorem k_tku0n_6m : cbody kR [(zJ, c_jab), (zJR, c_reqj)] (cpl1 zJ c_ans4 []) (cpl2 zJ c_ans4 []) (cleaf kR zJ c_ans4 []) 760 true true q_tku0n_6m.2.2.1 q_tku0n_6m.2.2.2 (cst zJ c_ans4.2.2.1.1 q_tku0n_6m.1) (cst zJ c_ans4.2.2.1.2 q_tku0n_6m.2.1) = true := by decide +kernel
theorem t_tku0n_6m {X : pX} {ρ0 : sR} (hv : vok X ρ0) : CUTOK X kR zJ c_ans4 11 ρ0 q_tku0n_6m := CUT_run kR_x kR_0 (Cs := [(zJ, c_jab), (zJR, c_reqj)]) (fun C hC => by
    simp only [List.mem_cons, List.not_mem_nil, or_false] at hC
    rcases hC with hC | hC
    · rw [hC]; exact s_jab
    · rw [hC]; exact s_reqj) c_ans4_f (Q := []) hv (fun q hq => by cases hq) 760 (b1 := true) (b2 := true) k_tku0n_6m
theorem t_tku0n_6 {X : pX} {ρ0 : sR} (hv : vok X ρ0) : CUTOK X kR zJ c_ans4 11 ρ0 q_tku0n_6 := CUT_mono (t_tku0n_6m hv) (fun ρ hF hI => ⟨⟨hF.1, by
    have g : ¬ (160 : Int32) < ρ.1 1292 + ρ.1 60006 := of_decide_eq_false (hF.2 ((2, .int 160, .add (.arg 1292) (.arg 60006)), false) (by simp))
    rw [show ρ.1 60006 = (6 : Int32) from of_decide_eq_true (hF.2 _ List.mem_cons_self)] at g
    have hs : 0 ≤ (ρ.1 1292).toInt ∧ (ρ.1 1292).toInt ≤ 160 := hF.1.1 1292 (0, 160) rfl
    have z : (160 : Int32).toInt = 160 := rfl
    have zn : (6 : Int32).toInt = 6 := rfl
    have zm : (154 : Int32).toInt = 154 := rfl
    rw [Int32.lt_iff_toInt_lt, z, s_add (by rw [zn]; omega) (by rw [zn]; omega), zn] at g
    exact fcn (decide_eq_false (show ¬ (154 : Int32) < ρ.1 1292 by rw [Int32.lt_iff_toInt_lt, zm]; omega)) hF.2⟩, hI⟩)
noncomputable def q_tku0n_7 : sCut := ((fr 0 82 0 [(0, tr 203), (1, .arg 5121), (3, .arg 60006)] [], [fr 0 81 23 [(0, tr 203), (1, .arg 5121), (3, .arg 60004)] [], fr 0 76 79 [(0, tr 203), (1, .arg 5121), (3, .arg 60004)] [], fBot], 9), (fr 0 383 0 [(0, tr 219), (1, .arg 60006)] [], [fr 0 382 31 [(0, tr 219), (1, .arg 60004)] [], fr 0 377 46 [(0, tr 219)] [], fBot], 9), [((0, .arg 60006, .int 7), true), ((2, .int 160, .add (.arg 1292) (.arg 60006)), false), ((0, .arg 17888, .int 0), true), ((0, .arg 19456, .int 0), true), ((0, .arg 17728, .int 1), true), ((0, .arg 17856, .int 4), true), ((0, .arg 19424, .int 5), true), ((0, .arg 17888, .arg 19456), true), ((2, .arg 17888, .int 0), false), ((2, .int 1, .arg 17888), false), ((2, .int 7, .arg 60006), false)], [])
noncomputable def q_tku0n_7m : sCut := ((fr 0 82 0 [(0, tr 203), (1, .arg 5121), (3, .arg 60006)] [], [fr 0 81 23 [(0, tr 203), (1, .arg 5121), (3, .arg 60004)] [], fr 0 76 79 [(0, tr 203), (1, .arg 5121), (3, .arg 60004)] [], fBot], 9), (fr 0 383 0 [(0, tr 219), (1, .arg 60006)] [], [fr 0 382 31 [(0, tr 219), (1, .arg 60004)] [], fr 0 377 46 [(0, tr 219)] [], fBot], 9), [((2, .int 153, .arg 1292), false), ((0, .arg 60006, .int 7), true), ((2, .int 160, .add (.arg 1292) (.arg 60006)), false), ((0, .arg 17888, .int 0), true), ((0, .arg 19456, .int 0), true), ((0, .arg 17728, .int 1), true), ((0, .arg 17856, .int 4), true), ((0, .arg 19424, .int 5), true), ((0, .arg 17888, .arg 19456), true), ((2, .arg 17888, .int 0), false), ((2, .int 1, .arg 17888), false), ((2, .int 7, .arg 60006), false)], [])
theorem k_tku0n_7m : cbody kR [(zJ, c_jab), (zJR, c_reqj)] (cpl1 zJ c_ans4 []) (cpl2 zJ c_ans4 []) (cleaf kR zJ c_ans4 []) 760 true true q_tku0n_7m.2.2.1 q_tku0n_7m.2.2.2 (cst zJ c_ans4.2.2.1.1 q_tku0n_7m.1) (cst zJ c_ans4.2.2.1.2 q_tku0n_7m.2.1) = true := by decide +kernel
theorem t_tku0n_7m {X : pX} {ρ0 : sR} (hv : vok X ρ0) : CUTOK X kR zJ c_ans4 11 ρ0 q_tku0n_7m := CUT_run kR_x kR_0 (Cs := [(zJ, c_jab), (zJR, c_reqj)]) (fun C hC => by
    simp only [List.mem_cons, List.not_mem_nil, or_false] at hC
    rcases hC with hC | hC
    · rw [hC]; exact s_jab
    · rw [hC]; exact s_reqj) c_ans4_f (Q := []) hv (fun q hq => by cases hq) 760 (b1 := true) (b2 := true) k_tku0n_7m
theorem t_tku0n_7 {X : pX} {ρ0 : sR} (hv : vok X ρ0) : CUTOK X kR zJ c_ans4 11 ρ0 q_tku0n_7 := CUT_mono (t_tku0n_7m hv) (fun ρ hF hI => ⟨⟨hF.1, by
    have g : ¬ (160 : Int32) < ρ.1 1292 + ρ.1 60006 := of_decide_eq_false (hF.2 ((2, .int 160, .add (.arg 1292) (.arg 60006)), false) (by simp))
    rw [show ρ.1 60006 = (7 : Int32) from of_decide_eq_true (hF.2 _ List.mem_cons_self)] at g
    have hs : 0 ≤ (ρ.1 1292).toInt ∧ (ρ.1 1292).toInt ≤ 160 := hF.1.1 1292 (0, 160) rfl
    have z : (160 : Int32).toInt = 160 := rfl
    have zn : (7 : Int32).toInt = 7 := rfl
    have zm : (153 : Int32).toInt = 153 := rfl
    rw [Int32.lt_iff_toInt_lt, z, s_add (by rw [zn]; omega) (by rw [zn]; omega), zn] at g
    exact fcn (decide_eq_false (show ¬ (153 : Int32) < ρ.1 1292 by rw [Int32.lt_iff_toInt_lt, zm]; omega)) hF.2⟩, hI⟩)
noncomputable def q_tku0n_8 : sCut := ((fr 0 82 0 [(0, tr 203), (1, .arg 5121), (3, .arg 60006)] [], [fr 0 81 23 [(0, tr 203), (1, .arg 5121), (3, .arg 60004)] [], fr 0 76 79 [(0, tr 203), (1, .arg 5121), (3, .arg 60004)] [], fBot], 9), (fr 0 383 0 [(0, tr 219), (1, .arg 60006)] [], [fr 0 382 31 [(0, tr 219), (1, .arg 60004)] [], fr 0 377 46 [(0, tr 219)] [], fBot], 9), [((0, .arg 60006, .int 8), true), ((2, .int 7, .arg 60006), true), ((2, .int 160, .add (.arg 1292) (.arg 60006)), false), ((0, .arg 17888, .int 0), true), ((0, .arg 19456, .int 0), true), ((0, .arg 17728, .int 1), true), ((0, .arg 17856, .int 4), true), ((0, .arg 19424, .int 5), true), ((0, .arg 17888, .arg 19456), true), ((2, .arg 17888, .int 0), false), ((2, .int 1, .arg 17888), false), ((2, .int 7, .arg 60006), false)], [])
theorem k_tku0n_8 : cbody kR [(zJ, c_jab), (zJR, c_reqj)] (cpl1 zJ c_ans4 []) (cpl2 zJ c_ans4 []) (cleaf kR zJ c_ans4 []) 760 true true q_tku0n_8.2.2.1 q_tku0n_8.2.2.2 (cst zJ c_ans4.2.2.1.1 q_tku0n_8.1) (cst zJ c_ans4.2.2.1.2 q_tku0n_8.2.1) = true := by decide +kernel
theorem t_tku0n_8 {X : pX} {ρ0 : sR} (hv : vok X ρ0) : CUTOK X kR zJ c_ans4 11 ρ0 q_tku0n_8 := CUT_run kR_x kR_0 (Cs := [(zJ, c_jab), (zJR, c_reqj)]) (fun C hC => by
    simp only [List.mem_cons, List.not_mem_nil, or_false] at hC
    rcases hC with hC | hC
    · rw [hC]; exact s_jab
    · rw [hC]; exact s_reqj) c_ans4_f (Q := []) hv (fun q hq => by cases hq) 760 (b1 := true) (b2 := true) k_tku0n_8
theorem al_tku0n : alchk 60006 8 [[((0, .arg 60006, .int 0), true)], [((0, .arg 60006, .int 1), true)], [((0, .arg 60006, .int 2), true)], [((0, .arg 60006, .int 3), true)], [((0, .arg 60006, .int 4), true)], [((0, .arg 60006, .int 5), true)], [((0, .arg 60006, .int 6), true)], [((0, .arg 60006, .int 7), true)], [((0, .arg 60006, .int 8), true), ((2, .int 7, .arg 60006), true)]] = true := by decide +kernel
theorem t_tku0n {X : pX} {ρ0 : sR} (hv : vok X ρ0) : CUTOK X kR zJ c_ans4 11 ρ0 q_tku0n := CUT_alts 60006 8 [[((0, .arg 60006, .int 0), true)], [((0, .arg 60006, .int 1), true)], [((0, .arg 60006, .int 2), true)], [((0, .arg 60006, .int 3), true)], [((0, .arg 60006, .int 4), true)], [((0, .arg 60006, .int 5), true)], [((0, .arg 60006, .int 6), true)], [((0, .arg 60006, .int 7), true)], [((0, .arg 60006, .int 8), true), ((2, .int 7, .arg 60006), true)]] al_tku0n rfl (fun F hF => by
    simp only [List.mem_cons, List.not_mem_nil, or_false] at hF
    rcases hF with hF | hF | hF | hF | hF | hF | hF | hF | hF
    · rw [hF]; exact t_tku0n_0 hv
    · rw [hF]; exact t_tku0n_1 hv
    · rw [hF]; exact t_tku0n_2 hv
    · rw [hF]; exact t_tku0n_3 hv
    · rw [hF]; exact t_tku0n_4 hv
    · rw [hF]; exact t_tku0n_5 hv
    · rw [hF]; exact t_tku0n_6 hv
    · rw [hF]; exact t_tku0n_7 hv
    · rw [hF]; exact t_tku0n_8 hv)
theorem t_tku0 {X : pX} {ρ0 : sR} (hv : vok X ρ0) : CUTOK X kR zJ c_ans4 11 ρ0 q_tku0 := CUT_split (2, .int 160, .add (.arg 1292) (.arg 60006)) (t_tku0y hv) (t_tku0n hv)
noncomputable def q_tku1 : sCut := ((fr 0 82 0 [(0, tr 203), (1, .arg 5121), (3, .arg 60006)] [], [fr 0 81 23 [(0, tr 203), (1, .arg 5121), (3, .arg 60004)] [], fr 0 76 79 [(0, tr 203), (1, .arg 5121), (3, .arg 60004)] [], fBot], 9), (fr 0 383 0 [(0, tr 219), (1, .arg 60006)] [], [fr 0 382 31 [(0, tr 219), (1, .arg 60004)] [], fr 0 377 46 [(0, tr 219)] [], fBot], 9), [((0, .arg 17888, .int 1), true), ((0, .arg 19456, .int 1), true), ((0, .arg 17728, .int 1), true), ((0, .arg 17856, .int 4), true), ((0, .arg 19424, .int 5), true), ((0, .arg 17888, .arg 19456), true), ((2, .arg 17888, .int 0), false), ((2, .int 1, .arg 17888), false), ((2, .int 7, .arg 60006), false)], [])
noncomputable def q_tku1y : sCut := ((fr 0 82 0 [(0, tr 203), (1, .arg 5121), (3, .arg 60006)] [], [fr 0 81 23 [(0, tr 203), (1, .arg 5121), (3, .arg 60004)] [], fr 0 76 79 [(0, tr 203), (1, .arg 5121), (3, .arg 60004)] [], fBot], 9), (fr 0 383 0 [(0, tr 219), (1, .arg 60006)] [], [fr 0 382 31 [(0, tr 219), (1, .arg 60004)] [], fr 0 377 46 [(0, tr 219)] [], fBot], 9), [((2, .int 160, .add (.arg 1292) (.arg 60006)), true), ((0, .arg 17888, .int 1), true), ((0, .arg 19456, .int 1), true), ((0, .arg 17728, .int 1), true), ((0, .arg 17856, .int 4), true), ((0, .arg 19424, .int 5), true), ((0, .arg 17888, .arg 19456), true), ((2, .arg 17888, .int 0), false), ((2, .int 1, .arg 17888), false), ((2, .int 7, .arg 60006), false)], [])
theorem k_tku1y : cbody kR [(zJ, c_jab), (zJR, c_reqj)] (cpl1 zJ c_ans4 []) (cpl2 zJ c_ans4 []) (cleaf kR zJ c_ans4 []) 760 true true q_tku1y.2.2.1 q_tku1y.2.2.2 (cst zJ c_ans4.2.2.1.1 q_tku1y.1) (cst zJ c_ans4.2.2.1.2 q_tku1y.2.1) = true := by decide +kernel
theorem t_tku1y {X : pX} {ρ0 : sR} (hv : vok X ρ0) : CUTOK X kR zJ c_ans4 11 ρ0 q_tku1y := CUT_run kR_x kR_0 (Cs := [(zJ, c_jab), (zJR, c_reqj)]) (fun C hC => by
    simp only [List.mem_cons, List.not_mem_nil, or_false] at hC
    rcases hC with hC | hC
    · rw [hC]; exact s_jab
    · rw [hC]; exact s_reqj) c_ans4_f (Q := []) hv (fun q hq => by cases hq) 760 (b1 := true) (b2 := true) k_tku1y
noncomputable def q_tku1n : sCut := ((fr 0 82 0 [(0, tr 203), (1, .arg 5121), (3, .arg 60006)] [], [fr 0 81 23 [(0, tr 203), (1, .arg 5121), (3, .arg 60004)] [], fr 0 76 79 [(0, tr 203), (1, .arg 5121), (3, .arg 60004)] [], fBot], 9), (fr 0 383 0 [(0, tr 219), (1, .arg 60006)] [], [fr 0 382 31 [(0, tr 219), (1, .arg 60004)] [], fr 0 377 46 [(0, tr 219)] [], fBot], 9), [((2, .int 160, .add (.arg 1292) (.arg 60006)), false), ((0, .arg 17888, .int 1), true), ((0, .arg 19456, .int 1), true), ((0, .arg 17728, .int 1), true), ((0, .arg 17856, .int 4), true), ((0, .arg 19424, .int 5), true), ((0, .arg 17888, .arg 19456), true), ((2, .arg 17888, .int 0), false), ((2, .int 1, .arg 17888), false), ((2, .int 7, .arg 60006), false)], [])
noncomputable def q_tku1n_0 : sCut := ((fr 0 82 0 [(0, tr 203), (1, .arg 5121), (3, .arg 60006)] [], [fr 0 81 23 [(0, tr 203), (1, .arg 5121), (3, .arg 60004)] [], fr 0 76 79 [(0, tr 203), (1, .arg 5121), (3, .arg 60004)] [], fBot], 9), (fr 0 383 0 [(0, tr 219), (1, .arg 60006)] [], [fr 0 382 31 [(0, tr 219), (1, .arg 60004)] [], fr 0 377 46 [(0, tr 219)] [], fBot], 9), [((0, .arg 60006, .int 0), true), ((2, .int 160, .add (.arg 1292) (.arg 60006)), false), ((0, .arg 17888, .int 1), true), ((0, .arg 19456, .int 1), true), ((0, .arg 17728, .int 1), true), ((0, .arg 17856, .int 4), true), ((0, .arg 19424, .int 5), true), ((0, .arg 17888, .arg 19456), true), ((2, .arg 17888, .int 0), false), ((2, .int 1, .arg 17888), false), ((2, .int 7, .arg 60006), false)], [])
noncomputable def q_tku1n_0m : sCut := ((fr 0 82 0 [(0, tr 203), (1, .arg 5121), (3, .arg 60006)] [], [fr 0 81 23 [(0, tr 203), (1, .arg 5121), (3, .arg 60004)] [], fr 0 76 79 [(0, tr 203), (1, .arg 5121), (3, .arg 60004)] [], fBot], 9), (fr 0 383 0 [(0, tr 219), (1, .arg 60006)] [], [fr 0 382 31 [(0, tr 219), (1, .arg 60004)] [], fr 0 377 46 [(0, tr 219)] [], fBot], 9), [((2, .int 160, .arg 1292), false), ((0, .arg 60006, .int 0), true), ((2, .int 160, .add (.arg 1292) (.arg 60006)), false), ((0, .arg 17888, .int 1), true), ((0, .arg 19456, .int 1), true), ((0, .arg 17728, .int 1), true), ((0, .arg 17856, .int 4), true), ((0, .arg 19424, .int 5), true), ((0, .arg 17888, .arg 19456), true), ((2, .arg 17888, .int 0), false), ((2, .int 1, .arg 17888), false), ((2, .int 7, .arg 60006), false)], [])
theorem k_tku1n_0m : cbody kR [(zJ, c_jab), (zJR, c_reqj)] (cpl1 zJ c_ans4 []) (cpl2 zJ c_ans4 []) (cleaf kR zJ c_ans4 []) 760 true true q_tku1n_0m.2.2.1 q_tku1n_0m.2.2.2 (cst zJ c_ans4.2.2.1.1 q_tku1n_0m.1) (cst zJ c_ans4.2.2.1.2 q_tku1n_0m.2.1) = true := by decide +kernel
theorem t_tku1n_0m {X : pX} {ρ0 : sR} (hv : vok X ρ0) : CUTOK X kR zJ c_ans4 11 ρ0 q_tku1n_0m := CUT_run kR_x kR_0 (Cs := [(zJ, c_jab), (zJR, c_reqj)]) (fun C hC => by
    simp only [List.mem_cons, List.not_mem_nil, or_false] at hC
    rcases hC with hC | hC
    · rw [hC]; exact s_jab
    · rw [hC]; exact s_reqj) c_ans4_f (Q := []) hv (fun q hq => by cases hq) 760 (b1 := true) (b2 := true) k_tku1n_0m
theorem t_tku1n_0 {X : pX} {ρ0 : sR} (hv : vok X ρ0) : CUTOK X kR zJ c_ans4 11 ρ0 q_tku1n_0 := CUT_mono (t_tku1n_0m hv) (fun ρ hF hI => ⟨⟨hF.1, by
    have g : ¬ (160 : Int32) < ρ.1 1292 + ρ.1 60006 := of_decide_eq_false (hF.2 ((2, .int 160, .add (.arg 1292) (.arg 60006)), false) (by simp))
    rw [show ρ.1 60006 = (0 : Int32) from of_decide_eq_true (hF.2 _ List.mem_cons_self)] at g
    have hs : 0 ≤ (ρ.1 1292).toInt ∧ (ρ.1 1292).toInt ≤ 160 := hF.1.1 1292 (0, 160) rfl
    have z : (160 : Int32).toInt = 160 := rfl
    have zn : (0 : Int32).toInt = 0 := rfl
    have zm : (160 : Int32).toInt = 160 := rfl
    rw [Int32.lt_iff_toInt_lt, z, s_add (by rw [zn]; omega) (by rw [zn]; omega), zn] at g
    exact fcn (decide_eq_false (show ¬ (160 : Int32) < ρ.1 1292 by rw [Int32.lt_iff_toInt_lt, zm]; omega)) hF.2⟩, hI⟩)
noncomputable def q_tku1n_1 : sCut := ((fr 0 82 0 [(0, tr 203), (1, .arg 5121), (3, .arg 60006)] [], [fr 0 81 23 [(0, tr 203), (1, .arg 5121), (3, .arg 60004)] [], fr 0 76 79 [(0, tr 203), (1, .arg 5121), (3, .arg 60004)] [], fBot], 9), (fr 0 383 0 [(0, tr 219), (1, .arg 60006)] [], [fr 0 382 31 [(0, tr 219), (1, .arg 60004)] [], fr 0 377 46 [(0, tr 219)] [], fBot], 9), [((0, .arg 60006, .int 1), true), ((2, .int 160, .add (.arg 1292) (.arg 60006)), false), ((0, .arg 17888, .int 1), true), ((0, .arg 19456, .int 1), true), ((0, .arg 17728, .int 1), true), ((0, .arg 17856, .int 4), true), ((0, .arg 19424, .int 5), true), ((0, .arg 17888, .arg 19456), true), ((2, .arg 17888, .int 0), false), ((2, .int 1, .arg 17888), false), ((2, .int 7, .arg 60006), false)], [])
noncomputable def q_tku1n_1m : sCut := ((fr 0 82 0 [(0, tr 203), (1, .arg 5121), (3, .arg 60006)] [], [fr 0 81 23 [(0, tr 203), (1, .arg 5121), (3, .arg 60004)] [], fr 0 76 79 [(0, tr 203), (1, .arg 5121), (3, .arg 60004)] [], fBot], 9), (fr 0 383 0 [(0, tr 219), (1, .arg 60006)] [], [fr 0 382 31 [(0, tr 219), (1, .arg 60004)] [], fr 0 377 46 [(0, tr 219)] [], fBot], 9), [((2, .int 159, .arg 1292), false), ((0, .arg 60006, .int 1), true), ((2, .int 160, .add (.arg 1292) (.arg 60006)), false), ((0, .arg 17888, .int 1), true), ((0, .arg 19456, .int 1), true), ((0, .arg 17728, .int 1), true), ((0, .arg 17856, .int 4), true), ((0, .arg 19424, .int 5), true), ((0, .arg 17888, .arg 19456), true), ((2, .arg 17888, .int 0), false), ((2, .int 1, .arg 17888), false), ((2, .int 7, .arg 60006), false)], [])
theorem k_tku1n_1m : cbody kR [(zJ, c_jab), (zJR, c_reqj)] (cpl1 zJ c_ans4 []) (cpl2 zJ c_ans4 []) (cleaf kR zJ c_ans4 []) 760 true true q_tku1n_1m.2.2.1 q_tku1n_1m.2.2.2 (cst zJ c_ans4.2.2.1.1 q_tku1n_1m.1) (cst zJ c_ans4.2.2.1.2 q_tku1n_1m.2.1) = true := by decide +kernel
theorem t_tku1n_1m {X : pX} {ρ0 : sR} (hv : vok X ρ0) : CUTOK X kR zJ c_ans4 11 ρ0 q_tku1n_1m := CUT_run kR_x kR_0 (Cs := [(zJ, c_jab), (zJR, c_reqj)]) (fun C hC => by
    simp only [List.mem_cons, List.not_mem_nil, or_false] at hC
    rcases hC with hC | hC
    · rw [hC]; exact s_jab
    · rw [hC]; exact s_reqj) c_ans4_f (Q := []) hv (fun q hq => by cases hq) 760 (b1 := true) (b2 := true) k_tku1n_1m
theorem t_tku1n_1 {X : pX} {ρ0 : sR} (hv : vok X ρ0) : CUTOK X kR zJ c_ans4 11 ρ0 q_tku1n_1 := CUT_mono (t_tku1n_1m hv) (fun ρ hF hI => ⟨⟨hF.1, by
    have g : ¬ (160 : Int32) < ρ.1 1292 + ρ.1 60006 := of_decide_eq_false (hF.2 ((2, .int 160, .add (.arg 1292) (.arg 60006)), false) (by simp))
    rw [show ρ.1 60006 = (1 : Int32) from of_decide_eq_true (hF.2 _ List.mem_cons_self)] at g
    have hs : 0 ≤ (ρ.1 1292).toInt ∧ (ρ.1 1292).toInt ≤ 160 := hF.1.1 1292 (0, 160) rfl
    have z : (160 : Int32).toInt = 160 := rfl
    have zn : (1 : Int32).toInt = 1 := rfl
    have zm : (159 : Int32).toInt = 159 := rfl
    rw [Int32.lt_iff_toInt_lt, z, s_add (by rw [zn]; omega) (by rw [zn]; omega), zn] at g
    exact fcn (decide_eq_false (show ¬ (159 : Int32) < ρ.1 1292 by rw [Int32.lt_iff_toInt_lt, zm]; omega)) hF.2⟩, hI⟩)
noncomputable def q_tku1n_2 : sCut := ((fr 0 82 0 [(0, tr 203), (1, .arg 5121), (3, .arg 60006)] [], [fr 0 81 23 [(0, tr 203), (1, .arg 5121), (3, .arg 60004)] [], fr 0 76 79 [(0, tr 203), (1, .arg 5121), (3, .arg 60004)] [], fBot], 9), (fr 0 383 0 [(0, tr 219), (1, .arg 60006)] [], [fr 0 382 31 [(0, tr 219), (1, .arg 60004)] [], fr 0 377 46 [(0, tr 219)] [], fBot], 9), [((0, .arg 60006, .int 2), true), ((2, .int 160, .add (.arg 1292) (.arg 60006)), false), ((0, .arg 17888, .int 1), true), ((0, .arg 19456, .int 1), true), ((0, .arg 17728, .int 1), true), ((0, .arg 17856, .int 4), true), ((0, .arg 19424, .int 5), true), ((0, .arg 17888, .arg 19456), true), ((2, .arg 17888, .int 0), false), ((2, .int 1, .arg 17888), false), ((2, .int 7, .arg 60006), false)], [])
noncomputable def q_tku1n_2m : sCut := ((fr 0 82 0 [(0, tr 203), (1, .arg 5121), (3, .arg 60006)] [], [fr 0 81 23 [(0, tr 203), (1, .arg 5121), (3, .arg 60004)] [], fr 0 76 79 [(0, tr 203), (1, .arg 5121), (3, .arg 60004)] [], fBot], 9), (fr 0 383 0 [(0, tr 219), (1, .arg 60006)] [], [fr 0 382 31 [(0, tr 219), (1, .arg 60004)] [], fr 0 377 46 [(0, tr 219)] [], fBot], 9), [((2, .int 158, .arg 1292), false), ((0, .arg 60006, .int 2), true), ((2, .int 160, .add (.arg 1292) (.arg 60006)), false), ((0, .arg 17888, .int 1), true), ((0, .arg 19456, .int 1), true), ((0, .arg 17728, .int 1), true), ((0, .arg 17856, .int 4), true), ((0, .arg 19424, .int 5), true), ((0, .arg 17888, .arg 19456), true), ((2, .arg 17888, .int 0), false), ((2, .int 1, .arg 17888), false), ((2, .int 7, .arg 60006), false)], [])
theorem k_tku1n_2m : cbody kR [(zJ, c_jab), (zJR, c_reqj)] (cpl1 zJ c_ans4 []) (cpl2 zJ c_ans4 []) (cleaf kR zJ c_ans4 []) 760 true true q_tku1n_2m.2.2.1 q_tku1n_2m.2.2.2 (cst zJ c_ans4.2.2.1.1 q_tku1n_2m.1) (cst zJ c_ans4.2.2.1.2 q_tku1n_2m.2.1) = true := by decide +kernel
theorem t_tku1n_2m {X : pX} {ρ0 : sR} (hv : vok X ρ0) : CUTOK X kR zJ c_ans4 11 ρ0 q_tku1n_2m := CUT_run kR_x kR_0 (Cs := [(zJ, c_jab), (zJR, c_reqj)]) (fun C hC => by
    simp only [List.mem_cons, List.not_mem_nil, or_false] at hC
    rcases hC with hC | hC
    · rw [hC]; exact s_jab
    · rw [hC]; exact s_reqj) c_ans4_f (Q := []) hv (fun q hq => by cases hq) 760 (b1 := true) (b2 := true) k_tku1n_2m
theorem t_tku1n_2 {X : pX} {ρ0 : sR} (hv : vok X ρ0) : CUTOK X kR zJ c_ans4 11 ρ0 q_tku1n_2 := CUT_mono (t_tku1n_2m hv) (fun ρ hF hI => ⟨⟨hF.1, by
    have g : ¬ (160 : Int32) < ρ.1 1292 + ρ.1 60006 := of_decide_eq_false (hF.2 ((2, .int 160, .add (.arg 1292) (.arg 60006)), false) (by simp))
    rw [show ρ.1 60006 = (2 : Int32) from of_decide_eq_true (hF.2 _ List.mem_cons_self)] at g
    have hs : 0 ≤ (ρ.1 1292).toInt ∧ (ρ.1 1292).toInt ≤ 160 := hF.1.1 1292 (0, 160) rfl
    have z : (160 : Int32).toInt = 160 := rfl
    have zn : (2 : Int32).toInt = 2 := rfl
    have zm : (158 : Int32).toInt = 158 := rfl
    rw [Int32.lt_iff_toInt_lt, z, s_add (by rw [zn]; omega) (by rw [zn]; omega), zn] at g
    exact fcn (decide_eq_false (show ¬ (158 : Int32) < ρ.1 1292 by rw [Int32.lt_iff_toInt_lt, zm]; omega)) hF.2⟩, hI⟩)
noncomputable def q_tku1n_3 : sCut := ((fr 0 82 0 [(0, tr 203), (1, .arg 5121), (3, .arg 60006)] [], [fr 0 81 23 [(0, tr 203), (1, .arg 5121), (3, .arg 60004)] [], fr 0 76 79 [(0, tr 203), (1, .arg 5121), (3, .arg 60004)] [], fBot], 9), (fr 0 383 0 [(0, tr 219), (1, .arg 60006)] [], [fr 0 382 31 [(0, tr 219), (1, .arg 60004)] [], fr 0 377 46 [(0, tr 219)] [], fBot], 9), [((0, .arg 60006, .int 3), true), ((2, .int 160, .add (.arg 1292) (.arg 60006)), false), ((0, .arg 17888, .int 1), true), ((0, .arg 19456, .int 1), true), ((0, .arg 17728, .int 1), true), ((0, .arg 17856, .int 4), true), ((0, .arg 19424, .int 5), true), ((0, .arg 17888, .arg 19456), true), ((2, .arg 17888, .int 0), false), ((2, .int 1, .arg 17888), false), ((2, .int 7, .arg 60006), false)], [])
noncomputable def q_tku1n_3m : sCut := ((fr 0 82 0 [(0, tr 203), (1, .arg 5121), (3, .arg 60006)] [], [fr 0 81 23 [(0, tr 203), (1, .arg 5121), (3, .arg 60004)] [], fr 0 76 79 [(0, tr 203), (1, .arg 5121), (3, .arg 60004)] [], fBot], 9), (fr 0 383 0 [(0, tr 219), (1, .arg 60006)] [], [fr 0 382 31 [(0, tr 219), (1, .arg 60004)] [], fr 0 377 46 [(0, tr 219)] [], fBot], 9), [((2, .int 157, .arg 1292), false), ((0, .arg 60006, .int 3), true), ((2, .int 160, .add (.arg 1292) (.arg 60006)), false), ((0, .arg 17888, .int 1), true), ((0, .arg 19456, .int 1), true), ((0, .arg 17728, .int 1), true), ((0, .arg 17856, .int 4), true), ((0, .arg 19424, .int 5), true), ((0, .arg 17888, .arg 19456), true), ((2, .arg 17888, .int 0), false), ((2, .int 1, .arg 17888), false), ((2, .int 7, .arg 60006), false)], [])
theorem k_tku1n_3m : cbody kR [(zJ, c_jab), (zJR, c_reqj)] (cpl1 zJ c_ans4 []) (cpl2 zJ c_ans4 []) (cleaf kR zJ c_ans4 []) 760 true true q_tku1n_3m.2.2.1 q_tku1n_3m.2.2.2 (cst zJ c_ans4.2.2.1.1 q_tku1n_3m.1) (cst zJ c_ans4.2.2.1.2 q_tku1n_3m.2.1) = true := by decide +kernel
theorem t_tku1n_3m {X : pX} {ρ0 : sR} (hv : vok X ρ0) : CUTOK X kR zJ c_ans4 11 ρ0 q_tku1n_3m := CUT_run kR_x kR_0 (Cs := [(zJ, c_jab), (zJR, c_reqj)]) (fun C hC => by
    simp only [List.mem_cons, List.not_mem_nil, or_false] at hC
    rcases hC with hC | hC
    · rw [hC]; exact s_jab
    · rw [hC]; exact s_reqj) c_ans4_f (Q := []) hv (fun q hq => by cases hq) 760 (b1 := true) (b2 := true) k_tku1n_3m
theorem t_tku1n_3 {X : pX} {ρ0 : sR} (hv : vok X ρ0) : CUTOK X kR zJ c_ans4 11 ρ0 q_tku1n_3 := CUT_mono (t_tku1n_3m hv) (fun ρ hF hI => ⟨⟨hF.1, by
    have g : ¬ (160 : Int32) < ρ.1 1292 + ρ.1 60006 := of_decide_eq_false (hF.2 ((2, .int 160, .add (.arg 1292) (.arg 60006)), false) (by simp))
    rw [show ρ.1 60006 = (3 : Int32) from of_decide_eq_true (hF.2 _ List.mem_cons_self)] at g
    have hs : 0 ≤ (ρ.1 1292).toInt ∧ (ρ.1 1292).toInt ≤ 160 := hF.1.1 1292 (0, 160) rfl
    have z : (160 : Int32).toInt = 160 := rfl
    have zn : (3 : Int32).toInt = 3 := rfl
    have zm : (157 : Int32).toInt = 157 := rfl
    rw [Int32.lt_iff_toInt_lt, z, s_add (by rw [zn]; omega) (by rw [zn]; omega), zn] at g
    exact fcn (decide_eq_false (show ¬ (157 : Int32) < ρ.1 1292 by rw [Int32.lt_iff_toInt_lt, zm]; omega)) hF.2⟩, hI⟩)
noncomputable def q_tku1n_4 : sCut := ((fr 0 82 0 [(0, tr 203), (1, .arg 5121), (3, .arg 60006)] [], [fr 0 81 23 [(0, tr 203), (1, .arg 5121), (3, .arg 60004)] [], fr 0 76 79 [(0, tr 203), (1, .arg 5121), (3, .arg 60004)] [], fBot], 9), (fr 0 383 0 [(0, tr 219), (1, .arg 60006)] [], [fr 0 382 31 [(0, tr 219), (1, .arg 60004)] [], fr 0 377 46 [(0, tr 219)] [], fBot], 9), [((0, .arg 60006, .int 4), true), ((2, .int 160, .add (.arg 1292) (.arg 60006)), false), ((0, .arg 17888, .int 1), true), ((0, .arg 19456, .int 1), true), ((0, .arg 17728, .int 1), true), ((0, .arg 17856, .int 4), true), ((0, .arg 19424, .int 5), true), ((0, .arg 17888, .arg 19456), true), ((2, .arg 17888, .int 0), false), ((2, .int 1, .arg 17888), false), ((2, .int 7, .arg 60006), false)], [])
noncomputable def q_tku1n_4m : sCut := ((fr 0 82 0 [(0, tr 203), (1, .arg 5121), (3, .arg 60006)] [], [fr 0 81 23 [(0, tr 203), (1, .arg 5121), (3, .arg 60004)] [], fr 0 76 79 [(0, tr 203), (1, .arg 5121), (3, .arg 60004)] [], fBot], 9), (fr 0 383 0 [(0, tr 219), (1, .arg 60006)] [], [fr 0 382 31 [(0, tr 219), (1, .arg 60004)] [], fr 0 377 46 [(0, tr 219)] [], fBot], 9), [((2, .int 156, .arg 1292), false), ((0, .arg 60006, .int 4), true), ((2, .int 160, .add (.arg 1292) (.arg 60006)), false), ((0, .arg 17888, .int 1), true), ((0, .arg 19456, .int 1), true), ((0, .arg 17728, .int 1), true), ((0, .arg 17856, .int 4), true), ((0, .arg 19424, .int 5), true), ((0, .arg 17888, .arg 19456), true), ((2, .arg 17888, .int 0), false), ((2, .int 1, .arg 17888), false), ((2, .int 7, .arg 60006), false)], [])
theorem k_tku1n_4m : cbody kR [(zJ, c_jab), (zJR, c_reqj)] (cpl1 zJ c_ans4 []) (cpl2 zJ c_ans4 []) (cleaf kR zJ c_ans4 []) 760 true true q_tku1n_4m.2.2.1 q_tku1n_4m.2.2.2 (cst zJ c_ans4.2.2.1.1 q_tku1n_4m.1) (cst zJ c_ans4.2.2.1.2 q_tku1n_4m.2.1) = true := by decide +kernel
theorem t_tku1n_4m {X : pX} {ρ0 : sR} (hv : vok X ρ0) : CUTOK X kR zJ c_ans4 11 ρ0 q_tku1n_4m := CUT_run kR_x kR_0 (Cs := [(zJ, c_jab), (zJR, c_reqj)]) (fun C hC => by
    simp only [List.mem_cons, List.not_mem_nil, or_false] at hC
    rcases hC with hC | hC
    · rw [hC]; exact s_jab
    · rw [hC]; exact s_reqj) c_ans4_f (Q := []) hv (fun q hq => by cases hq) 760 (b1 := true) (b2 := true) k_tku1n_4m
theorem t_tku1n_4 {X : pX} {ρ0 : sR} (hv : vok X ρ0) : CUTOK X kR zJ c_ans4 11 ρ0 q_tku1n_4 := CUT_mono (t_tku1n_4m hv) (fun ρ hF hI => ⟨⟨hF.1, by
    have g : ¬ (160 : Int32) < ρ.1 1292 + ρ.1 60006 := of_decide_eq_false (hF.2 ((2, .int 160, .add (.arg 1292) (.arg 60006)), false) (by simp))
    rw [show ρ.1 60006 = (4 : Int32) from of_decide_eq_true (hF.2 _ List.mem_cons_self)] at g
    have hs : 0 ≤ (ρ.1 1292).toInt ∧ (ρ.1 1292).toInt ≤ 160 := hF.1.1 1292 (0, 160) rfl
    have z : (160 : Int32).toInt = 160 := rfl
    have zn : (4 : Int32).toInt = 4 := rfl
    have zm : (156 : Int32).toInt = 156 := rfl
    rw [Int32.lt_iff_toInt_lt, z, s_add (by rw [zn]; omega) (by rw [zn]; omega), zn] at g
    exact fcn (decide_eq_false (show ¬ (156 : Int32) < ρ.1 1292 by rw [Int32.lt_iff_toInt_lt, zm]; omega)) hF.2⟩, hI⟩)
noncomputable def q_tku1n_5 : sCut := ((fr 0 82 0 [(0, tr 203), (1, .arg 5121), (3, .arg 60006)] [], [fr 0 81 23 [(0, tr 203), (1, .arg 5121), (3, .arg 60004)] [], fr 0 76 79 [(0, tr 203), (1, .arg 5121), (3, .arg 60004)] [], fBot], 9), (fr 0 383 0 [(0, tr 219), (1, .arg 60006)] [], [fr 0 382 31 [(0, tr 219), (1, .arg 60004)] [], fr 0 377 46 [(0, tr 219)] [], fBot], 9), [((0, .arg 60006, .int 5), true), ((2, .int 160, .add (.arg 1292) (.arg 60006)), false), ((0, .arg 17888, .int 1), true), ((0, .arg 19456, .int 1), true), ((0, .arg 17728, .int 1), true), ((0, .arg 17856, .int 4), true), ((0, .arg 19424, .int 5), true), ((0, .arg 17888, .arg 19456), true), ((2, .arg 17888, .int 0), false), ((2, .int 1, .arg 17888), false), ((2, .int 7, .arg 60006), false)], [])
noncomputable def q_tku1n_5m : sCut := ((fr 0 82 0 [(0, tr 203), (1, .arg 5121), (3, .arg 60006)] [], [fr 0 81 23 [(0, tr 203), (1, .arg 5121), (3, .arg 60004)] [], fr 0 76 79 [(0, tr 203), (1, .arg 5121), (3, .arg 60004)] [], fBot], 9), (fr 0 383 0 [(0, tr 219), (1, .arg 60006)] [], [fr 0 382 31 [(0, tr 219), (1, .arg 60004)] [], fr 0 377 46 [(0, tr 219)] [], fBot], 9), [((2, .int 155, .arg 1292), false), ((0, .arg 60006, .int 5), true), ((2, .int 160, .add (.arg 1292) (.arg 60006)), false), ((0, .arg 17888, .int 1), true), ((0, .arg 19456, .int 1), true), ((0, .arg 17728, .int 1), true), ((0, .arg 17856, .int 4), true), ((0, .arg 19424, .int 5), true), ((0, .arg 17888, .arg 19456), true), ((2, .arg 17888, .int 0), false), ((2, .int 1, .arg 17888), false), ((2, .int 7, .arg 60006), false)], [])
theorem k_tku1n_5m : cbody kR [(zJ, c_jab), (zJR, c_reqj)] (cpl1 zJ c_ans4 []) (cpl2 zJ c_ans4 []) (cleaf kR zJ c_ans4 []) 760 true true q_tku1n_5m.2.2.1 q_tku1n_5m.2.2.2 (cst zJ c_ans4.2.2.1.1 q_tku1n_5m.1) (cst zJ c_ans4.2.2.1.2 q_tku1n_5m.2.1) = true := by decide +kernel
theorem t_tku1n_5m {X : pX} {ρ0 : sR} (hv : vok X ρ0) : CUTOK X kR zJ c_ans4 11 ρ0 q_tku1n_5m := CUT_run kR_x kR_0 (Cs := [(zJ, c_jab), (zJR, c_reqj)]) (fun C hC => by
    simp only [List.mem_cons, List.not_mem_nil, or_false] at hC
    rcases hC with hC | hC
    · rw [hC]; exact s_jab
    · rw [hC]; exact s_reqj) c_ans4_f (Q := []) hv (fun q hq => by cases hq) 760 (b1 := true) (b2 := true) k_tku1n_5m
theorem t_tku1n_5 {X : pX} {ρ0 : sR} (hv : vok X ρ0) : CUTOK X kR zJ c_ans4 11 ρ0 q_tku1n_5 := CUT_mono (t_tku1n_5m hv) (fun ρ hF hI => ⟨⟨hF.1, by
    have g : ¬ (160 : Int32) < ρ.1 1292 + ρ.1 60006 := of_decide_eq_false (hF.2 ((2, .int 160, .add (.arg 1292) (.arg 60006)), false) (by simp))
    rw [show ρ.1 60006 = (5 : Int32) from of_decide_eq_true (hF.2 _ List.mem_cons_self)] at g
    have hs : 0 ≤ (ρ.1 1292).toInt ∧ (ρ.1 1292).toInt ≤ 160 := hF.1.1 1292 (0, 160) rfl
    have z : (160 : Int32).toInt = 160 := rfl
    have zn : (5 : Int32).toInt = 5 := rfl
    have zm : (155 : Int32).toInt = 155 := rfl
    rw [Int32.lt_iff_toInt_lt, z, s_add (by rw [zn]; omega) (by rw [zn]; omega), zn] at g
    exact fcn (decide_eq_false (show ¬ (155 : Int32) < ρ.1 1292 by rw [Int32.lt_iff_toInt_lt, zm]; omega)) hF.2⟩, hI⟩)
noncomputable def q_tku1n_6 : sCut := ((fr 0 82 0 [(0, tr 203), (1, .arg 5121), (3, .arg 60006)] [], [fr 0 81 23 [(0, tr 203), (1, .arg 5121), (3, .arg 60004)] [], fr 0 76 79 [(0, tr 203), (1, .arg 5121), (3, .arg 60004)] [], fBot], 9), (fr 0 383 0 [(0, tr 219), (1, .arg 60006)] [], [fr 0 382 31 [(0, tr 219), (1, .arg 60004)] [], fr 0 377 46 [(0, tr 219)] [], fBot], 9), [((0, .arg 60006, .int 6), true), ((2, .int 160, .add (.arg 1292) (.arg 60006)), false), ((0, .arg 17888, .int 1), true), ((0, .arg 19456, .int 1), true), ((0, .arg 17728, .int 1), true), ((0, .arg 17856, .int 4), true), ((0, .arg 19424, .int 5), true), ((0, .arg 17888, .arg 19456), true), ((2, .arg 17888, .int 0), false), ((2, .int 1, .arg 17888), false), ((2, .int 7, .arg 60006), false)], [])
noncomputable def q_tku1n_6m : sCut := ((fr 0 82 0 [(0, tr 203), (1, .arg 5121), (3, .arg 60006)] [], [fr 0 81 23 [(0, tr 203), (1, .arg 5121), (3, .arg 60004)] [], fr 0 76 79 [(0, tr 203), (1, .arg 5121), (3, .arg 60004)] [], fBot], 9), (fr 0 383 0 [(0, tr 219), (1, .arg 60006)] [], [fr 0 382 31 [(0, tr 219), (1, .arg 60004)] [], fr 0 377 46 [(0, tr 219)] [], fBot], 9), [((2, .int 154, .arg 1292), false), ((0, .arg 60006, .int 6), true), ((2, .int 160, .add (.arg 1292) (.arg 60006)), false), ((0, .arg 17888, .int 1), true), ((0, .arg 19456, .int 1), true), ((0, .arg 17728, .int 1), true), ((0, .arg 17856, .int 4), true), ((0, .arg 19424, .int 5), true), ((0, .arg 17888, .arg 19456), true), ((2, .arg 17888, .int 0), false), ((2, .int 1, .arg 17888), false), ((2, .int 7, .arg 60006), false)], [])
theorem k_tku1n_6m : cbody kR [(zJ, c_jab), (zJR, c_reqj)] (cpl1 zJ c_ans4 []) (cpl2 zJ c_ans4 []) (cleaf kR zJ c_ans4 []) 760 true true q_tku1n_6m.2.2.1 q_tku1n_6m.2.2.2 (cst zJ c_ans4.2.2.1.1 q_tku1n_6m.1) (cst zJ c_ans4.2.2.1.2 q_tku1n_6m.2.1) = true := by decide +kernel
theorem t_tku1n_6m {X : pX} {ρ0 : sR} (hv : vok X ρ0) : CUTOK X kR zJ c_ans4 11 ρ0 q_tku1n_6m := CUT_run kR_x kR_0 (Cs := [(zJ, c_jab), (zJR, c_reqj)]) (fun C hC => by
    simp only [List.mem_cons, List.not_mem_nil, or_false] at hC
    rcases hC with hC | hC
    · rw [hC]; exact s_jab
    · rw [hC]; exact s_reqj) c_ans4_f (Q := []) hv (fun q hq => by cases hq) 760 (b1 := true) (b2 := true) k_tku1n_6m
theorem t_tku1n_6 {X : pX} {ρ0 : sR} (hv : vok X ρ0) : CUTOK X kR zJ c_ans4 11 ρ0 q_tku1n_6 := CUT_mono (t_tku1n_6m hv) (fun ρ hF hI => ⟨⟨hF.1, by
    have g : ¬ (160 : Int32) < ρ.1 1292 + ρ.1 60006 := of_decide_eq_false (hF.2 ((2, .int 160, .add (.arg 1292) (.arg 60006)), false) (by simp))
    rw [show ρ.1 60006 = (6 : Int32) from of_decide_eq_true (hF.2 _ List.mem_cons_self)] at g
    have hs : 0 ≤ (ρ.1 1292).toInt ∧ (ρ.1 1292).toInt ≤ 160 := hF.1.1 1292 (0, 160) rfl
    have z : (160 : Int32).toInt = 160 := rfl
    have zn : (6 : Int32).toInt = 6 := rfl
    have zm : (154 : Int32).toInt = 154 := rfl
    rw [Int32.lt_iff_toInt_lt, z, s_add (by rw [zn]; omega) (by rw [zn]; omega), zn] at g
    exact fcn (decide_eq_false (show ¬ (154 : Int32) < ρ.1 1292 by rw [Int32.lt_iff_toInt_lt, zm]; omega)) hF.2⟩, hI⟩)
noncomputable def q_tku1n_7 : sCut := ((fr 0 82 0 [(0, tr 203), (1, .arg 5121), (3, .arg 60006)] [], [fr 0 81 23 [(0, tr 203), (1, .arg 5121), (3, .arg 60004)] [], fr 0 76 79 [(0, tr 203), (1, .arg 5121), (3, .arg 60004)] [], fBot], 9), (fr 0 383 0 [(0, tr 219), (1, .arg 60006)] [], [fr 0 382 31 [(0, tr 219), (1, .arg 60004)] [], fr 0 377 46 [(0, tr 219)] [], fBot], 9), [((0, .arg 60006, .int 7), true), ((2, .int 160, .add (.arg 1292) (.arg 60006)), false), ((0, .arg 17888, .int 1), true), ((0, .arg 19456, .int 1), true), ((0, .arg 17728, .int 1), true), ((0, .arg 17856, .int 4), true), ((0, .arg 19424, .int 5), true), ((0, .arg 17888, .arg 19456), true), ((2, .arg 17888, .int 0), false), ((2, .int 1, .arg 17888), false), ((2, .int 7, .arg 60006), false)], [])
noncomputable def q_tku1n_7m : sCut := ((fr 0 82 0 [(0, tr 203), (1, .arg 5121), (3, .arg 60006)] [], [fr 0 81 23 [(0, tr 203), (1, .arg 5121), (3, .arg 60004)] [], fr 0 76 79 [(0, tr 203), (1, .arg 5121), (3, .arg 60004)] [], fBot], 9), (fr 0 383 0 [(0, tr 219), (1, .arg 60006)] [], [fr 0 382 31 [(0, tr 219), (1, .arg 60004)] [], fr 0 377 46 [(0, tr 219)] [], fBot], 9), [((2, .int 153, .arg 1292), false), ((0, .arg 60006, .int 7), true), ((2, .int 160, .add (.arg 1292) (.arg 60006)), false), ((0, .arg 17888, .int 1), true), ((0, .arg 19456, .int 1), true), ((0, .arg 17728, .int 1), true), ((0, .arg 17856, .int 4), true), ((0, .arg 19424, .int 5), true), ((0, .arg 17888, .arg 19456), true), ((2, .arg 17888, .int 0), false), ((2, .int 1, .arg 17888), false), ((2, .int 7, .arg 60006), false)], [])
theorem k_tku1n_7m : cbody kR [(zJ, c_jab), (zJR, c_reqj)] (cpl1 zJ c_ans4 []) (cpl2 zJ c_ans4 []) (cleaf kR zJ c_ans4 []) 760 true true q_tku1n_7m.2.2.1 q_tku1n_7m.2.2.2 (cst zJ c_ans4.2.2.1.1 q_tku1n_7m.1) (cst zJ c_ans4.2.2.1.2 q_tku1n_7m.2.1) = true := by decide +kernel
theorem t_tku1n_7m {X : pX} {ρ0 : sR} (hv : vok X ρ0) : CUTOK X kR zJ c_ans4 11 ρ0 q_tku1n_7m := CUT_run kR_x kR_0 (Cs := [(zJ, c_jab), (zJR, c_reqj)]) (fun C hC => by
    simp only [List.mem_cons, List.not_mem_nil, or_false] at hC
    rcases hC with hC | hC
    · rw [hC]; exact s_jab
    · rw [hC]; exact s_reqj) c_ans4_f (Q := []) hv (fun q hq => by cases hq) 760 (b1 := true) (b2 := true) k_tku1n_7m
theorem t_tku1n_7 {X : pX} {ρ0 : sR} (hv : vok X ρ0) : CUTOK X kR zJ c_ans4 11 ρ0 q_tku1n_7 := CUT_mono (t_tku1n_7m hv) (fun ρ hF hI => ⟨⟨hF.1, by
    have g : ¬ (160 : Int32) < ρ.1 1292 + ρ.1 60006 := of_decide_eq_false (hF.2 ((2, .int 160, .add (.arg 1292) (.arg 60006)), false) (by simp))
    rw [show ρ.1 60006 = (7 : Int32) from of_decide_eq_true (hF.2 _ List.mem_cons_self)] at g
    have hs : 0 ≤ (ρ.1 1292).toInt ∧ (ρ.1 1292).toInt ≤ 160 := hF.1.1 1292 (0, 160) rfl
    have z : (160 : Int32).toInt = 160 := rfl
    have zn : (7 : Int32).toInt = 7 := rfl
    have zm : (153 : Int32).toInt = 153 := rfl
    rw [Int32.lt_iff_toInt_lt, z, s_add (by rw [zn]; omega) (by rw [zn]; omega), zn] at g
    exact fcn (decide_eq_false (show ¬ (153 : Int32) < ρ.1 1292 by rw [Int32.lt_iff_toInt_lt, zm]; omega)) hF.2⟩, hI⟩)
noncomputable def q_tku1n_8 : sCut := ((fr 0 82 0 [(0, tr 203), (1, .arg 5121), (3, .arg 60006)] [], [fr 0 81 23 [(0, tr 203), (1, .arg 5121), (3, .arg 60004)] [], fr 0 76 79 [(0, tr 203), (1, .arg 5121), (3, .arg 60004)] [], fBot], 9), (fr 0 383 0 [(0, tr 219), (1, .arg 60006)] [], [fr 0 382 31 [(0, tr 219), (1, .arg 60004)] [], fr 0 377 46 [(0, tr 219)] [], fBot], 9), [((0, .arg 60006, .int 8), true), ((2, .int 7, .arg 60006), true), ((2, .int 160, .add (.arg 1292) (.arg 60006)), false), ((0, .arg 17888, .int 1), true), ((0, .arg 19456, .int 1), true), ((0, .arg 17728, .int 1), true), ((0, .arg 17856, .int 4), true), ((0, .arg 19424, .int 5), true), ((0, .arg 17888, .arg 19456), true), ((2, .arg 17888, .int 0), false), ((2, .int 1, .arg 17888), false), ((2, .int 7, .arg 60006), false)], [])
theorem k_tku1n_8 : cbody kR [(zJ, c_jab), (zJR, c_reqj)] (cpl1 zJ c_ans4 []) (cpl2 zJ c_ans4 []) (cleaf kR zJ c_ans4 []) 760 true true q_tku1n_8.2.2.1 q_tku1n_8.2.2.2 (cst zJ c_ans4.2.2.1.1 q_tku1n_8.1) (cst zJ c_ans4.2.2.1.2 q_tku1n_8.2.1) = true := by decide +kernel
theorem t_tku1n_8 {X : pX} {ρ0 : sR} (hv : vok X ρ0) : CUTOK X kR zJ c_ans4 11 ρ0 q_tku1n_8 := CUT_run kR_x kR_0 (Cs := [(zJ, c_jab), (zJR, c_reqj)]) (fun C hC => by
    simp only [List.mem_cons, List.not_mem_nil, or_false] at hC
    rcases hC with hC | hC
    · rw [hC]; exact s_jab
    · rw [hC]; exact s_reqj) c_ans4_f (Q := []) hv (fun q hq => by cases hq) 760 (b1 := true) (b2 := true) k_tku1n_8
theorem al_tku1n : alchk 60006 8 [[((0, .arg 60006, .int 0), true)], [((0, .arg 60006, .int 1), true)], [((0, .arg 60006, .int 2), true)], [((0, .arg 60006, .int 3), true)], [((0, .arg 60006, .int 4), true)], [((0, .arg 60006, .int 5), true)], [((0, .arg 60006, .int 6), true)], [((0, .arg 60006, .int 7), true)], [((0, .arg 60006, .int 8), true), ((2, .int 7, .arg 60006), true)]] = true := by decide +kernel
theorem t_tku1n {X : pX} {ρ0 : sR} (hv : vok X ρ0) : CUTOK X kR zJ c_ans4 11 ρ0 q_tku1n := CUT_alts 60006 8 [[((0, .arg 60006, .int 0), true)], [((0, .arg 60006, .int 1), true)], [((0, .arg 60006, .int 2), true)], [((0, .arg 60006, .int 3), true)], [((0, .arg 60006, .int 4), true)], [((0, .arg 60006, .int 5), true)], [((0, .arg 60006, .int 6), true)], [((0, .arg 60006, .int 7), true)], [((0, .arg 60006, .int 8), true), ((2, .int 7, .arg 60006), true)]] al_tku1n rfl (fun F hF => by
    simp only [List.mem_cons, List.not_mem_nil, or_false] at hF
    rcases hF with hF | hF | hF | hF | hF | hF | hF | hF | hF
    · rw [hF]; exact t_tku1n_0 hv
    · rw [hF]; exact t_tku1n_1 hv
    · rw [hF]; exact t_tku1n_2 hv
    · rw [hF]; exact t_tku1n_3 hv
    · rw [hF]; exact t_tku1n_4 hv
    · rw [hF]; exact t_tku1n_5 hv
    · rw [hF]; exact t_tku1n_6 hv
    · rw [hF]; exact t_tku1n_7 hv
    · rw [hF]; exact t_tku1n_8 hv)
theorem t_tku1 {X : pX} {ρ0 : sR} (hv : vok X ρ0) : CUTOK X kR zJ c_ans4 11 ρ0 q_tku1 := CUT_split (2, .int 160, .add (.arg 1292) (.arg 60006)) (t_tku1y hv) (t_tku1n hv)
theorem t_tk {X : pX} {ρ0 : sR} (hv : vok X ρ0) : CUTOK X kR zJ c_ans4 11 ρ0 q_tk := fun ρ k1 hF hI k4 => by
  have e2 : ρ.1 17888 = ρ.1 19456 := of_decide_eq_true (hF.2 _ (List.mem_cons_of_mem _ (List.mem_cons_of_mem _ (List.mem_cons_of_mem _ (List.mem_cons_self)))))
  have u0 : ¬ ρ.1 17888 < 0 := of_decide_eq_false (hF.2 _ (List.mem_cons_of_mem _ (List.mem_cons_of_mem _ (List.mem_cons_of_mem _ (List.mem_cons_of_mem _ (List.mem_cons_self))))))
  have u1 : ¬ 1 < ρ.1 17888 := of_decide_eq_false (hF.2 _ (List.mem_cons_of_mem _ (List.mem_cons_of_mem _ (List.mem_cons_of_mem _ (List.mem_cons_of_mem _ (List.mem_cons_of_mem _ (List.mem_cons_self)))))))
  have z0 : (0 : Int32).toInt = 0 := rfl
  have z1 : (1 : Int32).toInt = 1 := rfl
  rw [Int32.lt_iff_toInt_lt, z0] at u0
  rw [Int32.lt_iff_toInt_lt, z1] at u1
  rcases (show (ρ.1 17888).toInt = 0 ∨ (ρ.1 17888).toInt = 1 by omega) with hu | hu
  · have h1 : ρ.1 17888 = Int32.ofInt 0 := Int32.toInt_inj.mp (by rw [hu]; rfl)
    exact t_tku0 hv ρ k1 ⟨hF.1, fcn (decide_eq_true h1) (fcn (decide_eq_true (e2.symm.trans h1)) hF.2)⟩ hI k4
  · have h1 : ρ.1 17888 = Int32.ofInt 1 := Int32.toInt_inj.mp (by rw [hu]; rfl)
    exact t_tku1 hv ρ k1 ⟨hF.1, fcn (decide_eq_true h1) (fcn (decide_eq_true (e2.symm.trans h1)) hF.2)⟩ hI k4
noncomputable def q_b4 : sCut := ((fr 3 76 9 [(0, tr 203), (1, .arg 5121), (3, .arg 60004)] [], [fBot], 11), (fr 0 377 9 [(0, tr 219), (1, .arg 60004)] [], [fBot], 11), [((0, .op1 .l2i (.op2 .land (.op2 .lshr (.arg 5121) (.int 0)) (.long 255)), .arg 60004), true), ((0, .arg 17728, .int 1), true), ((0, .arg 17856, .int 4), true), ((0, .arg 19424, .int 5), true), ((0, .arg 17888, .arg 19456), true), ((2, .arg 17888, .int 0), false), ((2, .int 1, .arg 17888), false)], [])
noncomputable def q_b4u0 : sCut := ((fr 3 76 9 [(0, tr 203), (1, .arg 5121), (3, .arg 60004)] [], [fBot], 11), (fr 0 377 9 [(0, tr 219), (1, .arg 60004)] [], [fBot], 11), [((0, .arg 17888, .int 0), true), ((0, .arg 19456, .int 0), true), ((0, .op1 .l2i (.op2 .land (.op2 .lshr (.arg 5121) (.int 0)) (.long 255)), .arg 60004), true), ((0, .arg 17728, .int 1), true), ((0, .arg 17856, .int 4), true), ((0, .arg 19424, .int 5), true), ((0, .arg 17888, .arg 19456), true), ((2, .arg 17888, .int 0), false), ((2, .int 1, .arg 17888), false)], [])
noncomputable def q_b4u0_0 : sCut := ((fr 3 76 9 [(0, tr 203), (1, .arg 5121), (3, .arg 60004)] [], [fBot], 11), (fr 0 377 9 [(0, tr 219), (1, .arg 60004)] [], [fBot], 11), [((2, .arg 60004, .int 32), false), ((0, .arg 17888, .int 0), true), ((0, .arg 19456, .int 0), true), ((0, .op1 .l2i (.op2 .land (.op2 .lshr (.arg 5121) (.int 0)) (.long 255)), .arg 60004), true), ((0, .arg 17728, .int 1), true), ((0, .arg 17856, .int 4), true), ((0, .arg 19424, .int 5), true), ((0, .arg 17888, .arg 19456), true), ((2, .arg 17888, .int 0), false), ((2, .int 1, .arg 17888), false)], [])
theorem k_b4u0_0 : cbody kR [(zJ, c_jab), (zJR, c_reqj)] (cpl1 zJ c_ans4 [q_tk]) (cpl2 zJ c_ans4 [q_tk]) (cleaf kR zJ c_ans4 [q_tk]) 260 true true q_b4u0_0.2.2.1 q_b4u0_0.2.2.2 (cst zJ c_ans4.2.2.1.1 q_b4u0_0.1) (cst zJ c_ans4.2.2.1.2 q_b4u0_0.2.1) = true := by decide +kernel
theorem t_b4u0_0 {X : pX} {ρ0 : sR} (hv : vok X ρ0) : CUTOK X kR zJ c_ans4 11 ρ0 q_b4u0_0 := CUT_run kR_x kR_0 (Cs := [(zJ, c_jab), (zJR, c_reqj)]) (fun C hC => by
    simp only [List.mem_cons, List.not_mem_nil, or_false] at hC
    rcases hC with hC | hC
    · rw [hC]; exact s_jab
    · rw [hC]; exact s_reqj) c_ans4_f (Q := [q_tk]) hv (fun q hq => by
    simp only [List.mem_cons, List.not_mem_nil, or_false] at hq
    rw [hq]; exact t_tk hv) 260 (b1 := true) (b2 := true) k_b4u0_0
noncomputable def q_b4u0_1 : sCut := ((fr 3 76 9 [(0, tr 203), (1, .arg 5121), (3, .arg 60004)] [], [fBot], 11), (fr 0 377 9 [(0, tr 219), (1, .arg 60004)] [], [fBot], 11), [((2, .arg 60004, .int 32), true), ((0, .op2 .iushr (.arg 60004) (.int 4), .int 0), true), ((0, .op2 .iand (.op2 .ishr (.arg 60004) (.int 4)) (.int 1), .int 0), true), ((0, .sub (.int 7) (.op2 .iand (.op2 .iushr (.arg 60004) (.int 1)) (.int 7)), .sub (.int 7) (.op2 .iand (.op2 .ishr (.arg 60004) (.int 1)) (.int 7))), true), ((0, .arg 17888, .int 0), true), ((0, .arg 19456, .int 0), true), ((0, .op1 .l2i (.op2 .land (.op2 .lshr (.arg 5121) (.int 0)) (.long 255)), .arg 60004), true), ((0, .arg 17728, .int 1), true), ((0, .arg 17856, .int 4), true), ((0, .arg 19424, .int 5), true), ((0, .arg 17888, .arg 19456), true), ((2, .arg 17888, .int 0), false), ((2, .int 1, .arg 17888), false)], [])
theorem k_b4u0_1 : cbody kR [(zJ, c_jab), (zJR, c_reqj)] (cpl1 zJ c_ans4 [q_tk]) (cpl2 zJ c_ans4 [q_tk]) (cleaf kR zJ c_ans4 [q_tk]) 260 true true q_b4u0_1.2.2.1 q_b4u0_1.2.2.2 (cst zJ c_ans4.2.2.1.1 q_b4u0_1.1) (cst zJ c_ans4.2.2.1.2 q_b4u0_1.2.1) = true := by decide +kernel
theorem t_b4u0_1 {X : pX} {ρ0 : sR} (hv : vok X ρ0) : CUTOK X kR zJ c_ans4 11 ρ0 q_b4u0_1 := CUT_run kR_x kR_0 (Cs := [(zJ, c_jab), (zJR, c_reqj)]) (fun C hC => by
    simp only [List.mem_cons, List.not_mem_nil, or_false] at hC
    rcases hC with hC | hC
    · rw [hC]; exact s_jab
    · rw [hC]; exact s_reqj) c_ans4_f (Q := [q_tk]) hv (fun q hq => by
    simp only [List.mem_cons, List.not_mem_nil, or_false] at hq
    rw [hq]; exact t_tk hv) 260 (b1 := true) (b2 := true) k_b4u0_1
noncomputable def q_b4u0_2 : sCut := ((fr 3 76 9 [(0, tr 203), (1, .arg 5121), (3, .arg 60004)] [], [fBot], 11), (fr 0 377 9 [(0, tr 219), (1, .arg 60004)] [], [fBot], 11), [((2, .arg 60004, .int 32), true), ((0, .op2 .iushr (.arg 60004) (.int 4), .int 0), false), ((0, .op2 .iand (.op2 .ishr (.arg 60004) (.int 4)) (.int 1), .int 0), false), ((0, .arg 17888, .int 0), true), ((0, .arg 19456, .int 0), true), ((0, .op1 .l2i (.op2 .land (.op2 .lshr (.arg 5121) (.int 0)) (.long 255)), .arg 60004), true), ((0, .arg 17728, .int 1), true), ((0, .arg 17856, .int 4), true), ((0, .arg 19424, .int 5), true), ((0, .arg 17888, .arg 19456), true), ((2, .arg 17888, .int 0), false), ((2, .int 1, .arg 17888), false)], [])
theorem k_b4u0_2 : cbody kR [(zJ, c_jab), (zJR, c_reqj)] (cpl1 zJ c_ans4 [q_tk]) (cpl2 zJ c_ans4 [q_tk]) (cleaf kR zJ c_ans4 [q_tk]) 260 true true q_b4u0_2.2.2.1 q_b4u0_2.2.2.2 (cst zJ c_ans4.2.2.1.1 q_b4u0_2.1) (cst zJ c_ans4.2.2.1.2 q_b4u0_2.2.1) = true := by decide +kernel
theorem t_b4u0_2 {X : pX} {ρ0 : sR} (hv : vok X ρ0) : CUTOK X kR zJ c_ans4 11 ρ0 q_b4u0_2 := CUT_run kR_x kR_0 (Cs := [(zJ, c_jab), (zJR, c_reqj)]) (fun C hC => by
    simp only [List.mem_cons, List.not_mem_nil, or_false] at hC
    rcases hC with hC | hC
    · rw [hC]; exact s_jab
    · rw [hC]; exact s_reqj) c_ans4_f (Q := [q_tk]) hv (fun q hq => by
    simp only [List.mem_cons, List.not_mem_nil, or_false] at hq
    rw [hq]; exact t_tk hv) 260 (b1 := true) (b2 := true) k_b4u0_2
theorem al_b4u0 : alchk 60004 255 [[((2, .arg 60004, .int 32), false)], [((2, .arg 60004, .int 32), true), ((0, .op2 .iushr (.arg 60004) (.int 4), .int 0), true), ((0, .op2 .iand (.op2 .ishr (.arg 60004) (.int 4)) (.int 1), .int 0), true), ((0, .sub (.int 7) (.op2 .iand (.op2 .iushr (.arg 60004) (.int 1)) (.int 7)), .sub (.int 7) (.op2 .iand (.op2 .ishr (.arg 60004) (.int 1)) (.int 7))), true)], [((2, .arg 60004, .int 32), true), ((0, .op2 .iushr (.arg 60004) (.int 4), .int 0), false), ((0, .op2 .iand (.op2 .ishr (.arg 60004) (.int 4)) (.int 1), .int 0), false)]] = true := by decide +kernel
theorem t_b4u0 {X : pX} {ρ0 : sR} (hv : vok X ρ0) : CUTOK X kR zJ c_ans4 11 ρ0 q_b4u0 := CUT_alts 60004 255 [[((2, .arg 60004, .int 32), false)], [((2, .arg 60004, .int 32), true), ((0, .op2 .iushr (.arg 60004) (.int 4), .int 0), true), ((0, .op2 .iand (.op2 .ishr (.arg 60004) (.int 4)) (.int 1), .int 0), true), ((0, .sub (.int 7) (.op2 .iand (.op2 .iushr (.arg 60004) (.int 1)) (.int 7)), .sub (.int 7) (.op2 .iand (.op2 .ishr (.arg 60004) (.int 1)) (.int 7))), true)], [((2, .arg 60004, .int 32), true), ((0, .op2 .iushr (.arg 60004) (.int 4), .int 0), false), ((0, .op2 .iand (.op2 .ishr (.arg 60004) (.int 4)) (.int 1), .int 0), false)]] al_b4u0 rfl (fun F hF => by
    simp only [List.mem_cons, List.not_mem_nil, or_false] at hF
    rcases hF with hF | hF | hF
    · rw [hF]; exact t_b4u0_0 hv
    · rw [hF]; exact t_b4u0_1 hv
    · rw [hF]; exact t_b4u0_2 hv)
noncomputable def q_b4u1 : sCut := ((fr 3 76 9 [(0, tr 203), (1, .arg 5121), (3, .arg 60004)] [], [fBot], 11), (fr 0 377 9 [(0, tr 219), (1, .arg 60004)] [], [fBot], 11), [((0, .arg 17888, .int 1), true), ((0, .arg 19456, .int 1), true), ((0, .op1 .l2i (.op2 .land (.op2 .lshr (.arg 5121) (.int 0)) (.long 255)), .arg 60004), true), ((0, .arg 17728, .int 1), true), ((0, .arg 17856, .int 4), true), ((0, .arg 19424, .int 5), true), ((0, .arg 17888, .arg 19456), true), ((2, .arg 17888, .int 0), false), ((2, .int 1, .arg 17888), false)], [])
noncomputable def q_b4u1_0 : sCut := ((fr 3 76 9 [(0, tr 203), (1, .arg 5121), (3, .arg 60004)] [], [fBot], 11), (fr 0 377 9 [(0, tr 219), (1, .arg 60004)] [], [fBot], 11), [((2, .arg 60004, .int 32), false), ((0, .arg 17888, .int 1), true), ((0, .arg 19456, .int 1), true), ((0, .op1 .l2i (.op2 .land (.op2 .lshr (.arg 5121) (.int 0)) (.long 255)), .arg 60004), true), ((0, .arg 17728, .int 1), true), ((0, .arg 17856, .int 4), true), ((0, .arg 19424, .int 5), true), ((0, .arg 17888, .arg 19456), true), ((2, .arg 17888, .int 0), false), ((2, .int 1, .arg 17888), false)], [])
theorem k_b4u1_0 : cbody kR [(zJ, c_jab), (zJR, c_reqj)] (cpl1 zJ c_ans4 [q_tk]) (cpl2 zJ c_ans4 [q_tk]) (cleaf kR zJ c_ans4 [q_tk]) 260 true true q_b4u1_0.2.2.1 q_b4u1_0.2.2.2 (cst zJ c_ans4.2.2.1.1 q_b4u1_0.1) (cst zJ c_ans4.2.2.1.2 q_b4u1_0.2.1) = true := by decide +kernel
theorem t_b4u1_0 {X : pX} {ρ0 : sR} (hv : vok X ρ0) : CUTOK X kR zJ c_ans4 11 ρ0 q_b4u1_0 := CUT_run kR_x kR_0 (Cs := [(zJ, c_jab), (zJR, c_reqj)]) (fun C hC => by
    simp only [List.mem_cons, List.not_mem_nil, or_false] at hC
    rcases hC with hC | hC
    · rw [hC]; exact s_jab
    · rw [hC]; exact s_reqj) c_ans4_f (Q := [q_tk]) hv (fun q hq => by
    simp only [List.mem_cons, List.not_mem_nil, or_false] at hq
    rw [hq]; exact t_tk hv) 260 (b1 := true) (b2 := true) k_b4u1_0
noncomputable def q_b4u1_1 : sCut := ((fr 3 76 9 [(0, tr 203), (1, .arg 5121), (3, .arg 60004)] [], [fBot], 11), (fr 0 377 9 [(0, tr 219), (1, .arg 60004)] [], [fBot], 11), [((2, .arg 60004, .int 32), true), ((0, .op2 .iushr (.arg 60004) (.int 4), .int 1), true), ((0, .op2 .iand (.op2 .ishr (.arg 60004) (.int 4)) (.int 1), .int 1), true), ((0, .sub (.int 7) (.op2 .iand (.op2 .iushr (.arg 60004) (.int 1)) (.int 7)), .sub (.int 7) (.op2 .iand (.op2 .ishr (.arg 60004) (.int 1)) (.int 7))), true), ((0, .arg 17888, .int 1), true), ((0, .arg 19456, .int 1), true), ((0, .op1 .l2i (.op2 .land (.op2 .lshr (.arg 5121) (.int 0)) (.long 255)), .arg 60004), true), ((0, .arg 17728, .int 1), true), ((0, .arg 17856, .int 4), true), ((0, .arg 19424, .int 5), true), ((0, .arg 17888, .arg 19456), true), ((2, .arg 17888, .int 0), false), ((2, .int 1, .arg 17888), false)], [])
theorem k_b4u1_1 : cbody kR [(zJ, c_jab), (zJR, c_reqj)] (cpl1 zJ c_ans4 [q_tk]) (cpl2 zJ c_ans4 [q_tk]) (cleaf kR zJ c_ans4 [q_tk]) 260 true true q_b4u1_1.2.2.1 q_b4u1_1.2.2.2 (cst zJ c_ans4.2.2.1.1 q_b4u1_1.1) (cst zJ c_ans4.2.2.1.2 q_b4u1_1.2.1) = true := by decide +kernel
theorem t_b4u1_1 {X : pX} {ρ0 : sR} (hv : vok X ρ0) : CUTOK X kR zJ c_ans4 11 ρ0 q_b4u1_1 := CUT_run kR_x kR_0 (Cs := [(zJ, c_jab), (zJR, c_reqj)]) (fun C hC => by
    simp only [List.mem_cons, List.not_mem_nil, or_false] at hC
    rcases hC with hC | hC
    · rw [hC]; exact s_jab
    · rw [hC]; exact s_reqj) c_ans4_f (Q := [q_tk]) hv (fun q hq => by
    simp only [List.mem_cons, List.not_mem_nil, or_false] at hq
    rw [hq]; exact t_tk hv) 260 (b1 := true) (b2 := true) k_b4u1_1
noncomputable def q_b4u1_2 : sCut := ((fr 3 76 9 [(0, tr 203), (1, .arg 5121), (3, .arg 60004)] [], [fBot], 11), (fr 0 377 9 [(0, tr 219), (1, .arg 60004)] [], [fBot], 11), [((2, .arg 60004, .int 32), true), ((0, .op2 .iushr (.arg 60004) (.int 4), .int 1), false), ((0, .op2 .iand (.op2 .ishr (.arg 60004) (.int 4)) (.int 1), .int 1), false), ((0, .arg 17888, .int 1), true), ((0, .arg 19456, .int 1), true), ((0, .op1 .l2i (.op2 .land (.op2 .lshr (.arg 5121) (.int 0)) (.long 255)), .arg 60004), true), ((0, .arg 17728, .int 1), true), ((0, .arg 17856, .int 4), true), ((0, .arg 19424, .int 5), true), ((0, .arg 17888, .arg 19456), true), ((2, .arg 17888, .int 0), false), ((2, .int 1, .arg 17888), false)], [])
theorem k_b4u1_2 : cbody kR [(zJ, c_jab), (zJR, c_reqj)] (cpl1 zJ c_ans4 [q_tk]) (cpl2 zJ c_ans4 [q_tk]) (cleaf kR zJ c_ans4 [q_tk]) 260 true true q_b4u1_2.2.2.1 q_b4u1_2.2.2.2 (cst zJ c_ans4.2.2.1.1 q_b4u1_2.1) (cst zJ c_ans4.2.2.1.2 q_b4u1_2.2.1) = true := by decide +kernel
theorem t_b4u1_2 {X : pX} {ρ0 : sR} (hv : vok X ρ0) : CUTOK X kR zJ c_ans4 11 ρ0 q_b4u1_2 := CUT_run kR_x kR_0 (Cs := [(zJ, c_jab), (zJR, c_reqj)]) (fun C hC => by
    simp only [List.mem_cons, List.not_mem_nil, or_false] at hC
    rcases hC with hC | hC
    · rw [hC]; exact s_jab
    · rw [hC]; exact s_reqj) c_ans4_f (Q := [q_tk]) hv (fun q hq => by
    simp only [List.mem_cons, List.not_mem_nil, or_false] at hq
    rw [hq]; exact t_tk hv) 260 (b1 := true) (b2 := true) k_b4u1_2
theorem al_b4u1 : alchk 60004 255 [[((2, .arg 60004, .int 32), false)], [((2, .arg 60004, .int 32), true), ((0, .op2 .iushr (.arg 60004) (.int 4), .int 1), true), ((0, .op2 .iand (.op2 .ishr (.arg 60004) (.int 4)) (.int 1), .int 1), true), ((0, .sub (.int 7) (.op2 .iand (.op2 .iushr (.arg 60004) (.int 1)) (.int 7)), .sub (.int 7) (.op2 .iand (.op2 .ishr (.arg 60004) (.int 1)) (.int 7))), true)], [((2, .arg 60004, .int 32), true), ((0, .op2 .iushr (.arg 60004) (.int 4), .int 1), false), ((0, .op2 .iand (.op2 .ishr (.arg 60004) (.int 4)) (.int 1), .int 1), false)]] = true := by decide +kernel
theorem t_b4u1 {X : pX} {ρ0 : sR} (hv : vok X ρ0) : CUTOK X kR zJ c_ans4 11 ρ0 q_b4u1 := CUT_alts 60004 255 [[((2, .arg 60004, .int 32), false)], [((2, .arg 60004, .int 32), true), ((0, .op2 .iushr (.arg 60004) (.int 4), .int 1), true), ((0, .op2 .iand (.op2 .ishr (.arg 60004) (.int 4)) (.int 1), .int 1), true), ((0, .sub (.int 7) (.op2 .iand (.op2 .iushr (.arg 60004) (.int 1)) (.int 7)), .sub (.int 7) (.op2 .iand (.op2 .ishr (.arg 60004) (.int 1)) (.int 7))), true)], [((2, .arg 60004, .int 32), true), ((0, .op2 .iushr (.arg 60004) (.int 4), .int 1), false), ((0, .op2 .iand (.op2 .ishr (.arg 60004) (.int 4)) (.int 1), .int 1), false)]] al_b4u1 rfl (fun F hF => by
    simp only [List.mem_cons, List.not_mem_nil, or_false] at hF
    rcases hF with hF | hF | hF
    · rw [hF]; exact t_b4u1_0 hv
    · rw [hF]; exact t_b4u1_1 hv
    · rw [hF]; exact t_b4u1_2 hv)
theorem t_b4 {X : pX} {ρ0 : sR} (hv : vok X ρ0) : CUTOK X kR zJ c_ans4 11 ρ0 q_b4 := fun ρ k1 hF hI k4 => by
  have e2 : ρ.1 17888 = ρ.1 19456 := of_decide_eq_true (hF.2 _ (List.mem_cons_of_mem _ (List.mem_cons_of_mem _ (List.mem_cons_of_mem _ (List.mem_cons_of_mem _ (List.mem_cons_self))))))
  have u0 : ¬ ρ.1 17888 < 0 := of_decide_eq_false (hF.2 _ (List.mem_cons_of_mem _ (List.mem_cons_of_mem _ (List.mem_cons_of_mem _ (List.mem_cons_of_mem _ (List.mem_cons_of_mem _ (List.mem_cons_self)))))))
  have u1 : ¬ 1 < ρ.1 17888 := of_decide_eq_false (hF.2 _ (List.mem_cons_of_mem _ (List.mem_cons_of_mem _ (List.mem_cons_of_mem _ (List.mem_cons_of_mem _ (List.mem_cons_of_mem _ (List.mem_cons_of_mem _ (List.mem_cons_self))))))))
  have z0 : (0 : Int32).toInt = 0 := rfl
  have z1 : (1 : Int32).toInt = 1 := rfl
  rw [Int32.lt_iff_toInt_lt, z0] at u0
  rw [Int32.lt_iff_toInt_lt, z1] at u1
  rcases (show (ρ.1 17888).toInt = 0 ∨ (ρ.1 17888).toInt = 1 by omega) with hu | hu
  · have h1 : ρ.1 17888 = Int32.ofInt 0 := Int32.toInt_inj.mp (by rw [hu]; rfl)
    exact t_b4u0 hv ρ k1 ⟨hF.1, fcn (decide_eq_true h1) (fcn (decide_eq_true (e2.symm.trans h1)) hF.2)⟩ hI k4
  · have h1 : ρ.1 17888 = Int32.ofInt 1 := Int32.toInt_inj.mp (by rw [hu]; rfl)
    exact t_b4u1 hv ρ k1 ⟨hF.1, fcn (decide_eq_true h1) (fcn (decide_eq_true (e2.symm.trans h1)) hF.2)⟩ hI k4
theorem e_ans4 : frun kR [] (cpl1 zJ c_ans4 [q_b4]) (cpl2 zJ c_ans4 [q_b4]) (cleaf kR zJ c_ans4 [q_b4]) 260 65536 (isatP (c_ans4.2.2.2.1) c_ans4.2.2.2.2.2.2.2.1) c_ans4.2.2.2.2.2.2.2.1 (sin0 mt_all c_ans4.1.1 11 c_ans4.2.1.1 (foot zJ c_ans4.2.2.1.1)) (sin0 mt_all c_ans4.1.2.1 11 c_ans4.2.1.2 (foot zJ c_ans4.2.2.1.2)) = true := by decide +kernel
theorem s_ans4 {X : pX} : SREL X pF pdfl mt_all kR zJ c_ans4 := SREL_QC kR_x kR_0 (Cs := []) (fun C hC => by cases hC) (d := 11) rfl c_ans4_f (Q := [q_b4]) (fun ρ0 hv => fun q hq => by
    simp only [List.mem_cons, List.not_mem_nil, or_false] at hq
    rw [hq]; exact t_b4 hv) (QC_run 260 e_ans4)
