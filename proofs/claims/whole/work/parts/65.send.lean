/-! ===== the first contracts: a frame is sent ===== -/
theorem kR_x : kR.2.2.2 = false := rfl
theorem kR_0 : ∀ a l, kR.2.2.1 a = some l → a < 1000 := fun a l h => by
  simp only [kR] at h
  split at h <;> first | (cases h; done) | decide
/-- the master sends eight bytes -/
noncomputable def c_send4 : sC := ((41, 246, 3), ([tr 2, .int 4, .arg 60000, .arg 60001], [tr 219, .int 4, cmapT 1 (.arg 60000), cmapT 2 (.arg 60000), cmapT 3 (.arg 60000), .arg 60001]), ([2, 3, 8, 9, 14, 15], [219, 237, 238, 239, 240, 241]), [((0, cmapT 3 (.arg 60000), .int 8), true), ((0, cmapT 2 (.arg 60000), .int 0), true)], ([1418, 1312, 60002, 60032], [1536, 1409]), (some (.arg 60002), some (.arg 60002)), [], ([], []))
theorem c_send4_f : cfine zH 65536 c_send4 = true := by decide +kernel
noncomputable def p_send4a : sS := (fr 0 41 26 [(0, tr 2), (1, .int 4), (2, .arg 60000), (3, .arg 60001), (5, .arg 60032), (6, tr 8), (7, tr 14)] [], [fBot], 2, foot zH [2, 3, 8, 9, 14, 15], 0)
noncomputable def p_send4b : sS := (fr 0 246 20 [(0, tr 219), (1, .int 4), (2, cmapT 1 (.arg 60000)), (3, cmapT 2 (.arg 60000)), (4, cmapT 3 (.arg 60000)), (5, .arg 60001), (7, .add (.arg 60032) (.int 96))] [], [fBot], 2, foot zH [219, 237, 238, 239, 240, 241], 0)
noncomputable def f_send4 : sFs := [((0, cmapT 3 (.arg 60000), .int 8), true), ((0, cmapT 2 (.arg 60000), .int 0), true), ((2, .arg 60032, .int 0), false), ((2, .int 23, .arg 60032), false), ((2, .arg 1418, .int 24), true)]
theorem b_send4 : rbody kR [] (fun F I s1 s2 => rcase kR zH c_send4.2.2.1.1 c_send4.2.2.1.2 [] c_send4.2.2.2.2.1.1 c_send4.2.2.2.2.1.2 (some 60032) f_send4 p_send4a p_send4b F I s1 s2 || rleaf kR zH c_send4 F I s1 s2) 400 f_send4 [] p_send4a p_send4b = true := by decide +kernel
theorem e_send4 : rrun kR [] [(spc p_send4a, sdep p_send4a)] [(spc p_send4b, sdep p_send4b)] (fun F I s1 s2 => rcase kR zH c_send4.2.2.1.1 c_send4.2.2.1.2 [] c_send4.2.2.2.2.1.1 c_send4.2.2.2.2.1.2 none f_send4 p_send4a p_send4b F I s1 s2 || rleaf kR zH c_send4 F I s1 s2) 400 65536 (isat c_send4.2.2.2.1 c_send4.2.2.2.2.2.2.2.1) c_send4.2.2.2.2.2.2.2.1 (sin0 mt_all c_send4.1.1 2 c_send4.2.1.1 (foot zH c_send4.2.2.1.1)) (sin0 mt_all c_send4.1.2.1 2 c_send4.2.1.2 (foot zH c_send4.2.2.1.2)) = true := by decide +kernel
theorem s_send4 {X : pX} : SREL X pF pdfl mt_all kR zH c_send4 := SREL_loop kR_x kR_0 (Cs := []) (fun C hC => by cases hC) (d := 2) rfl c_send4_f (F0 := f_send4) (iv0 := []) (by simp only [p_send4a, c_send4]) (by simp only [p_send4b, c_send4]) (kv := 60032) (by decide) 400 400 b_send4 e_send4
