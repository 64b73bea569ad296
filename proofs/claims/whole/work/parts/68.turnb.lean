/-! ===== the power states: the rest ===== -/
theorem r_turn0_5 : rrun kR [(zH, c_reset0)] [] [] (rleaf kR zH c_turn0) 4000 65536 (isat (((0, .arg 2816, .int 5), true) :: c_turn0.2.2.2.1) c_turn0.2.2.2.2.2.2.2.1) c_turn0.2.2.2.2.2.2.2.1 (sin0 mt_all c_turn0.1.1 7 c_turn0.2.1.1 (foot zH c_turn0.2.2.1.1)) (sin0 mt_all c_turn0.1.2.1 7 c_turn0.2.1.2 (foot zH c_turn0.2.2.1.2)) = true := by decide +kernel
theorem r_turn0_7 : rrun kR [(zH, c_reset0)] [] [] (rleaf kR zH c_turn0) 4000 65536 (isat (((0, .arg 2816, .int 7), true) :: c_turn0.2.2.2.1) c_turn0.2.2.2.2.2.2.2.1) c_turn0.2.2.2.2.2.2.2.1 (sin0 mt_all c_turn0.1.1 7 c_turn0.2.1.1 (foot zH c_turn0.2.2.1.1)) (sin0 mt_all c_turn0.1.2.1 7 c_turn0.2.1.2 (foot zH c_turn0.2.2.1.2)) = true := by decide +kernel
theorem r_turn0_6a : rrun kR [(zH, c_reset0)] [] [] (rleaf kR zH c_turn0) 4000 65536 (isat (((6, .elem (.arg 1761) (.int 121), .long 0), true) :: ((0, .arg 2816, .int 6), true) :: c_turn0.2.2.2.1) c_turn0.2.2.2.2.2.2.2.1) c_turn0.2.2.2.2.2.2.2.1 (sin0 mt_all c_turn0.1.1 7 c_turn0.2.1.1 (foot zH c_turn0.2.2.1.1)) (sin0 mt_all c_turn0.1.2.1 7 c_turn0.2.1.2 (foot zH c_turn0.2.2.1.2)) = true := by decide +kernel
theorem r_turn0_6b : rrun kR [(zH, c_reset0)] [] [] (rleaf kR zH c_turn0) 4000 65536 (isat (((6, .arg 1665, .long 0), true) :: ((6, .elem (.arg 1761) (.int 121), .long 0), false) :: ((0, .arg 2816, .int 6), true) :: c_turn0.2.2.2.1) c_turn0.2.2.2.2.2.2.2.1) c_turn0.2.2.2.2.2.2.2.1 (sin0 mt_all c_turn0.1.1 7 c_turn0.2.1.1 (foot zH c_turn0.2.2.1.1)) (sin0 mt_all c_turn0.1.2.1 7 c_turn0.2.1.2 (foot zH c_turn0.2.2.1.2)) = true := by decide +kernel
theorem r_turn0_6c : rrun kR [(zH, c_reset0)] [] [] (rleaf kR zH c_turn0) 4000 65536 (isat (((6, .arg 1665, .long 0), false) :: ((6, .elem (.arg 1761) (.int 121), .long 0), false) :: ((0, .arg 2816, .int 6), true) :: c_turn0.2.2.2.1) c_turn0.2.2.2.2.2.2.2.1) c_turn0.2.2.2.2.2.2.2.1 (sin0 mt_all c_turn0.1.1 7 c_turn0.2.1.1 (foot zH c_turn0.2.2.1.1)) (sin0 mt_all c_turn0.1.2.1 7 c_turn0.2.1.2 (foot zH c_turn0.2.2.1.2)) = true := by decide +kernel
theorem r_turn0_n : scon (([(0, .arg 2816, .int 1), (0, .arg 2816, .int 2), (0, .arg 2816, .int 3), (0, .arg 2816, .int 4), (0, .arg 2816, .int 5), (0, .arg 2816, .int 6), (0, .arg 2816, .int 7)] : List sQ).map (fun q => (q, false)) ++ c_turn0.2.2.2.1) = true := by decide +kernel
theorem s_turn0 {X : pX} (h : SREL X pF pdfl mt_all kR zH c_reset0) : SREL X pF pdfl mt_all kR zH c_turn0 := SREL_RC kR_x kR_0 (Cs := [(zH, c_reset0)]) (fun C hC => by rw [List.mem_singleton.mp hC]; exact h) (d := 7) rfl c_turn0_f (RC_each [(0, .arg 2816, .int 1), (0, .arg 2816, .int 2), (0, .arg 2816, .int 3), (0, .arg 2816, .int 4), (0, .arg 2816, .int 5), (0, .arg 2816, .int 6), (0, .arg 2816, .int 7)] (fun q hq => by
  simp only [List.mem_cons, List.not_mem_nil, or_false] at hq
  rcases hq with e | e | e | e | e | e | e <;> rw [e]
  · exact RC_run 4000 r_turn0_1
  · exact RC_run 4000 r_turn0_2
  · exact RC_run 4000 r_turn0_3
  · exact RC_run 4000 r_turn0_4
  · exact RC_run 4000 r_turn0_5
  · exact RC_split (6, .elem (.arg 1761) (.int 121), .long 0) (RC_run 4000 r_turn0_6a) (RC_split (6, .arg 1665, .long 0) (RC_run 4000 r_turn0_6b) (RC_run 4000 r_turn0_6c))
  · exact RC_run 4000 r_turn0_7) (RC_con r_turn0_n))
