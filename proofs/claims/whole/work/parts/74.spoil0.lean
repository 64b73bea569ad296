/-! ===== a frame of station 0 is spoilt: Bus.spoil and spoil ===== -/
noncomputable def c_spoil0 : sC := ((45, 250, 5), ([tr 2, .int 0], [tr 219, .int 0]), ([2, 34, 32, 33, 29, 30, 31, 15], [219, 251, 249, 250, 258, 247, 248, 241]), [], ([1344, 2368, 2048, 1410, 1888, 1290, 2208, 2240, 2272, 2304, 2336], []), (none, none), [], ([], []))
theorem c_spoil0_f : cfine zH 65536 c_spoil0 = true := by decide +kernel
noncomputable def q_spoil0_0 : sCut := ((fr 0 45 24 [(0, tr 2), (1, .int 0), (2, .int 0)] [], [fBot], 4), (fr 0 250 24 [(0, tr 219), (1, .int 0), (2, .int 0)] [], [fBot], 4), [], [])
noncomputable def q_spoil0_1 : sCut := ((fr 0 45 24 [(0, tr 2), (1, .int 0), (2, .int 1)] [], [fBot], 4), (fr 0 250 24 [(0, tr 219), (1, .int 0), (2, .int 1)] [], [fBot], 4), [], [])
noncomputable def q_spoil0_2 : sCut := ((fr 0 45 24 [(0, tr 2), (1, .int 0), (2, .int 2)] [], [fBot], 4), (fr 0 250 24 [(0, tr 219), (1, .int 0), (2, .int 2)] [], [fBot], 4), [], [])
noncomputable def q_spoil0_3 : sCut := ((fr 0 45 24 [(0, tr 2), (1, .int 0), (2, .int 3)] [], [fBot], 4), (fr 0 250 24 [(0, tr 219), (1, .int 0), (2, .int 3)] [], [fBot], 4), [], [])
noncomputable def q_spoil0_4 : sCut := ((fr 0 45 24 [(0, tr 2), (1, .int 0), (2, .int 4)] [], [fBot], 4), (fr 0 250 24 [(0, tr 219), (1, .int 0), (2, .int 4)] [], [fBot], 4), [], [])
noncomputable def q_spoil0_5 : sCut := ((fr 0 45 24 [(0, tr 2), (1, .int 0), (2, .int 5)] [], [fBot], 4), (fr 0 250 24 [(0, tr 219), (1, .int 0), (2, .int 5)] [], [fBot], 4), [], [])
theorem k_spoil0_5 : cbody kR [] (cpl1 zH c_spoil0 []) (cpl2 zH c_spoil0 []) (cleaf kR zH c_spoil0 []) 1000 true true q_spoil0_5.2.2.1 q_spoil0_5.2.2.2 (cst zH c_spoil0.2.2.1.1 q_spoil0_5.1) (cst zH c_spoil0.2.2.1.2 q_spoil0_5.2.1) = true := by decide +kernel
theorem t_spoil0_5 {X : pX} {ρ0 : sR} (hv : vok X ρ0) : CUTOK X kR zH c_spoil0 4 ρ0 q_spoil0_5 := CUT_run kR_x kR_0 (Cs := []) (fun C hC => by cases hC) c_spoil0_f (Q := []) hv (fun q hq => by cases hq) 1000 (b1 := true) (b2 := true) k_spoil0_5
theorem k_spoil0_4 : cbody kR [(zH, c_ison4)] (cpl1 zH c_spoil0 [q_spoil0_5]) (cpl2 zH c_spoil0 [q_spoil0_5]) (cleaf kR zH c_spoil0 [q_spoil0_5]) 1000 true true q_spoil0_4.2.2.1 q_spoil0_4.2.2.2 (cst zH c_spoil0.2.2.1.1 q_spoil0_4.1) (cst zH c_spoil0.2.2.1.2 q_spoil0_4.2.1) = true := by decide +kernel
theorem t_spoil0_4 {X : pX} {ρ0 : sR} (hv : vok X ρ0) : CUTOK X kR zH c_spoil0 4 ρ0 q_spoil0_4 := CUT_run kR_x kR_0 (Cs := [(zH, c_ison4)]) (fun C hC => by rw [List.mem_singleton.mp hC]; exact s_ison4) c_spoil0_f (Q := [q_spoil0_5]) hv (fun q hq => by
    simp only [List.mem_cons, List.not_mem_nil, or_false] at hq
    rw [hq]; exact t_spoil0_5 hv) 1000 (b1 := true) (b2 := true) k_spoil0_4
theorem k_spoil0_3 : cbody kR [(zH, c_ison3)] (cpl1 zH c_spoil0 [q_spoil0_4]) (cpl2 zH c_spoil0 [q_spoil0_4]) (cleaf kR zH c_spoil0 [q_spoil0_4]) 1000 true true q_spoil0_3.2.2.1 q_spoil0_3.2.2.2 (cst zH c_spoil0.2.2.1.1 q_spoil0_3.1) (cst zH c_spoil0.2.2.1.2 q_spoil0_3.2.1) = true := by decide +kernel
theorem t_spoil0_3 {X : pX} {ρ0 : sR} (hv : vok X ρ0) : CUTOK X kR zH c_spoil0 4 ρ0 q_spoil0_3 := CUT_run kR_x kR_0 (Cs := [(zH, c_ison3)]) (fun C hC => by rw [List.mem_singleton.mp hC]; exact s_ison3) c_spoil0_f (Q := [q_spoil0_4]) hv (fun q hq => by
    simp only [List.mem_cons, List.not_mem_nil, or_false] at hq
    rw [hq]; exact t_spoil0_4 hv) 1000 (b1 := true) (b2 := true) k_spoil0_3
theorem k_spoil0_2 : cbody kR [(zH, c_ison2)] (cpl1 zH c_spoil0 [q_spoil0_3]) (cpl2 zH c_spoil0 [q_spoil0_3]) (cleaf kR zH c_spoil0 [q_spoil0_3]) 1000 true true q_spoil0_2.2.2.1 q_spoil0_2.2.2.2 (cst zH c_spoil0.2.2.1.1 q_spoil0_2.1) (cst zH c_spoil0.2.2.1.2 q_spoil0_2.2.1) = true := by decide +kernel
theorem t_spoil0_2 {X : pX} {ρ0 : sR} (hv : vok X ρ0) : CUTOK X kR zH c_spoil0 4 ρ0 q_spoil0_2 := CUT_run kR_x kR_0 (Cs := [(zH, c_ison2)]) (fun C hC => by rw [List.mem_singleton.mp hC]; exact s_ison2) c_spoil0_f (Q := [q_spoil0_3]) hv (fun q hq => by
    simp only [List.mem_cons, List.not_mem_nil, or_false] at hq
    rw [hq]; exact t_spoil0_3 hv) 1000 (b1 := true) (b2 := true) k_spoil0_2
theorem k_spoil0_1 : cbody kR [(zH, c_ison1)] (cpl1 zH c_spoil0 [q_spoil0_2]) (cpl2 zH c_spoil0 [q_spoil0_2]) (cleaf kR zH c_spoil0 [q_spoil0_2]) 1000 true true q_spoil0_1.2.2.1 q_spoil0_1.2.2.2 (cst zH c_spoil0.2.2.1.1 q_spoil0_1.1) (cst zH c_spoil0.2.2.1.2 q_spoil0_1.2.1) = true := by decide +kernel
theorem t_spoil0_1 {X : pX} {ρ0 : sR} (hv : vok X ρ0) : CUTOK X kR zH c_spoil0 4 ρ0 q_spoil0_1 := CUT_run kR_x kR_0 (Cs := [(zH, c_ison1)]) (fun C hC => by rw [List.mem_singleton.mp hC]; exact s_ison1) c_spoil0_f (Q := [q_spoil0_2]) hv (fun q hq => by
    simp only [List.mem_cons, List.not_mem_nil, or_false] at hq
    rw [hq]; exact t_spoil0_2 hv) 1000 (b1 := true) (b2 := true) k_spoil0_1
theorem k_spoil0_0 : cbody kR [(zH, c_ison0)] (cpl1 zH c_spoil0 [q_spoil0_1]) (cpl2 zH c_spoil0 [q_spoil0_1]) (cleaf kR zH c_spoil0 [q_spoil0_1]) 1000 true true q_spoil0_0.2.2.1 q_spoil0_0.2.2.2 (cst zH c_spoil0.2.2.1.1 q_spoil0_0.1) (cst zH c_spoil0.2.2.1.2 q_spoil0_0.2.1) = true := by decide +kernel
theorem t_spoil0_0 {X : pX} {ρ0 : sR} (hv : vok X ρ0) : CUTOK X kR zH c_spoil0 4 ρ0 q_spoil0_0 := CUT_run kR_x kR_0 (Cs := [(zH, c_ison0)]) (fun C hC => by rw [List.mem_singleton.mp hC]; exact s_ison0) c_spoil0_f (Q := [q_spoil0_1]) hv (fun q hq => by
    simp only [List.mem_cons, List.not_mem_nil, or_false] at hq
    rw [hq]; exact t_spoil0_1 hv) 1000 (b1 := true) (b2 := true) k_spoil0_0
theorem e_spoil0 : frun kR [] (cpl1 zH c_spoil0 [q_spoil0_0]) (cpl2 zH c_spoil0 [q_spoil0_0]) (cleaf kR zH c_spoil0 [q_spoil0_0]) 1000 65536 (isatP (c_spoil0.2.2.2.1) c_spoil0.2.2.2.2.2.2.2.1) c_spoil0.2.2.2.2.2.2.2.1 (sin0 mt_all c_spoil0.1.1 4 c_spoil0.2.1.1 (foot zH c_spoil0.2.2.1.1)) (sin0 mt_all c_spoil0.1.2.1 4 c_spoil0.2.1.2 (foot zH c_spoil0.2.2.1.2)) = true := by decide +kernel
theorem s_spoil0 {X : pX} : SREL X pF pdfl mt_all kR zH c_spoil0 := SREL_cut kR_x kR_0 (Cs := []) (fun C hC => by cases hC) (d := 4) rfl c_spoil0_f (Q := [q_spoil0_0]) (fun ρ0 hv => fun q hq => by
    simp only [List.mem_cons, List.not_mem_nil, or_false] at hq
    rw [hq]; exact t_spoil0_0 hv) 1000 e_spoil0
