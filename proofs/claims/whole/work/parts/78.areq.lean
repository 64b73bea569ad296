/-! ===== a request of the job: Job.request and ask ===== -/
def c_req : sC := ((73, 368, 5), ([tr 203, .arg 60001], [tr 219, .arg 60001]), ([2, 3, 8, 9, 14, 15, 203], [219, 237, 238, 239, 240, 241]), [((2, .arg 17824, .int 0), false), ((2, .int 3, .arg 17824), false)], ([1418, 1312, 17792, 18048], [1536, 1409]), (none, none), [], ([], []))
theorem c_req_f : cfine zH 65536 c_req = true := by decide +kernel
theorem e_req : frun kR [(zH, c_send4)] (cpl1 zH c_req []) (cpl2 zH c_req []) (cleaf kR zH c_req []) 3000 65536 (isatP (c_req.2.2.2.1) c_req.2.2.2.2.2.2.2.1) c_req.2.2.2.2.2.2.2.1 (sin0 mt_all c_req.1.1 4 c_req.2.1.1 (foot zH c_req.2.2.1.1)) (sin0 mt_all c_req.1.2.1 4 c_req.2.1.2 (foot zH c_req.2.2.1.2)) = true := by decide +kernel
theorem s_req {X : pX} : SREL X pF pdfl mt_all kR zH c_req := SREL_QC kR_x kR_0 (Cs := [(zH, c_send4)]) (fun C hC => by rw [List.mem_singleton.mp hC]; exact s_send4) (d := 4) rfl c_req_f (Q := []) (fun ρ0 hv q hq => by cases hq) (QC_run 3000 e_req)
