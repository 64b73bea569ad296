set_option maxRecDepth 20000
/-! ===== a drive boots its bus part: all of it ===== -/
theorem t_oh0L {X : pX} {ρ0 : sR} (hv : vok X ρ0) : CUTOK X kR zWB c_bn0 13 ρ0 q_oh0L := CUT_again (g := 65024) (mt := .sub (.int 156) (.arg 60064)) kR_x (by decide +kernel) (by decide) (by decide) (by decide) (by decide +kernel) (by decide +kernel) (by decide +kernel) (by decide +kernel) (by decide +kernel) (fun ρ0 hv hk => t_oh0E hv hk (t_oms1 hv) (t_of0_0 hv hk) (t_of0_1 hv hk) (t_of0_2 hv hk) (t_oh0Et hv hk) (t_oh0Ep hv hk)) ρ0 hv
theorem t_oh1L {X : pX} {ρ0 : sR} (hv : vok X ρ0) : CUTOK X kR zWB c_bn0 13 ρ0 q_oh1L := CUT_again (g := 65024) (mt := .sub (.int 156) (.arg 60064)) kR_x (by decide +kernel) (by decide) (by decide) (by decide) (by decide +kernel) (by decide +kernel) (by decide +kernel) (by decide +kernel) (by decide +kernel) (fun ρ0 hv hk => t_oh1E hv hk (t_oms1 hv) (t_of1_0 hv hk) (t_of1_1 hv hk) (t_of1_2 hv hk) (t_oh1Et hv hk) (t_oh1Ep hv hk)) ρ0 hv
theorem s_bn0 {X : pX} : SREL X pF pdfl mt_all kR zWB c_bn0g := SREL_QC kR_x kR_0 (Cs := []) (fun C hC => by cases hC) (d := 13) rfl c_bn0g_f (Q := [q_bs0]) (fun ρ0 hv => fun q hq => by
    simp only [List.mem_cons, List.not_mem_nil, or_false] at hq
    rw [hq]; exact t_bs0 hv (fun ρ0 hv => t_tb0S hv (CUT_mono (t_obl1g hv (t_obe1 hv) (t_oh0L hv) (t_oh1L hv)) (fun ρ hF hI => ⟨hF, hI⟩)))) (QC_run 10 e_bn0)
