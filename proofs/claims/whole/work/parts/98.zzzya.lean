/-! ===== the work of a drive, whole ===== -/
theorem s_wkw0 {X : pX} : SREL X pF pdfl mt_all kR zWP c_wk0 := s_wk0 (fun ρ0 hv => t_f0x0 hv) (fun ρ0 hv => t_f0x1 hv) (fun ρ0 hv => t_f0x2 hv) (fun ρ0 hv => t_f0x3 hv)
theorem s_wkw1 {X : pX} : SREL X pF pdfl mt_all kR zWP c_wk1 := s_wk1 (fun ρ0 hv => t_f1x0 hv) (fun ρ0 hv => t_f1x1 hv) (fun ρ0 hv => t_f1x2 hv) (fun ρ0 hv => t_f1x3 hv)
theorem s_wkw2 {X : pX} : SREL X pF pdfl mt_all kR zWP c_wk2 := s_wk2 (fun ρ0 hv => t_f2x0 hv) (fun ρ0 hv => t_f2x1 hv) (fun ρ0 hv => t_f2x2 hv) (fun ρ0 hv => t_f2x3 hv)
theorem s_wkw3 {X : pX} : SREL X pF pdfl mt_all kR zWP c_wk3 := s_wk3 (fun ρ0 hv => t_f3x0 hv) (fun ρ0 hv => t_f3x1 hv) (fun ρ0 hv => t_f3x2 hv) (fun ρ0 hv => t_f3x3 hv)
