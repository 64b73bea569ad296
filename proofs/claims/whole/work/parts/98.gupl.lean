set_option maxRecDepth 20000
noncomputable def q_rqur : sCut := ((fr 3 158 9 [(0, tr 58), (1, .arg 5121), (3, .arg 60004)] [], [fBot], 13), (fr 0 323 11 [(0, tr 219), (1, .arg 1308), (2, .arg 60004)] [], [fBot], 13), [((0, .op1 .l2i (.op2 .land (.op2 .lshr (.arg 5121) (.int 0)) (.long 255)), .arg 60004), true), ((2, .arg 60004, .int 64), false), ((2, .int 95, .arg 60004), false), ((0, .arg 3360, .int 2), false), ((100, .elem (.arg 2944) (.int 0), .arg 1318), true), ((104, .add (.arg 6625) (.elem (.arg 2944) (.int 0)), .arg 1318), true), ((2, .arg 2816, .int 1), false), ((2, .int 7, .arg 2816), false), ((0, .arg 2050, .int 0), true), ((101, .elem (.arg 1761) (.int 0), .int 0), true), ((102, .add (.arg 1300) (.add (.elem (.arg 2880) (.int 0)) (.elem (.arg 19616) (.int 0))), .arg 1302), true), ((2, .int 24, .arg 1298), false)], i_ru)
noncomputable def q_rqur_0 : sCut := ((fr 3 158 9 [(0, tr 58), (1, .arg 5121), (3, .arg 60004)] [], [fBot], 13), (fr 0 323 11 [(0, tr 219), (1, .arg 1308), (2, .arg 60004)] [], [fBot], 13), [((0, .op2 .iushr (.arg 60004) (.int 5), .int 2), true), ((0, .op1 .l2i (.op2 .land (.op2 .lshr (.arg 5121) (.int 0)) (.long 255)), .arg 60004), true), ((2, .arg 60004, .int 64), false), ((2, .int 95, .arg 60004), false), ((0, .arg 3360, .int 2), false), ((100, .elem (.arg 2944) (.int 0), .arg 1318), true), ((104, .add (.arg 6625) (.elem (.arg 2944) (.int 0)), .arg 1318), true), ((2, .arg 2816, .int 1), false), ((2, .int 7, .arg 2816), false), ((0, .arg 2050, .int 0), true), ((101, .elem (.arg 1761) (.int 0), .int 0), true), ((102, .add (.arg 1300) (.add (.elem (.arg 2880) (.int 0)) (.elem (.arg 19616) (.int 0))), .arg 1302), true), ((2, .int 24, .arg 1298), false)], i_ru)
noncomputable def q_rqur_0m : sCut := ((fr 3 158 9 [(0, tr 58), (1, .arg 5121), (3, .arg 60004)] [], [fBot], 13), (fr 0 323 11 [(0, tr 219), (1, .arg 1308), (2, .arg 60004)] [], [fBot], 13), [((2, .op1 .l2i (.op2 .land (.op2 .lshr (.arg 5121) (.int 8)) (.long 65535)), .int 0), false), ((2, .int 65535, .op1 .l2i (.op2 .land (.op2 .lshr (.arg 5121) (.int 8)) (.long 65535))), false), ((0, .op2 .iushr (.arg 60004) (.int 5), .int 2), true), ((0, .op1 .l2i (.op2 .land (.op2 .lshr (.arg 5121) (.int 0)) (.long 255)), .arg 60004), true), ((2, .arg 60004, .int 64), false), ((2, .int 95, .arg 60004), false), ((0, .arg 3360, .int 2), false), ((100, .elem (.arg 2944) (.int 0), .arg 1318), true), ((104, .add (.arg 6625) (.elem (.arg 2944) (.int 0)), .arg 1318), true), ((2, .arg 2816, .int 1), false), ((2, .int 7, .arg 2816), false), ((0, .arg 2050, .int 0), true), ((101, .elem (.arg 1761) (.int 0), .int 0), true), ((102, .add (.arg 1300) (.add (.elem (.arg 2880) (.int 0)) (.elem (.arg 19616) (.int 0))), .arg 1302), true), ((2, .int 24, .arg 1298), false)], i_ru)
theorem k_rqur_0m : cbody kR [(zWP, c_sloc), (zWP, c_fndm)] (cpl1 zWP c_rqu [q_ul]) (cpl2 zWP c_rqu [q_ul]) (cleaf kR zWP c_rqu [q_ul]) 420 true true q_rqur_0m.2.2.1 q_rqur_0m.2.2.2 (cst zWP c_rqu.2.2.1.1 q_rqur_0m.1) (cst zWP c_rqu.2.2.1.2 q_rqur_0m.2.1) = true := by decide +kernel
theorem t_rqur_0m {X : pX} {ρ0 : sR} (hv : vok X ρ0) : CUTOK X kR zWP c_rqu 13 ρ0 q_rqur_0m := CUT_run kR_x kR_0 (Cs := [(zWP, c_sloc), (zWP, c_fndm)]) (fun C hC => by
    simp only [List.mem_cons, List.not_mem_nil, or_false] at hC
    rcases hC with hC | hC
    · rw [hC]; exact s_sloc
    · rw [hC]; exact s_fndm) c_rqu_f (Q := [q_ul]) hv (fun q hq => by
    simp only [List.mem_cons, List.not_mem_nil, or_false] at hq
    rw [hq]; exact t_ul hv) 420 (b1 := true) (b2 := true) k_rqur_0m
theorem t_rqur_0 {X : pX} {ρ0 : sR} (hv : vok X ρ0) : CUTOK X kR zWP c_rqu 13 ρ0 q_rqur_0 := CUT_mono (t_rqur_0m hv) (fun ρ hF hI => ⟨⟨hF.1, by
    exact fcn (op_ix hF.1).1 (fcn (op_ix hF.1).2 hF.2)⟩, hI⟩)
noncomputable def q_rqur_1 : sCut := ((fr 3 158 9 [(0, tr 58), (1, .arg 5121), (3, .arg 60004)] [], [fBot], 13), (fr 0 323 11 [(0, tr 219), (1, .arg 1308), (2, .arg 60004)] [], [fBot], 13), [((2, .arg 60004, .int 64), true), ((0, .op1 .l2i (.op2 .land (.op2 .lshr (.arg 5121) (.int 0)) (.long 255)), .arg 60004), true), ((2, .arg 60004, .int 64), false), ((2, .int 95, .arg 60004), false), ((0, .arg 3360, .int 2), false), ((100, .elem (.arg 2944) (.int 0), .arg 1318), true), ((104, .add (.arg 6625) (.elem (.arg 2944) (.int 0)), .arg 1318), true), ((2, .arg 2816, .int 1), false), ((2, .int 7, .arg 2816), false), ((0, .arg 2050, .int 0), true), ((101, .elem (.arg 1761) (.int 0), .int 0), true), ((102, .add (.arg 1300) (.add (.elem (.arg 2880) (.int 0)) (.elem (.arg 19616) (.int 0))), .arg 1302), true), ((2, .int 24, .arg 1298), false)], i_ru)
theorem t_rqur_1 {X : pX} {ρ0 : sR} (hv : vok X ρ0) : CUTOK X kR zWP c_rqu 13 ρ0 q_rqur_1 := fun ρ k1 hF hI k4 => by
  have h1 := hF.2 _ (List.mem_cons_self)
  have h2 := hF.2 _ (List.mem_cons_of_mem _ (List.mem_cons_of_mem _ (List.mem_cons_self)))
  dsimp only at h1 h2
  rw [h1] at h2
  cases h2
noncomputable def q_rqur_2 : sCut := ((fr 3 158 9 [(0, tr 58), (1, .arg 5121), (3, .arg 60004)] [], [fBot], 13), (fr 0 323 11 [(0, tr 219), (1, .arg 1308), (2, .arg 60004)] [], [fBot], 13), [((2, .int 95, .arg 60004), true), ((0, .op1 .l2i (.op2 .land (.op2 .lshr (.arg 5121) (.int 0)) (.long 255)), .arg 60004), true), ((2, .arg 60004, .int 64), false), ((2, .int 95, .arg 60004), false), ((0, .arg 3360, .int 2), false), ((100, .elem (.arg 2944) (.int 0), .arg 1318), true), ((104, .add (.arg 6625) (.elem (.arg 2944) (.int 0)), .arg 1318), true), ((2, .arg 2816, .int 1), false), ((2, .int 7, .arg 2816), false), ((0, .arg 2050, .int 0), true), ((101, .elem (.arg 1761) (.int 0), .int 0), true), ((102, .add (.arg 1300) (.add (.elem (.arg 2880) (.int 0)) (.elem (.arg 19616) (.int 0))), .arg 1302), true), ((2, .int 24, .arg 1298), false)], i_ru)
theorem t_rqur_2 {X : pX} {ρ0 : sR} (hv : vok X ρ0) : CUTOK X kR zWP c_rqu 13 ρ0 q_rqur_2 := fun ρ k1 hF hI k4 => by
  have h1 := hF.2 _ (List.mem_cons_self)
  have h2 := hF.2 _ (List.mem_cons_of_mem _ (List.mem_cons_of_mem _ (List.mem_cons_of_mem _ (List.mem_cons_self))))
  dsimp only at h1 h2
  rw [h1] at h2
  cases h2
theorem al_rqur : alchk 60004 255 [[((0, .op2 .iushr (.arg 60004) (.int 5), .int 2), true)], [((2, .arg 60004, .int 64), true)], [((2, .int 95, .arg 60004), true)]] = true := by decide +kernel
theorem t_rqur {X : pX} {ρ0 : sR} (hv : vok X ρ0) : CUTOK X kR zWP c_rqu 13 ρ0 q_rqur := CUT_alts 60004 255 [[((0, .op2 .iushr (.arg 60004) (.int 5), .int 2), true)], [((2, .arg 60004, .int 64), true)], [((2, .int 95, .arg 60004), true)]] al_rqur rfl (fun F hF => by
    simp only [List.mem_cons, List.not_mem_nil, or_false] at hF
    rcases hF with hF | hF | hF
    · rw [hF]; exact t_rqur_0 hv
    · rw [hF]; exact t_rqur_1 hv
    · rw [hF]; exact t_rqur_2 hv)
theorem e_rqu : frun kR [] (cpl1 zWP c_rqu [q_rqur]) (cpl2 zWP c_rqu [q_rqur]) (cleaf kR zWP c_rqu [q_rqur]) 260 65536 (isatP (c_rqu.2.2.2.1) c_rqu.2.2.2.2.2.2.2.1) c_rqu.2.2.2.2.2.2.2.1 (sin0 mt_all c_rqu.1.1 13 c_rqu.2.1.1 (foot zWP c_rqu.2.2.1.1)) (sin0 mt_all c_rqu.1.2.1 13 c_rqu.2.1.2 (foot zWP c_rqu.2.2.1.2)) = true := by decide +kernel
theorem s_rqu {X : pX} : SREL X pF pdfl mt_all kR zWP c_rqu := SREL_QC kR_x kR_0 (Cs := []) (fun C hC => by cases hC) (d := 13) rfl c_rqu_f (Q := [q_rqur]) (fun ρ0 hv => fun q hq => by
    simp only [List.mem_cons, List.not_mem_nil, or_false] at hq
    rw [hq]; exact t_rqur hv) (QC_run 260 e_rqu)
