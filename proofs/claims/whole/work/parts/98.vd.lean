set_option maxRecDepth 20000
theorem et_51 : evt[51]? = some (0, 4294967295, 11) := by decide +kernel
noncomputable def zf98vd_0 : sQ × Bool := ((129, .int 51, .arg 60033), true)
noncomputable def zf98vd_1 : sQ × Bool := ((6, .elem (.arg 1761) (.int 50), .long 0), true)
noncomputable def zi98vd_2 : sFs × sQ × Bool := ([((0, .arg 1698, .int 0), false), ((0, .arg 1762, .int 0), true)], (0, .arg 8386, .int 1), true)
noncomputable def zi98vd_3 : sFs × sQ × Bool := ([((0, .arg 1698, .int 0), false), ((0, .arg 1762, .int 0), false)], (0, .arg 8386, .int 0), true)
noncomputable def q_wR51 : sCut := ((fr 0 10 53 [] [], [fr 0 5 23 [(4, .int 0)] [], fBot], 7), (fr 0 281 150 [] [], [fr 0 277 91 [(3, .int 0)] [], fBot], 7), [zf98vd_0, zf98vd_1], [zi98vd_2, zi98vd_3])
noncomputable def zf98vd_4 : sQ × Bool := ((0, .arg 19328, .int 4), true)
noncomputable def zf98vd_5 : sQ × Bool := ((6, .op2 .lor (.op2 .lor (.op2 .lor (.op2 .lor (.op2 .lshl (.op1 .i2l (.elem (.arg 2212) (.int 0))) (.int 0)) (.long 0)) (.op2 .lshl (.op1 .i2l (.elem (.arg 2212) (.int 1))) (.int 8))) (.op2 .lshl (.op1 .i2l (.elem (.arg 2212) (.int 2))) (.int 16))) (.op2 .lshl (.op1 .i2l (.elem (.arg 2212) (.int 3))) (.int 24)), .arg 60033), true)
noncomputable def zf98vd_6 : sQ × Bool := ((8, .arg 60033, .long 0), false)
noncomputable def zf98vd_7 : sQ × Bool := ((8, .long 4294967295, .arg 60033), false)
noncomputable def zf98vd_8 : sQ × Bool := ((101, .elem (.arg 1761) (.int 0), .int 0), true)
noncomputable def zf98vd_9 : sQ × Bool := ((137, .add (.elem (.arg 1761) (.int 0)) (.add (.arg 2848) (.add (.elem (.arg 24512) (.int 0)) (.add (.elem (.arg 2404) (.int 0)) (.add (.elem (.arg 24544) (.int 0)) (.add (.elem (.arg 2436) (.int 0)) (.add (.arg 5728) (.add (.arg 5760) (.add (.arg 5792) (.add (.arg 5824) (.add (.arg 5856) (.add (.arg 5888) (.add (.arg 5920) (.add (.arg 5952) (.add (.arg 2082) (.add (.arg 2114) (.add (.arg 2146) (.add (.arg 2178) (.add (.arg 6850) (.add (.arg 6882) (.add (.arg 6914) (.add (.arg 6946) (.add (.arg 2210) (.add (.arg 2242) (.add (.arg 2274) (.add (.arg 2306) (.add (.arg 7362) (.add (.arg 7394) (.add (.arg 7426) (.add (.arg 7458) (.add (.arg 2338) (.add (.arg 2370) (.add (.arg 2402) (.add (.arg 2434) (.add (.arg 7874) (.add (.arg 7906) (.add (.arg 7938) (.add (.arg 7970) (.add (.arg 6240) (.add (.arg 6272) (.add (.arg 6304) (.add (.arg 6336) (.add (.arg 21216) (.add (.arg 21248) (.add (.arg 21280) (.add (.arg 21312) (.add (.arg 1570) (.add (.arg 1602) (.add (.arg 6466) (.arg 6498))))))))))))))))))))))))))))))))))))))))))))))))), .int 0), true)
noncomputable def zf98vd_10 : sQ × Bool := ((0, .op2 .iand (.op2 .iushr (.arg 2848) (.int 4)) (.int 1), .arg 60578), true)
noncomputable def zf98vd_11 : sQ × Bool := ((2, .op2 .iand (.op2 .iushr (.arg 2848) (.int 4)) (.int 1), .arg 60578), false)
noncomputable def q_wq51 : sCut := ((fr 0 5 0 [(0, tr 57), (1, .int 51), (2, .arg 60033)] [], [fBot], 8), (fr 0 277 35 [(0, tr 219), (1, .arg 1308), (2, .int 51)] [], [fBot], 8), [zf98vd_4, zf98vd_5, zf98vd_6, zf98vd_7, zf98vd_8, zf98vd_9, zf98vd_10, zf98vd_11], [zi98vd_2, zi98vd_3])
noncomputable def zi98vd_12 : sFs × sQ × Bool := ([((6, .op2 .land (.elem (.arg 1761) (.int 35)) (.long 2147483648), .long 0), false)], (6, .op2 .land (.op2 .lshr (.elem (.arg 1761) (.int 35)) (.int 31)) (.long 1), .long 1), true)
noncomputable def zi98vd_13 : sFs × sQ × Bool := ([((6, .op2 .land (.elem (.arg 1761) (.int 35)) (.long 2147483648), .long 0), true)], (6, .op2 .land (.op2 .lshr (.elem (.arg 1761) (.int 35)) (.int 31)) (.long 1), .long 0), true)
noncomputable def q_wq51i : sCut := ((fr 0 5 0 [(0, tr 57), (1, .int 51), (2, .arg 60033)] [], [fBot], 8), (fr 0 277 35 [(0, tr 219), (1, .arg 1308), (2, .int 51)] [], [fBot], 8), [zf98vd_4, zf98vd_5, zf98vd_6, zf98vd_7, zf98vd_8, zf98vd_9, zf98vd_10, zf98vd_11], [zi98vd_12, zi98vd_13, zi98vd_2, zi98vd_3])
noncomputable def zf98vd_14 : sQ × Bool := ((131, .add (.int 11) (.arg 60033), .int 0), true)
noncomputable def q_wq51ir0 : sCut := ((fr 0 5 0 [(0, tr 57), (1, .int 51), (2, .arg 60033)] [], [fBot], 8), (fr 0 277 35 [(0, tr 219), (1, .arg 1308), (2, .int 51)] [], [fBot], 8), [zf98vd_14, zf98vd_4, zf98vd_5, zf98vd_6, zf98vd_7, zf98vd_8, zf98vd_9, zf98vd_10, zf98vd_11], [zi98vd_12, zi98vd_13, zi98vd_2, zi98vd_3])
theorem k_wq51ir0 : cbody kR [(zWP, c_mp110)] (cpl1 zWP c_wn2 []) (cpl2 zWP c_wn2 []) (cleaf kR zWP c_wn2 []) 1500 true true q_wq51ir0.2.2.1 q_wq51ir0.2.2.2 (cst zWP c_wn2.2.2.1.1 q_wq51ir0.1) (cst zWP c_wn2.2.2.1.2 q_wq51ir0.2.1) = true := by decide +kernel
theorem t_wq51ir0 {X : pX} {ρ0 : sR} (hv : vok X ρ0) : CUTOK X kR zWP c_wn2 8 ρ0 q_wq51ir0 := CUT_run kR_x kR_0 (Cs := [(zWP, c_mp110)]) (fun C hC => by rw [List.mem_singleton.mp hC]; exact s_mp110) c_wn2_f (Q := []) hv (fun q hq => by cases hq) 1500 (b1 := true) (b2 := true) k_wq51ir0
noncomputable def zf98vd_15 : sQ × Bool := ((131, .add (.int 11) (.arg 60033), .int 1), true)
noncomputable def q_wq51ir1 : sCut := ((fr 0 5 0 [(0, tr 57), (1, .int 51), (2, .arg 60033)] [], [fBot], 8), (fr 0 277 35 [(0, tr 219), (1, .arg 1308), (2, .int 51)] [], [fBot], 8), [zf98vd_15, zf98vd_0, zf98vd_4, zf98vd_5, zf98vd_6, zf98vd_7, zf98vd_8, zf98vd_9, zf98vd_10, zf98vd_11], [zi98vd_12, zi98vd_13, zi98vd_2, zi98vd_3])
noncomputable def w_wq51ir1 : List (sCut × List (Nat × sT) × List (Nat × sT × List (sT × sT))) := [(q_wR51, [(60033, .arg 60033), (2848, .op2 .ior (.arg 2848) (.int 256)), (6850, .int 0), (6882, .arg 6882), (6914, .arg 6914), (6946, .arg 6946), (7362, .int 0), (7394, .arg 7394), (7426, .arg 7426), (7458, .arg 7458), (7874, .arg 7874), (7906, .arg 7906), (7938, .arg 7938), (7970, .arg 7970), (21216, .arg 21216), (21248, .arg 21248), (21280, .arg 21280), (21312, .arg 21312), (6466, .arg 6466), (6498, .arg 6498)], [(1761, .arg 1761, [(.int 51, .arg 60033)])])]
theorem k_wq51ir1 : cbody kR [(zWP, c_mp111)] (cpl1 zWP c_wn2 [q_wR51]) (cpl2 zWP c_wn2 [q_wR51]) (cleafB kR zWP c_wn2 w_wq51ir1) 1500 true true q_wq51ir1.2.2.1 q_wq51ir1.2.2.2 (cst zWP c_wn2.2.2.1.1 q_wq51ir1.1) (cst zWP c_wn2.2.2.1.2 q_wq51ir1.2.1) = true := by decide +kernel
theorem t_wq51ir1 {X : pX} {ρ0 : sR} (hv : vok X ρ0) : CUTOK X kR zWP c_wn2 8 ρ0 q_wq51ir1 := CUTOK_AT (fun ρ k1 hF hI k4 => AT_of (q := q_wq51ir1) rfl rfl (SEM_runB kR_x kR_0 (Cs := [(zWP, c_mp111)]) (fun C hC => by rw [List.mem_singleton.mp hC]; exact s_mp111) c_wn2_f (Q := w_wq51ir1) hv 1500 (b1 := true) (b2 := true) k_wq51ir1 k1 hF hI k4 (fun p hp ρ3 m1 m2 m3 m4 m5 m6 => by
  rw [List.mem_singleton.mp hp] at m2 m3 m5 m6 ⊢
  have y3 : ρ3.2.1 60033 = ρ.2.1 60033 := congrArg Prod.snd (m5 (60033, .arg 60033) List.mem_cons_self)
  have hA : ∀ j, ρ3.2.2.2.1 1761 j = if 51 = j then ρ.2.1 60033 else ρ.2.2.2.1 1761 j := fun j => ad_l (X := X) (p := 51) (t := .arg 60033) rfl (m6 _ List.mem_cons_self) j
  have hk : evk 51 (ρ.2.1 60033).toInt = true := by
    have h := m2.2 _ List.mem_cons_self
    rw [← y3]
    exact h
  have h0 : ρ.2.2.2.1 1761 50 = 0 := by
    have h := hA 50
    rw [if_neg (by decide)] at h
    rw [← h]
    exact of_decide_eq_true (m2.2 _ (List.mem_cons_of_mem _ List.mem_cons_self))
  have ea : ρ3.1 2848 = (sd X ρ (.op2 .ior (.arg 2848) (.int 256))).1 := congrArg Prod.fst (m5 (2848, .op2 .ior (.arg 2848) (.int 256)) (List.mem_cons_of_mem _ List.mem_cons_self))
  have eL : ρ3.1 60578 = ρ.1 60578 := (m4.1 60578 (by decide) (by decide)).1.trans (k4.1 60578 (by decide) (by decide)).1.symm
  have mo : sc X ρ3 (2, .op2 .iand (.op2 .iushr (.arg 2848) (.int 4)) (.int 1), .arg 60578) = false := by
    show decide (((ρ3.1 2848).toUInt32 >>> ((4 : Int32).toUInt32 &&& (31 : Int32).toUInt32)).toInt32 &&& 1 < ρ3.1 60578) = false
    rw [ea, eL]
    have q := tbv_ok (X := X) (ρ := ρ) (F := []) (a := .op2 .iand (.op2 .iushr (.op2 .ior (.arg 2848) (.int 256)) (.int 4)) (.int 1)) (b := .op2 .iand (.op2 .iushr (.arg 2848) (.int 4)) (.int 1)) ⟨hF.1, fun f hf => by cases hf⟩ (by decide +kernel)
    rw [sv_int rfl, sv_int rfl] at q
    exact mn_e (Value.int.inj q) (of_decide_eq_true (hF.2 _ (List.mem_cons_of_mem _ (List.mem_cons_of_mem _ (List.mem_cons_of_mem _ (List.mem_cons_of_mem _ (List.mem_cons_of_mem _ (List.mem_cons_of_mem _ (List.mem_cons_of_mem _ (List.mem_cons_of_mem _ (List.mem_cons_self)))))))))))
  exact t_wE2 hv ρ3 m1 ⟨m2.1, fcn (ev_rw (g := ρ.2.2.2.1 1761) (m := 50) (p := 51) (hF.2 _ (List.mem_cons_of_mem _ (List.mem_cons_of_mem _ (List.mem_cons_of_mem _ (List.mem_cons_of_mem _ (List.mem_cons_of_mem _ (List.mem_cons_of_mem _ (List.mem_cons_self)))))))) (by decide) hk hA h0 (by decide +kernel)) (fcn (pd_up (X := X) (p := 51) (c := 256) (z := [6850, 7362]) (hF.2 _ (List.mem_cons_of_mem _ (List.mem_cons_of_mem _ (List.mem_cons_of_mem _ (List.mem_cons_of_mem _ (List.mem_cons_of_mem _ (List.mem_cons_of_mem _ (List.mem_cons_of_mem _ (List.mem_cons_self))))))))) hA (fun x hx => m5 x (List.mem_cons_of_mem _ hx)) k4 m4 wm_2 wb_2 (by decide +kernel)) (fcn (mo) (fnl)))⟩ m3 m4)))
theorem t_wq51i {X : pX} {ρ0 : sR} (hv : vok X ρ0) : CUTOK X kR zWP c_wn2 8 ρ0 q_wq51i := fun ρ k1 hF hI k4 => by
  have b0 := rl_lf (x := ρ.2.1 60033) (y := 0) (hF.2 _ (List.mem_cons_of_mem _ (List.mem_cons_of_mem _ (List.mem_cons_self))))
  have b1 := rl_lf (x := 4294967295) (y := ρ.2.1 60033) (hF.2 _ (List.mem_cons_of_mem _ (List.mem_cons_of_mem _ (List.mem_cons_of_mem _ (List.mem_cons_self)))))
  have y0 : (0 : Int64).toInt = 0 := by decide +kernel
  have y1 : (4294967295 : Int64).toInt = 4294967295 := by decide +kernel
  rw [y0] at b0
  rw [y1] at b1
  by_cases h : evs 11 (ρ.2.1 60033).toInt = true
  · exact t_wq51ir1 hv ρ k1 ⟨hF.1, fcn (decide_eq_true (show ((1 : Int32)).toInt = (if evs 11 (ρ.2.1 60033).toInt = true then 1 else 0) by rw [if_pos h]; rfl)) (fcn (wn_129 (p := 51) (q := 51) rfl et_51 b0 b1 h) (hF.2))⟩ hI k4
  · exact t_wq51ir0 hv ρ k1 ⟨hF.1, fcn (decide_eq_true (show ((0 : Int32)).toInt = (if evs 11 (ρ.2.1 60033).toInt = true then 1 else 0) by rw [if_neg h]; rfl)) (hF.2)⟩ hI k4
theorem t_wq51 {X : pX} {ρ0 : sR} (hv : vok X ρ0) : CUTOK X kR zWP c_wn2 8 ρ0 q_wq51 := CUT_mono (t_wq51i hv) (fun ρ hF hI => by
  have b0 := rl_lf (x := ρ.2.1 60033) (y := 0) (hF.2 _ (List.mem_cons_of_mem _ (List.mem_cons_of_mem _ (List.mem_cons_self))))
  have b1 := rl_lf (x := 4294967295) (y := ρ.2.1 60033) (hF.2 _ (List.mem_cons_of_mem _ (List.mem_cons_of_mem _ (List.mem_cons_of_mem _ (List.mem_cons_self)))))
  have y0 : (0 : Int64).toInt = 0 := by decide +kernel
  have y1 : (4294967295 : Int64).toInt = 4294967295 := by decide +kernel
  rw [y0] at b0
  rw [y1] at b1
  exact ⟨hF, ik_c (fun hg => decide_eq_true (of_1 (x := ρ.2.2.2.1 1761 35) (of_decide_eq_false (hg _ List.mem_cons_self)))) (ik_c (fun hg => decide_eq_true (of_0 (x := ρ.2.2.2.1 1761 35) (of_decide_eq_true (hg _ List.mem_cons_self)))) (hI))⟩)
theorem e_wp51 : frun kR [] (cpl1 zWP (c_wp2 51) [q_wq51]) (cpl2 zWP (c_wp2 51) [q_wq51]) (cleaf kR zWP (c_wp2 51) [q_wq51]) 300 65536 (isatP ((c_wp2 51).2.2.2.1) (c_wp2 51).2.2.2.2.2.2.2.1) (c_wp2 51).2.2.2.2.2.2.2.1 (sin0 mt_all (c_wp2 51).1.1 8 (c_wp2 51).2.1.1 (foot zWP (c_wp2 51).2.2.1.1)) (sin0 mt_all (c_wp2 51).1.2.1 8 (c_wp2 51).2.1.2 (foot zWP (c_wp2 51).2.2.1.2)) = true := by decide +kernel
theorem s_wp51 {X : pX} : SREL X pF pdfl mt_all kR zWP (c_wp2 51) := SREL_QC kR_x kR_0 (Cs := []) (fun C hC => by cases hC) (d := 8) rfl (c_wp2_f 51) (Q := [q_wq51]) (fun ρ0 hv => fun q hq => by
    simp only [List.mem_cons, List.not_mem_nil, or_false] at hq
    rw [hq]; exact (t_wq51 hv : CUTOK X kR zWP c_wn2 8 ρ0 q_wq51)) (QC_run 300 e_wp51)
theorem et_52 : evt[52]? = some (0, 4294967295, 11) := by decide +kernel
noncomputable def zf98vd_16 : sQ × Bool := ((129, .int 52, .arg 60033), true)
noncomputable def q_wR52 : sCut := ((fr 0 10 53 [] [], [fr 0 5 23 [(4, .int 0)] [], fBot], 7), (fr 0 281 150 [] [], [fr 0 277 91 [(3, .int 0)] [], fBot], 7), [zf98vd_16, zf98vd_1], [zi98vd_2, zi98vd_3])
noncomputable def q_wq52 : sCut := ((fr 0 5 0 [(0, tr 57), (1, .int 52), (2, .arg 60033)] [], [fBot], 8), (fr 0 277 35 [(0, tr 219), (1, .arg 1308), (2, .int 52)] [], [fBot], 8), [zf98vd_4, zf98vd_5, zf98vd_6, zf98vd_7, zf98vd_8, zf98vd_9, zf98vd_10, zf98vd_11], [zi98vd_2, zi98vd_3])
noncomputable def q_wq52i : sCut := ((fr 0 5 0 [(0, tr 57), (1, .int 52), (2, .arg 60033)] [], [fBot], 8), (fr 0 277 35 [(0, tr 219), (1, .arg 1308), (2, .int 52)] [], [fBot], 8), [zf98vd_4, zf98vd_5, zf98vd_6, zf98vd_7, zf98vd_8, zf98vd_9, zf98vd_10, zf98vd_11], [zi98vd_12, zi98vd_13, zi98vd_2, zi98vd_3])
noncomputable def q_wq52ir0 : sCut := ((fr 0 5 0 [(0, tr 57), (1, .int 52), (2, .arg 60033)] [], [fBot], 8), (fr 0 277 35 [(0, tr 219), (1, .arg 1308), (2, .int 52)] [], [fBot], 8), [zf98vd_14, zf98vd_4, zf98vd_5, zf98vd_6, zf98vd_7, zf98vd_8, zf98vd_9, zf98vd_10, zf98vd_11], [zi98vd_12, zi98vd_13, zi98vd_2, zi98vd_3])
theorem k_wq52ir0 : cbody kR [(zWP, c_mp110)] (cpl1 zWP c_wn2 []) (cpl2 zWP c_wn2 []) (cleaf kR zWP c_wn2 []) 1500 true true q_wq52ir0.2.2.1 q_wq52ir0.2.2.2 (cst zWP c_wn2.2.2.1.1 q_wq52ir0.1) (cst zWP c_wn2.2.2.1.2 q_wq52ir0.2.1) = true := by decide +kernel
theorem t_wq52ir0 {X : pX} {ρ0 : sR} (hv : vok X ρ0) : CUTOK X kR zWP c_wn2 8 ρ0 q_wq52ir0 := CUT_run kR_x kR_0 (Cs := [(zWP, c_mp110)]) (fun C hC => by rw [List.mem_singleton.mp hC]; exact s_mp110) c_wn2_f (Q := []) hv (fun q hq => by cases hq) 1500 (b1 := true) (b2 := true) k_wq52ir0
noncomputable def q_wq52ir1 : sCut := ((fr 0 5 0 [(0, tr 57), (1, .int 52), (2, .arg 60033)] [], [fBot], 8), (fr 0 277 35 [(0, tr 219), (1, .arg 1308), (2, .int 52)] [], [fBot], 8), [zf98vd_15, zf98vd_16, zf98vd_4, zf98vd_5, zf98vd_6, zf98vd_7, zf98vd_8, zf98vd_9, zf98vd_10, zf98vd_11], [zi98vd_12, zi98vd_13, zi98vd_2, zi98vd_3])
noncomputable def w_wq52ir1 : List (sCut × List (Nat × sT) × List (Nat × sT × List (sT × sT))) := [(q_wR52, [(60033, .arg 60033), (2848, .op2 .ior (.arg 2848) (.int 256)), (6850, .int 0), (6882, .arg 6882), (6914, .arg 6914), (6946, .arg 6946), (7362, .int 0), (7394, .arg 7394), (7426, .arg 7426), (7458, .arg 7458), (7874, .arg 7874), (7906, .arg 7906), (7938, .arg 7938), (7970, .arg 7970), (21216, .arg 21216), (21248, .arg 21248), (21280, .arg 21280), (21312, .arg 21312), (6466, .arg 6466), (6498, .arg 6498)], [(1761, .arg 1761, [(.int 52, .arg 60033)])])]
theorem k_wq52ir1 : cbody kR [(zWP, c_mp111)] (cpl1 zWP c_wn2 [q_wR52]) (cpl2 zWP c_wn2 [q_wR52]) (cleafB kR zWP c_wn2 w_wq52ir1) 1500 true true q_wq52ir1.2.2.1 q_wq52ir1.2.2.2 (cst zWP c_wn2.2.2.1.1 q_wq52ir1.1) (cst zWP c_wn2.2.2.1.2 q_wq52ir1.2.1) = true := by decide +kernel
theorem t_wq52ir1 {X : pX} {ρ0 : sR} (hv : vok X ρ0) : CUTOK X kR zWP c_wn2 8 ρ0 q_wq52ir1 := CUTOK_AT (fun ρ k1 hF hI k4 => AT_of (q := q_wq52ir1) rfl rfl (SEM_runB kR_x kR_0 (Cs := [(zWP, c_mp111)]) (fun C hC => by rw [List.mem_singleton.mp hC]; exact s_mp111) c_wn2_f (Q := w_wq52ir1) hv 1500 (b1 := true) (b2 := true) k_wq52ir1 k1 hF hI k4 (fun p hp ρ3 m1 m2 m3 m4 m5 m6 => by
  rw [List.mem_singleton.mp hp] at m2 m3 m5 m6 ⊢
  have y3 : ρ3.2.1 60033 = ρ.2.1 60033 := congrArg Prod.snd (m5 (60033, .arg 60033) List.mem_cons_self)
  have hA : ∀ j, ρ3.2.2.2.1 1761 j = if 52 = j then ρ.2.1 60033 else ρ.2.2.2.1 1761 j := fun j => ad_l (X := X) (p := 52) (t := .arg 60033) rfl (m6 _ List.mem_cons_self) j
  have hk : evk 52 (ρ.2.1 60033).toInt = true := by
    have h := m2.2 _ List.mem_cons_self
    rw [← y3]
    exact h
  have h0 : ρ.2.2.2.1 1761 50 = 0 := by
    have h := hA 50
    rw [if_neg (by decide)] at h
    rw [← h]
    exact of_decide_eq_true (m2.2 _ (List.mem_cons_of_mem _ List.mem_cons_self))
  have ea : ρ3.1 2848 = (sd X ρ (.op2 .ior (.arg 2848) (.int 256))).1 := congrArg Prod.fst (m5 (2848, .op2 .ior (.arg 2848) (.int 256)) (List.mem_cons_of_mem _ List.mem_cons_self))
  have eL : ρ3.1 60578 = ρ.1 60578 := (m4.1 60578 (by decide) (by decide)).1.trans (k4.1 60578 (by decide) (by decide)).1.symm
  have mo : sc X ρ3 (2, .op2 .iand (.op2 .iushr (.arg 2848) (.int 4)) (.int 1), .arg 60578) = false := by
    show decide (((ρ3.1 2848).toUInt32 >>> ((4 : Int32).toUInt32 &&& (31 : Int32).toUInt32)).toInt32 &&& 1 < ρ3.1 60578) = false
    rw [ea, eL]
    have q := tbv_ok (X := X) (ρ := ρ) (F := []) (a := .op2 .iand (.op2 .iushr (.op2 .ior (.arg 2848) (.int 256)) (.int 4)) (.int 1)) (b := .op2 .iand (.op2 .iushr (.arg 2848) (.int 4)) (.int 1)) ⟨hF.1, fun f hf => by cases hf⟩ (by decide +kernel)
    rw [sv_int rfl, sv_int rfl] at q
    exact mn_e (Value.int.inj q) (of_decide_eq_true (hF.2 _ (List.mem_cons_of_mem _ (List.mem_cons_of_mem _ (List.mem_cons_of_mem _ (List.mem_cons_of_mem _ (List.mem_cons_of_mem _ (List.mem_cons_of_mem _ (List.mem_cons_of_mem _ (List.mem_cons_of_mem _ (List.mem_cons_self)))))))))))
  exact t_wE2 hv ρ3 m1 ⟨m2.1, fcn (ev_rw (g := ρ.2.2.2.1 1761) (m := 50) (p := 52) (hF.2 _ (List.mem_cons_of_mem _ (List.mem_cons_of_mem _ (List.mem_cons_of_mem _ (List.mem_cons_of_mem _ (List.mem_cons_of_mem _ (List.mem_cons_of_mem _ (List.mem_cons_self)))))))) (by decide) hk hA h0 (by decide +kernel)) (fcn (pd_up (X := X) (p := 52) (c := 256) (z := [6850, 7362]) (hF.2 _ (List.mem_cons_of_mem _ (List.mem_cons_of_mem _ (List.mem_cons_of_mem _ (List.mem_cons_of_mem _ (List.mem_cons_of_mem _ (List.mem_cons_of_mem _ (List.mem_cons_of_mem _ (List.mem_cons_self))))))))) hA (fun x hx => m5 x (List.mem_cons_of_mem _ hx)) k4 m4 wm_2 wb_2 (by decide +kernel)) (fcn (mo) (fnl)))⟩ m3 m4)))
theorem t_wq52i {X : pX} {ρ0 : sR} (hv : vok X ρ0) : CUTOK X kR zWP c_wn2 8 ρ0 q_wq52i := fun ρ k1 hF hI k4 => by
  have b0 := rl_lf (x := ρ.2.1 60033) (y := 0) (hF.2 _ (List.mem_cons_of_mem _ (List.mem_cons_of_mem _ (List.mem_cons_self))))
  have b1 := rl_lf (x := 4294967295) (y := ρ.2.1 60033) (hF.2 _ (List.mem_cons_of_mem _ (List.mem_cons_of_mem _ (List.mem_cons_of_mem _ (List.mem_cons_self)))))
  have y0 : (0 : Int64).toInt = 0 := by decide +kernel
  have y1 : (4294967295 : Int64).toInt = 4294967295 := by decide +kernel
  rw [y0] at b0
  rw [y1] at b1
  by_cases h : evs 11 (ρ.2.1 60033).toInt = true
  · exact t_wq52ir1 hv ρ k1 ⟨hF.1, fcn (decide_eq_true (show ((1 : Int32)).toInt = (if evs 11 (ρ.2.1 60033).toInt = true then 1 else 0) by rw [if_pos h]; rfl)) (fcn (wn_129 (p := 52) (q := 52) rfl et_52 b0 b1 h) (hF.2))⟩ hI k4
  · exact t_wq52ir0 hv ρ k1 ⟨hF.1, fcn (decide_eq_true (show ((0 : Int32)).toInt = (if evs 11 (ρ.2.1 60033).toInt = true then 1 else 0) by rw [if_neg h]; rfl)) (hF.2)⟩ hI k4
theorem t_wq52 {X : pX} {ρ0 : sR} (hv : vok X ρ0) : CUTOK X kR zWP c_wn2 8 ρ0 q_wq52 := CUT_mono (t_wq52i hv) (fun ρ hF hI => by
  have b0 := rl_lf (x := ρ.2.1 60033) (y := 0) (hF.2 _ (List.mem_cons_of_mem _ (List.mem_cons_of_mem _ (List.mem_cons_self))))
  have b1 := rl_lf (x := 4294967295) (y := ρ.2.1 60033) (hF.2 _ (List.mem_cons_of_mem _ (List.mem_cons_of_mem _ (List.mem_cons_of_mem _ (List.mem_cons_self)))))
  have y0 : (0 : Int64).toInt = 0 := by decide +kernel
  have y1 : (4294967295 : Int64).toInt = 4294967295 := by decide +kernel
  rw [y0] at b0
  rw [y1] at b1
  exact ⟨hF, ik_c (fun hg => decide_eq_true (of_1 (x := ρ.2.2.2.1 1761 35) (of_decide_eq_false (hg _ List.mem_cons_self)))) (ik_c (fun hg => decide_eq_true (of_0 (x := ρ.2.2.2.1 1761 35) (of_decide_eq_true (hg _ List.mem_cons_self)))) (hI))⟩)
theorem e_wp52 : frun kR [] (cpl1 zWP (c_wp2 52) [q_wq52]) (cpl2 zWP (c_wp2 52) [q_wq52]) (cleaf kR zWP (c_wp2 52) [q_wq52]) 300 65536 (isatP ((c_wp2 52).2.2.2.1) (c_wp2 52).2.2.2.2.2.2.2.1) (c_wp2 52).2.2.2.2.2.2.2.1 (sin0 mt_all (c_wp2 52).1.1 8 (c_wp2 52).2.1.1 (foot zWP (c_wp2 52).2.2.1.1)) (sin0 mt_all (c_wp2 52).1.2.1 8 (c_wp2 52).2.1.2 (foot zWP (c_wp2 52).2.2.1.2)) = true := by decide +kernel
theorem s_wp52 {X : pX} : SREL X pF pdfl mt_all kR zWP (c_wp2 52) := SREL_QC kR_x kR_0 (Cs := []) (fun C hC => by cases hC) (d := 8) rfl (c_wp2_f 52) (Q := [q_wq52]) (fun ρ0 hv => fun q hq => by
    simp only [List.mem_cons, List.not_mem_nil, or_false] at hq
    rw [hq]; exact (t_wq52 hv : CUTOK X kR zWP c_wn2 8 ρ0 q_wq52)) (QC_run 300 e_wp52)
theorem et_53 : evt[53]? = some (0, 4294967295, 11) := by decide +kernel
noncomputable def zf98vd_17 : sQ × Bool := ((129, .int 53, .arg 60033), true)
noncomputable def q_wR53 : sCut := ((fr 0 10 53 [] [], [fr 0 5 23 [(4, .int 0)] [], fBot], 7), (fr 0 281 150 [] [], [fr 0 277 91 [(3, .int 0)] [], fBot], 7), [zf98vd_17, zf98vd_1], [zi98vd_2, zi98vd_3])
noncomputable def q_wq53 : sCut := ((fr 0 5 0 [(0, tr 57), (1, .int 53), (2, .arg 60033)] [], [fBot], 8), (fr 0 277 35 [(0, tr 219), (1, .arg 1308), (2, .int 53)] [], [fBot], 8), [zf98vd_4, zf98vd_5, zf98vd_6, zf98vd_7, zf98vd_8, zf98vd_9, zf98vd_10, zf98vd_11], [zi98vd_2, zi98vd_3])
noncomputable def q_wq53i : sCut := ((fr 0 5 0 [(0, tr 57), (1, .int 53), (2, .arg 60033)] [], [fBot], 8), (fr 0 277 35 [(0, tr 219), (1, .arg 1308), (2, .int 53)] [], [fBot], 8), [zf98vd_4, zf98vd_5, zf98vd_6, zf98vd_7, zf98vd_8, zf98vd_9, zf98vd_10, zf98vd_11], [zi98vd_12, zi98vd_13, zi98vd_2, zi98vd_3])
noncomputable def q_wq53ir0 : sCut := ((fr 0 5 0 [(0, tr 57), (1, .int 53), (2, .arg 60033)] [], [fBot], 8), (fr 0 277 35 [(0, tr 219), (1, .arg 1308), (2, .int 53)] [], [fBot], 8), [zf98vd_14, zf98vd_4, zf98vd_5, zf98vd_6, zf98vd_7, zf98vd_8, zf98vd_9, zf98vd_10, zf98vd_11], [zi98vd_12, zi98vd_13, zi98vd_2, zi98vd_3])
theorem k_wq53ir0 : cbody kR [(zWP, c_mp110)] (cpl1 zWP c_wn2 []) (cpl2 zWP c_wn2 []) (cleaf kR zWP c_wn2 []) 1500 true true q_wq53ir0.2.2.1 q_wq53ir0.2.2.2 (cst zWP c_wn2.2.2.1.1 q_wq53ir0.1) (cst zWP c_wn2.2.2.1.2 q_wq53ir0.2.1) = true := by decide +kernel
theorem t_wq53ir0 {X : pX} {ρ0 : sR} (hv : vok X ρ0) : CUTOK X kR zWP c_wn2 8 ρ0 q_wq53ir0 := CUT_run kR_x kR_0 (Cs := [(zWP, c_mp110)]) (fun C hC => by rw [List.mem_singleton.mp hC]; exact s_mp110) c_wn2_f (Q := []) hv (fun q hq => by cases hq) 1500 (b1 := true) (b2 := true) k_wq53ir0
noncomputable def q_wq53ir1 : sCut := ((fr 0 5 0 [(0, tr 57), (1, .int 53), (2, .arg 60033)] [], [fBot], 8), (fr 0 277 35 [(0, tr 219), (1, .arg 1308), (2, .int 53)] [], [fBot], 8), [zf98vd_15, zf98vd_17, zf98vd_4, zf98vd_5, zf98vd_6, zf98vd_7, zf98vd_8, zf98vd_9, zf98vd_10, zf98vd_11], [zi98vd_12, zi98vd_13, zi98vd_2, zi98vd_3])
noncomputable def w_wq53ir1 : List (sCut × List (Nat × sT) × List (Nat × sT × List (sT × sT))) := [(q_wR53, [(60033, .arg 60033), (2848, .op2 .ior (.arg 2848) (.int 256)), (6850, .int 0), (6882, .arg 6882), (6914, .arg 6914), (6946, .arg 6946), (7362, .int 0), (7394, .arg 7394), (7426, .arg 7426), (7458, .arg 7458), (7874, .arg 7874), (7906, .arg 7906), (7938, .arg 7938), (7970, .arg 7970), (21216, .arg 21216), (21248, .arg 21248), (21280, .arg 21280), (21312, .arg 21312), (6466, .arg 6466), (6498, .arg 6498)], [(1761, .arg 1761, [(.int 53, .arg 60033)])])]
theorem k_wq53ir1 : cbody kR [(zWP, c_mp111)] (cpl1 zWP c_wn2 [q_wR53]) (cpl2 zWP c_wn2 [q_wR53]) (cleafB kR zWP c_wn2 w_wq53ir1) 1500 true true q_wq53ir1.2.2.1 q_wq53ir1.2.2.2 (cst zWP c_wn2.2.2.1.1 q_wq53ir1.1) (cst zWP c_wn2.2.2.1.2 q_wq53ir1.2.1) = true := by decide +kernel
theorem t_wq53ir1 {X : pX} {ρ0 : sR} (hv : vok X ρ0) : CUTOK X kR zWP c_wn2 8 ρ0 q_wq53ir1 := CUTOK_AT (fun ρ k1 hF hI k4 => AT_of (q := q_wq53ir1) rfl rfl (SEM_runB kR_x kR_0 (Cs := [(zWP, c_mp111)]) (fun C hC => by rw [List.mem_singleton.mp hC]; exact s_mp111) c_wn2_f (Q := w_wq53ir1) hv 1500 (b1 := true) (b2 := true) k_wq53ir1 k1 hF hI k4 (fun p hp ρ3 m1 m2 m3 m4 m5 m6 => by
  rw [List.mem_singleton.mp hp] at m2 m3 m5 m6 ⊢
  have y3 : ρ3.2.1 60033 = ρ.2.1 60033 := congrArg Prod.snd (m5 (60033, .arg 60033) List.mem_cons_self)
  have hA : ∀ j, ρ3.2.2.2.1 1761 j = if 53 = j then ρ.2.1 60033 else ρ.2.2.2.1 1761 j := fun j => ad_l (X := X) (p := 53) (t := .arg 60033) rfl (m6 _ List.mem_cons_self) j
  have hk : evk 53 (ρ.2.1 60033).toInt = true := by
    have h := m2.2 _ List.mem_cons_self
    rw [← y3]
    exact h
  have h0 : ρ.2.2.2.1 1761 50 = 0 := by
    have h := hA 50
    rw [if_neg (by decide)] at h
    rw [← h]
    exact of_decide_eq_true (m2.2 _ (List.mem_cons_of_mem _ List.mem_cons_self))
  have ea : ρ3.1 2848 = (sd X ρ (.op2 .ior (.arg 2848) (.int 256))).1 := congrArg Prod.fst (m5 (2848, .op2 .ior (.arg 2848) (.int 256)) (List.mem_cons_of_mem _ List.mem_cons_self))
  have eL : ρ3.1 60578 = ρ.1 60578 := (m4.1 60578 (by decide) (by decide)).1.trans (k4.1 60578 (by decide) (by decide)).1.symm
  have mo : sc X ρ3 (2, .op2 .iand (.op2 .iushr (.arg 2848) (.int 4)) (.int 1), .arg 60578) = false := by
    show decide (((ρ3.1 2848).toUInt32 >>> ((4 : Int32).toUInt32 &&& (31 : Int32).toUInt32)).toInt32 &&& 1 < ρ3.1 60578) = false
    rw [ea, eL]
    have q := tbv_ok (X := X) (ρ := ρ) (F := []) (a := .op2 .iand (.op2 .iushr (.op2 .ior (.arg 2848) (.int 256)) (.int 4)) (.int 1)) (b := .op2 .iand (.op2 .iushr (.arg 2848) (.int 4)) (.int 1)) ⟨hF.1, fun f hf => by cases hf⟩ (by decide +kernel)
    rw [sv_int rfl, sv_int rfl] at q
    exact mn_e (Value.int.inj q) (of_decide_eq_true (hF.2 _ (List.mem_cons_of_mem _ (List.mem_cons_of_mem _ (List.mem_cons_of_mem _ (List.mem_cons_of_mem _ (List.mem_cons_of_mem _ (List.mem_cons_of_mem _ (List.mem_cons_of_mem _ (List.mem_cons_of_mem _ (List.mem_cons_self)))))))))))
  exact t_wE2 hv ρ3 m1 ⟨m2.1, fcn (ev_rw (g := ρ.2.2.2.1 1761) (m := 50) (p := 53) (hF.2 _ (List.mem_cons_of_mem _ (List.mem_cons_of_mem _ (List.mem_cons_of_mem _ (List.mem_cons_of_mem _ (List.mem_cons_of_mem _ (List.mem_cons_of_mem _ (List.mem_cons_self)))))))) (by decide) hk hA h0 (by decide +kernel)) (fcn (pd_up (X := X) (p := 53) (c := 256) (z := [6850, 7362]) (hF.2 _ (List.mem_cons_of_mem _ (List.mem_cons_of_mem _ (List.mem_cons_of_mem _ (List.mem_cons_of_mem _ (List.mem_cons_of_mem _ (List.mem_cons_of_mem _ (List.mem_cons_of_mem _ (List.mem_cons_self))))))))) hA (fun x hx => m5 x (List.mem_cons_of_mem _ hx)) k4 m4 wm_2 wb_2 (by decide +kernel)) (fcn (mo) (fnl)))⟩ m3 m4)))
theorem t_wq53i {X : pX} {ρ0 : sR} (hv : vok X ρ0) : CUTOK X kR zWP c_wn2 8 ρ0 q_wq53i := fun ρ k1 hF hI k4 => by
  have b0 := rl_lf (x := ρ.2.1 60033) (y := 0) (hF.2 _ (List.mem_cons_of_mem _ (List.mem_cons_of_mem _ (List.mem_cons_self))))
  have b1 := rl_lf (x := 4294967295) (y := ρ.2.1 60033) (hF.2 _ (List.mem_cons_of_mem _ (List.mem_cons_of_mem _ (List.mem_cons_of_mem _ (List.mem_cons_self)))))
  have y0 : (0 : Int64).toInt = 0 := by decide +kernel
  have y1 : (4294967295 : Int64).toInt = 4294967295 := by decide +kernel
  rw [y0] at b0
  rw [y1] at b1
  by_cases h : evs 11 (ρ.2.1 60033).toInt = true
  · exact t_wq53ir1 hv ρ k1 ⟨hF.1, fcn (decide_eq_true (show ((1 : Int32)).toInt = (if evs 11 (ρ.2.1 60033).toInt = true then 1 else 0) by rw [if_pos h]; rfl)) (fcn (wn_129 (p := 53) (q := 53) rfl et_53 b0 b1 h) (hF.2))⟩ hI k4
  · exact t_wq53ir0 hv ρ k1 ⟨hF.1, fcn (decide_eq_true (show ((0 : Int32)).toInt = (if evs 11 (ρ.2.1 60033).toInt = true then 1 else 0) by rw [if_neg h]; rfl)) (hF.2)⟩ hI k4
theorem t_wq53 {X : pX} {ρ0 : sR} (hv : vok X ρ0) : CUTOK X kR zWP c_wn2 8 ρ0 q_wq53 := CUT_mono (t_wq53i hv) (fun ρ hF hI => by
  have b0 := rl_lf (x := ρ.2.1 60033) (y := 0) (hF.2 _ (List.mem_cons_of_mem _ (List.mem_cons_of_mem _ (List.mem_cons_self))))
  have b1 := rl_lf (x := 4294967295) (y := ρ.2.1 60033) (hF.2 _ (List.mem_cons_of_mem _ (List.mem_cons_of_mem _ (List.mem_cons_of_mem _ (List.mem_cons_self)))))
  have y0 : (0 : Int64).toInt = 0 := by decide +kernel
  have y1 : (4294967295 : Int64).toInt = 4294967295 := by decide +kernel
  rw [y0] at b0
  rw [y1] at b1
  exact ⟨hF, ik_c (fun hg => decide_eq_true (of_1 (x := ρ.2.2.2.1 1761 35) (of_decide_eq_false (hg _ List.mem_cons_self)))) (ik_c (fun hg => decide_eq_true (of_0 (x := ρ.2.2.2.1 1761 35) (of_decide_eq_true (hg _ List.mem_cons_self)))) (hI))⟩)
theorem e_wp53 : frun kR [] (cpl1 zWP (c_wp2 53) [q_wq53]) (cpl2 zWP (c_wp2 53) [q_wq53]) (cleaf kR zWP (c_wp2 53) [q_wq53]) 300 65536 (isatP ((c_wp2 53).2.2.2.1) (c_wp2 53).2.2.2.2.2.2.2.1) (c_wp2 53).2.2.2.2.2.2.2.1 (sin0 mt_all (c_wp2 53).1.1 8 (c_wp2 53).2.1.1 (foot zWP (c_wp2 53).2.2.1.1)) (sin0 mt_all (c_wp2 53).1.2.1 8 (c_wp2 53).2.1.2 (foot zWP (c_wp2 53).2.2.1.2)) = true := by decide +kernel
theorem s_wp53 {X : pX} : SREL X pF pdfl mt_all kR zWP (c_wp2 53) := SREL_QC kR_x kR_0 (Cs := []) (fun C hC => by cases hC) (d := 8) rfl (c_wp2_f 53) (Q := [q_wq53]) (fun ρ0 hv => fun q hq => by
    simp only [List.mem_cons, List.not_mem_nil, or_false] at hq
    rw [hq]; exact (t_wq53 hv : CUTOK X kR zWP c_wn2 8 ρ0 q_wq53)) (QC_run 300 e_wp53)
theorem et_54 : evt[54]? = some (0, 4294967295, 11) := by decide +kernel
noncomputable def zf98vd_18 : sQ × Bool := ((129, .int 54, .arg 60033), true)
noncomputable def q_wR54 : sCut := ((fr 0 10 53 [] [], [fr 0 5 23 [(4, .int 0)] [], fBot], 7), (fr 0 281 150 [] [], [fr 0 277 91 [(3, .int 0)] [], fBot], 7), [zf98vd_18, zf98vd_1], [zi98vd_2, zi98vd_3])
noncomputable def q_wq54 : sCut := ((fr 0 5 0 [(0, tr 57), (1, .int 54), (2, .arg 60033)] [], [fBot], 8), (fr 0 277 35 [(0, tr 219), (1, .arg 1308), (2, .int 54)] [], [fBot], 8), [zf98vd_4, zf98vd_5, zf98vd_6, zf98vd_7, zf98vd_8, zf98vd_9, zf98vd_10, zf98vd_11], [zi98vd_2, zi98vd_3])
noncomputable def q_wq54i : sCut := ((fr 0 5 0 [(0, tr 57), (1, .int 54), (2, .arg 60033)] [], [fBot], 8), (fr 0 277 35 [(0, tr 219), (1, .arg 1308), (2, .int 54)] [], [fBot], 8), [zf98vd_4, zf98vd_5, zf98vd_6, zf98vd_7, zf98vd_8, zf98vd_9, zf98vd_10, zf98vd_11], [zi98vd_12, zi98vd_13, zi98vd_2, zi98vd_3])
noncomputable def q_wq54ir0 : sCut := ((fr 0 5 0 [(0, tr 57), (1, .int 54), (2, .arg 60033)] [], [fBot], 8), (fr 0 277 35 [(0, tr 219), (1, .arg 1308), (2, .int 54)] [], [fBot], 8), [zf98vd_14, zf98vd_4, zf98vd_5, zf98vd_6, zf98vd_7, zf98vd_8, zf98vd_9, zf98vd_10, zf98vd_11], [zi98vd_12, zi98vd_13, zi98vd_2, zi98vd_3])
theorem k_wq54ir0 : cbody kR [(zWP, c_mp110)] (cpl1 zWP c_wn2 []) (cpl2 zWP c_wn2 []) (cleaf kR zWP c_wn2 []) 1500 true true q_wq54ir0.2.2.1 q_wq54ir0.2.2.2 (cst zWP c_wn2.2.2.1.1 q_wq54ir0.1) (cst zWP c_wn2.2.2.1.2 q_wq54ir0.2.1) = true := by decide +kernel
theorem t_wq54ir0 {X : pX} {ρ0 : sR} (hv : vok X ρ0) : CUTOK X kR zWP c_wn2 8 ρ0 q_wq54ir0 := CUT_run kR_x kR_0 (Cs := [(zWP, c_mp110)]) (fun C hC => by rw [List.mem_singleton.mp hC]; exact s_mp110) c_wn2_f (Q := []) hv (fun q hq => by cases hq) 1500 (b1 := true) (b2 := true) k_wq54ir0
noncomputable def q_wq54ir1 : sCut := ((fr 0 5 0 [(0, tr 57), (1, .int 54), (2, .arg 60033)] [], [fBot], 8), (fr 0 277 35 [(0, tr 219), (1, .arg 1308), (2, .int 54)] [], [fBot], 8), [zf98vd_15, zf98vd_18, zf98vd_4, zf98vd_5, zf98vd_6, zf98vd_7, zf98vd_8, zf98vd_9, zf98vd_10, zf98vd_11], [zi98vd_12, zi98vd_13, zi98vd_2, zi98vd_3])
noncomputable def w_wq54ir1 : List (sCut × List (Nat × sT) × List (Nat × sT × List (sT × sT))) := [(q_wR54, [(60033, .arg 60033), (2848, .op2 .ior (.arg 2848) (.int 256)), (6850, .int 0), (6882, .arg 6882), (6914, .arg 6914), (6946, .arg 6946), (7362, .int 0), (7394, .arg 7394), (7426, .arg 7426), (7458, .arg 7458), (7874, .arg 7874), (7906, .arg 7906), (7938, .arg 7938), (7970, .arg 7970), (21216, .arg 21216), (21248, .arg 21248), (21280, .arg 21280), (21312, .arg 21312), (6466, .arg 6466), (6498, .arg 6498)], [(1761, .arg 1761, [(.int 54, .arg 60033)])])]
theorem k_wq54ir1 : cbody kR [(zWP, c_mp111)] (cpl1 zWP c_wn2 [q_wR54]) (cpl2 zWP c_wn2 [q_wR54]) (cleafB kR zWP c_wn2 w_wq54ir1) 1500 true true q_wq54ir1.2.2.1 q_wq54ir1.2.2.2 (cst zWP c_wn2.2.2.1.1 q_wq54ir1.1) (cst zWP c_wn2.2.2.1.2 q_wq54ir1.2.1) = true := by decide +kernel
theorem t_wq54ir1 {X : pX} {ρ0 : sR} (hv : vok X ρ0) : CUTOK X kR zWP c_wn2 8 ρ0 q_wq54ir1 := CUTOK_AT (fun ρ k1 hF hI k4 => AT_of (q := q_wq54ir1) rfl rfl (SEM_runB kR_x kR_0 (Cs := [(zWP, c_mp111)]) (fun C hC => by rw [List.mem_singleton.mp hC]; exact s_mp111) c_wn2_f (Q := w_wq54ir1) hv 1500 (b1 := true) (b2 := true) k_wq54ir1 k1 hF hI k4 (fun p hp ρ3 m1 m2 m3 m4 m5 m6 => by
  rw [List.mem_singleton.mp hp] at m2 m3 m5 m6 ⊢
  have y3 : ρ3.2.1 60033 = ρ.2.1 60033 := congrArg Prod.snd (m5 (60033, .arg 60033) List.mem_cons_self)
  have hA : ∀ j, ρ3.2.2.2.1 1761 j = if 54 = j then ρ.2.1 60033 else ρ.2.2.2.1 1761 j := fun j => ad_l (X := X) (p := 54) (t := .arg 60033) rfl (m6 _ List.mem_cons_self) j
  have hk : evk 54 (ρ.2.1 60033).toInt = true := by
    have h := m2.2 _ List.mem_cons_self
    rw [← y3]
    exact h
  have h0 : ρ.2.2.2.1 1761 50 = 0 := by
    have h := hA 50
    rw [if_neg (by decide)] at h
    rw [← h]
    exact of_decide_eq_true (m2.2 _ (List.mem_cons_of_mem _ List.mem_cons_self))
  have ea : ρ3.1 2848 = (sd X ρ (.op2 .ior (.arg 2848) (.int 256))).1 := congrArg Prod.fst (m5 (2848, .op2 .ior (.arg 2848) (.int 256)) (List.mem_cons_of_mem _ List.mem_cons_self))
  have eL : ρ3.1 60578 = ρ.1 60578 := (m4.1 60578 (by decide) (by decide)).1.trans (k4.1 60578 (by decide) (by decide)).1.symm
  have mo : sc X ρ3 (2, .op2 .iand (.op2 .iushr (.arg 2848) (.int 4)) (.int 1), .arg 60578) = false := by
    show decide (((ρ3.1 2848).toUInt32 >>> ((4 : Int32).toUInt32 &&& (31 : Int32).toUInt32)).toInt32 &&& 1 < ρ3.1 60578) = false
    rw [ea, eL]
    have q := tbv_ok (X := X) (ρ := ρ) (F := []) (a := .op2 .iand (.op2 .iushr (.op2 .ior (.arg 2848) (.int 256)) (.int 4)) (.int 1)) (b := .op2 .iand (.op2 .iushr (.arg 2848) (.int 4)) (.int 1)) ⟨hF.1, fun f hf => by cases hf⟩ (by decide +kernel)
    rw [sv_int rfl, sv_int rfl] at q
    exact mn_e (Value.int.inj q) (of_decide_eq_true (hF.2 _ (List.mem_cons_of_mem _ (List.mem_cons_of_mem _ (List.mem_cons_of_mem _ (List.mem_cons_of_mem _ (List.mem_cons_of_mem _ (List.mem_cons_of_mem _ (List.mem_cons_of_mem _ (List.mem_cons_of_mem _ (List.mem_cons_self)))))))))))
  exact t_wE2 hv ρ3 m1 ⟨m2.1, fcn (ev_rw (g := ρ.2.2.2.1 1761) (m := 50) (p := 54) (hF.2 _ (List.mem_cons_of_mem _ (List.mem_cons_of_mem _ (List.mem_cons_of_mem _ (List.mem_cons_of_mem _ (List.mem_cons_of_mem _ (List.mem_cons_of_mem _ (List.mem_cons_self)))))))) (by decide) hk hA h0 (by decide +kernel)) (fcn (pd_up (X := X) (p := 54) (c := 256) (z := [6850, 7362]) (hF.2 _ (List.mem_cons_of_mem _ (List.mem_cons_of_mem _ (List.mem_cons_of_mem _ (List.mem_cons_of_mem _ (List.mem_cons_of_mem _ (List.mem_cons_of_mem _ (List.mem_cons_of_mem _ (List.mem_cons_self))))))))) hA (fun x hx => m5 x (List.mem_cons_of_mem _ hx)) k4 m4 wm_2 wb_2 (by decide +kernel)) (fcn (mo) (fnl)))⟩ m3 m4)))
theorem t_wq54i {X : pX} {ρ0 : sR} (hv : vok X ρ0) : CUTOK X kR zWP c_wn2 8 ρ0 q_wq54i := fun ρ k1 hF hI k4 => by
  have b0 := rl_lf (x := ρ.2.1 60033) (y := 0) (hF.2 _ (List.mem_cons_of_mem _ (List.mem_cons_of_mem _ (List.mem_cons_self))))
  have b1 := rl_lf (x := 4294967295) (y := ρ.2.1 60033) (hF.2 _ (List.mem_cons_of_mem _ (List.mem_cons_of_mem _ (List.mem_cons_of_mem _ (List.mem_cons_self)))))
  have y0 : (0 : Int64).toInt = 0 := by decide +kernel
  have y1 : (4294967295 : Int64).toInt = 4294967295 := by decide +kernel
  rw [y0] at b0
  rw [y1] at b1
  by_cases h : evs 11 (ρ.2.1 60033).toInt = true
  · exact t_wq54ir1 hv ρ k1 ⟨hF.1, fcn (decide_eq_true (show ((1 : Int32)).toInt = (if evs 11 (ρ.2.1 60033).toInt = true then 1 else 0) by rw [if_pos h]; rfl)) (fcn (wn_129 (p := 54) (q := 54) rfl et_54 b0 b1 h) (hF.2))⟩ hI k4
  · exact t_wq54ir0 hv ρ k1 ⟨hF.1, fcn (decide_eq_true (show ((0 : Int32)).toInt = (if evs 11 (ρ.2.1 60033).toInt = true then 1 else 0) by rw [if_neg h]; rfl)) (hF.2)⟩ hI k4
theorem t_wq54 {X : pX} {ρ0 : sR} (hv : vok X ρ0) : CUTOK X kR zWP c_wn2 8 ρ0 q_wq54 := CUT_mono (t_wq54i hv) (fun ρ hF hI => by
  have b0 := rl_lf (x := ρ.2.1 60033) (y := 0) (hF.2 _ (List.mem_cons_of_mem _ (List.mem_cons_of_mem _ (List.mem_cons_self))))
  have b1 := rl_lf (x := 4294967295) (y := ρ.2.1 60033) (hF.2 _ (List.mem_cons_of_mem _ (List.mem_cons_of_mem _ (List.mem_cons_of_mem _ (List.mem_cons_self)))))
  have y0 : (0 : Int64).toInt = 0 := by decide +kernel
  have y1 : (4294967295 : Int64).toInt = 4294967295 := by decide +kernel
  rw [y0] at b0
  rw [y1] at b1
  exact ⟨hF, ik_c (fun hg => decide_eq_true (of_1 (x := ρ.2.2.2.1 1761 35) (of_decide_eq_false (hg _ List.mem_cons_self)))) (ik_c (fun hg => decide_eq_true (of_0 (x := ρ.2.2.2.1 1761 35) (of_decide_eq_true (hg _ List.mem_cons_self)))) (hI))⟩)
theorem e_wp54 : frun kR [] (cpl1 zWP (c_wp2 54) [q_wq54]) (cpl2 zWP (c_wp2 54) [q_wq54]) (cleaf kR zWP (c_wp2 54) [q_wq54]) 300 65536 (isatP ((c_wp2 54).2.2.2.1) (c_wp2 54).2.2.2.2.2.2.2.1) (c_wp2 54).2.2.2.2.2.2.2.1 (sin0 mt_all (c_wp2 54).1.1 8 (c_wp2 54).2.1.1 (foot zWP (c_wp2 54).2.2.1.1)) (sin0 mt_all (c_wp2 54).1.2.1 8 (c_wp2 54).2.1.2 (foot zWP (c_wp2 54).2.2.1.2)) = true := by decide +kernel
theorem s_wp54 {X : pX} : SREL X pF pdfl mt_all kR zWP (c_wp2 54) := SREL_QC kR_x kR_0 (Cs := []) (fun C hC => by cases hC) (d := 8) rfl (c_wp2_f 54) (Q := [q_wq54]) (fun ρ0 hv => fun q hq => by
    simp only [List.mem_cons, List.not_mem_nil, or_false] at hq
    rw [hq]; exact (t_wq54 hv : CUTOK X kR zWP c_wn2 8 ρ0 q_wq54)) (QC_run 300 e_wp54)
theorem et_56 : evt[56]? = some (0, 4294967295, 11) := by decide +kernel
noncomputable def zf98vd_19 : sQ × Bool := ((129, .int 56, .arg 60033), true)
noncomputable def zf98vd_20 : sQ × Bool := ((6, .elem (.arg 1761) (.int 55), .long 0), true)
noncomputable def q_wR56 : sCut := ((fr 0 10 53 [] [], [fr 0 5 23 [(4, .int 0)] [], fBot], 7), (fr 0 281 150 [] [], [fr 0 277 91 [(3, .int 0)] [], fBot], 7), [zf98vd_19, zf98vd_20], [zi98vd_2, zi98vd_3])
noncomputable def q_wq56 : sCut := ((fr 0 5 0 [(0, tr 57), (1, .int 56), (2, .arg 60033)] [], [fBot], 8), (fr 0 277 35 [(0, tr 219), (1, .arg 1308), (2, .int 56)] [], [fBot], 8), [zf98vd_4, zf98vd_5, zf98vd_6, zf98vd_7, zf98vd_8, zf98vd_9, zf98vd_10, zf98vd_11], [zi98vd_2, zi98vd_3])
noncomputable def zi98vd_21 : sFs × sQ × Bool := ([((6, .op2 .land (.elem (.arg 1761) (.int 39)) (.long 2147483648), .long 0), false)], (6, .op2 .land (.op2 .lshr (.elem (.arg 1761) (.int 39)) (.int 31)) (.long 1), .long 1), true)
noncomputable def zi98vd_22 : sFs × sQ × Bool := ([((6, .op2 .land (.elem (.arg 1761) (.int 39)) (.long 2147483648), .long 0), true)], (6, .op2 .land (.op2 .lshr (.elem (.arg 1761) (.int 39)) (.int 31)) (.long 1), .long 0), true)
noncomputable def q_wq56i : sCut := ((fr 0 5 0 [(0, tr 57), (1, .int 56), (2, .arg 60033)] [], [fBot], 8), (fr 0 277 35 [(0, tr 219), (1, .arg 1308), (2, .int 56)] [], [fBot], 8), [zf98vd_4, zf98vd_5, zf98vd_6, zf98vd_7, zf98vd_8, zf98vd_9, zf98vd_10, zf98vd_11], [zi98vd_21, zi98vd_22, zi98vd_2, zi98vd_3])
noncomputable def q_wq56ir0 : sCut := ((fr 0 5 0 [(0, tr 57), (1, .int 56), (2, .arg 60033)] [], [fBot], 8), (fr 0 277 35 [(0, tr 219), (1, .arg 1308), (2, .int 56)] [], [fBot], 8), [zf98vd_14, zf98vd_4, zf98vd_5, zf98vd_6, zf98vd_7, zf98vd_8, zf98vd_9, zf98vd_10, zf98vd_11], [zi98vd_21, zi98vd_22, zi98vd_2, zi98vd_3])
theorem k_wq56ir0 : cbody kR [(zWP, c_mp110)] (cpl1 zWP c_wn2 []) (cpl2 zWP c_wn2 []) (cleaf kR zWP c_wn2 []) 1500 true true q_wq56ir0.2.2.1 q_wq56ir0.2.2.2 (cst zWP c_wn2.2.2.1.1 q_wq56ir0.1) (cst zWP c_wn2.2.2.1.2 q_wq56ir0.2.1) = true := by decide +kernel
theorem t_wq56ir0 {X : pX} {ρ0 : sR} (hv : vok X ρ0) : CUTOK X kR zWP c_wn2 8 ρ0 q_wq56ir0 := CUT_run kR_x kR_0 (Cs := [(zWP, c_mp110)]) (fun C hC => by rw [List.mem_singleton.mp hC]; exact s_mp110) c_wn2_f (Q := []) hv (fun q hq => by cases hq) 1500 (b1 := true) (b2 := true) k_wq56ir0
noncomputable def q_wq56ir1 : sCut := ((fr 0 5 0 [(0, tr 57), (1, .int 56), (2, .arg 60033)] [], [fBot], 8), (fr 0 277 35 [(0, tr 219), (1, .arg 1308), (2, .int 56)] [], [fBot], 8), [zf98vd_15, zf98vd_19, zf98vd_4, zf98vd_5, zf98vd_6, zf98vd_7, zf98vd_8, zf98vd_9, zf98vd_10, zf98vd_11], [zi98vd_21, zi98vd_22, zi98vd_2, zi98vd_3])
noncomputable def w_wq56ir1 : List (sCut × List (Nat × sT) × List (Nat × sT × List (sT × sT))) := [(q_wR56, [(60033, .arg 60033), (2848, .op2 .ior (.arg 2848) (.int 512)), (6850, .arg 6850), (6882, .int 0), (6914, .arg 6914), (6946, .arg 6946), (7362, .arg 7362), (7394, .int 0), (7426, .arg 7426), (7458, .arg 7458), (7874, .arg 7874), (7906, .arg 7906), (7938, .arg 7938), (7970, .arg 7970), (21216, .arg 21216), (21248, .arg 21248), (21280, .arg 21280), (21312, .arg 21312), (6466, .arg 6466), (6498, .arg 6498)], [(1761, .arg 1761, [(.int 56, .arg 60033)])])]
theorem k_wq56ir1 : cbody kR [(zWP, c_mp111)] (cpl1 zWP c_wn2 [q_wR56]) (cpl2 zWP c_wn2 [q_wR56]) (cleafB kR zWP c_wn2 w_wq56ir1) 1500 true true q_wq56ir1.2.2.1 q_wq56ir1.2.2.2 (cst zWP c_wn2.2.2.1.1 q_wq56ir1.1) (cst zWP c_wn2.2.2.1.2 q_wq56ir1.2.1) = true := by decide +kernel
theorem t_wq56ir1 {X : pX} {ρ0 : sR} (hv : vok X ρ0) : CUTOK X kR zWP c_wn2 8 ρ0 q_wq56ir1 := CUTOK_AT (fun ρ k1 hF hI k4 => AT_of (q := q_wq56ir1) rfl rfl (SEM_runB kR_x kR_0 (Cs := [(zWP, c_mp111)]) (fun C hC => by rw [List.mem_singleton.mp hC]; exact s_mp111) c_wn2_f (Q := w_wq56ir1) hv 1500 (b1 := true) (b2 := true) k_wq56ir1 k1 hF hI k4 (fun p hp ρ3 m1 m2 m3 m4 m5 m6 => by
  rw [List.mem_singleton.mp hp] at m2 m3 m5 m6 ⊢
  have y3 : ρ3.2.1 60033 = ρ.2.1 60033 := congrArg Prod.snd (m5 (60033, .arg 60033) List.mem_cons_self)
  have hA : ∀ j, ρ3.2.2.2.1 1761 j = if 56 = j then ρ.2.1 60033 else ρ.2.2.2.1 1761 j := fun j => ad_l (X := X) (p := 56) (t := .arg 60033) rfl (m6 _ List.mem_cons_self) j
  have hk : evk 56 (ρ.2.1 60033).toInt = true := by
    have h := m2.2 _ List.mem_cons_self
    rw [← y3]
    exact h
  have h0 : ρ.2.2.2.1 1761 55 = 0 := by
    have h := hA 55
    rw [if_neg (by decide)] at h
    rw [← h]
    exact of_decide_eq_true (m2.2 _ (List.mem_cons_of_mem _ List.mem_cons_self))
  have ea : ρ3.1 2848 = (sd X ρ (.op2 .ior (.arg 2848) (.int 512))).1 := congrArg Prod.fst (m5 (2848, .op2 .ior (.arg 2848) (.int 512)) (List.mem_cons_of_mem _ List.mem_cons_self))
  have eL : ρ3.1 60578 = ρ.1 60578 := (m4.1 60578 (by decide) (by decide)).1.trans (k4.1 60578 (by decide) (by decide)).1.symm
  have mo : sc X ρ3 (2, .op2 .iand (.op2 .iushr (.arg 2848) (.int 4)) (.int 1), .arg 60578) = false := by
    show decide (((ρ3.1 2848).toUInt32 >>> ((4 : Int32).toUInt32 &&& (31 : Int32).toUInt32)).toInt32 &&& 1 < ρ3.1 60578) = false
    rw [ea, eL]
    have q := tbv_ok (X := X) (ρ := ρ) (F := []) (a := .op2 .iand (.op2 .iushr (.op2 .ior (.arg 2848) (.int 512)) (.int 4)) (.int 1)) (b := .op2 .iand (.op2 .iushr (.arg 2848) (.int 4)) (.int 1)) ⟨hF.1, fun f hf => by cases hf⟩ (by decide +kernel)
    rw [sv_int rfl, sv_int rfl] at q
    exact mn_e (Value.int.inj q) (of_decide_eq_true (hF.2 _ (List.mem_cons_of_mem _ (List.mem_cons_of_mem _ (List.mem_cons_of_mem _ (List.mem_cons_of_mem _ (List.mem_cons_of_mem _ (List.mem_cons_of_mem _ (List.mem_cons_of_mem _ (List.mem_cons_of_mem _ (List.mem_cons_self)))))))))))
  exact t_wE2 hv ρ3 m1 ⟨m2.1, fcn (ev_rw (g := ρ.2.2.2.1 1761) (m := 55) (p := 56) (hF.2 _ (List.mem_cons_of_mem _ (List.mem_cons_of_mem _ (List.mem_cons_of_mem _ (List.mem_cons_of_mem _ (List.mem_cons_of_mem _ (List.mem_cons_of_mem _ (List.mem_cons_self)))))))) (by decide) hk hA h0 (by decide +kernel)) (fcn (pd_up (X := X) (p := 56) (c := 512) (z := [6882, 7394]) (hF.2 _ (List.mem_cons_of_mem _ (List.mem_cons_of_mem _ (List.mem_cons_of_mem _ (List.mem_cons_of_mem _ (List.mem_cons_of_mem _ (List.mem_cons_of_mem _ (List.mem_cons_of_mem _ (List.mem_cons_self))))))))) hA (fun x hx => m5 x (List.mem_cons_of_mem _ hx)) k4 m4 wm_2 wb_2 (by decide +kernel)) (fcn (mo) (fnl)))⟩ m3 m4)))
theorem t_wq56i {X : pX} {ρ0 : sR} (hv : vok X ρ0) : CUTOK X kR zWP c_wn2 8 ρ0 q_wq56i := fun ρ k1 hF hI k4 => by
  have b0 := rl_lf (x := ρ.2.1 60033) (y := 0) (hF.2 _ (List.mem_cons_of_mem _ (List.mem_cons_of_mem _ (List.mem_cons_self))))
  have b1 := rl_lf (x := 4294967295) (y := ρ.2.1 60033) (hF.2 _ (List.mem_cons_of_mem _ (List.mem_cons_of_mem _ (List.mem_cons_of_mem _ (List.mem_cons_self)))))
  have y0 : (0 : Int64).toInt = 0 := by decide +kernel
  have y1 : (4294967295 : Int64).toInt = 4294967295 := by decide +kernel
  rw [y0] at b0
  rw [y1] at b1
  by_cases h : evs 11 (ρ.2.1 60033).toInt = true
  · exact t_wq56ir1 hv ρ k1 ⟨hF.1, fcn (decide_eq_true (show ((1 : Int32)).toInt = (if evs 11 (ρ.2.1 60033).toInt = true then 1 else 0) by rw [if_pos h]; rfl)) (fcn (wn_129 (p := 56) (q := 56) rfl et_56 b0 b1 h) (hF.2))⟩ hI k4
  · exact t_wq56ir0 hv ρ k1 ⟨hF.1, fcn (decide_eq_true (show ((0 : Int32)).toInt = (if evs 11 (ρ.2.1 60033).toInt = true then 1 else 0) by rw [if_neg h]; rfl)) (hF.2)⟩ hI k4
theorem t_wq56 {X : pX} {ρ0 : sR} (hv : vok X ρ0) : CUTOK X kR zWP c_wn2 8 ρ0 q_wq56 := CUT_mono (t_wq56i hv) (fun ρ hF hI => by
  have b0 := rl_lf (x := ρ.2.1 60033) (y := 0) (hF.2 _ (List.mem_cons_of_mem _ (List.mem_cons_of_mem _ (List.mem_cons_self))))
  have b1 := rl_lf (x := 4294967295) (y := ρ.2.1 60033) (hF.2 _ (List.mem_cons_of_mem _ (List.mem_cons_of_mem _ (List.mem_cons_of_mem _ (List.mem_cons_self)))))
  have y0 : (0 : Int64).toInt = 0 := by decide +kernel
  have y1 : (4294967295 : Int64).toInt = 4294967295 := by decide +kernel
  rw [y0] at b0
  rw [y1] at b1
  exact ⟨hF, ik_c (fun hg => decide_eq_true (of_1 (x := ρ.2.2.2.1 1761 39) (of_decide_eq_false (hg _ List.mem_cons_self)))) (ik_c (fun hg => decide_eq_true (of_0 (x := ρ.2.2.2.1 1761 39) (of_decide_eq_true (hg _ List.mem_cons_self)))) (hI))⟩)
theorem e_wp56 : frun kR [] (cpl1 zWP (c_wp2 56) [q_wq56]) (cpl2 zWP (c_wp2 56) [q_wq56]) (cleaf kR zWP (c_wp2 56) [q_wq56]) 300 65536 (isatP ((c_wp2 56).2.2.2.1) (c_wp2 56).2.2.2.2.2.2.2.1) (c_wp2 56).2.2.2.2.2.2.2.1 (sin0 mt_all (c_wp2 56).1.1 8 (c_wp2 56).2.1.1 (foot zWP (c_wp2 56).2.2.1.1)) (sin0 mt_all (c_wp2 56).1.2.1 8 (c_wp2 56).2.1.2 (foot zWP (c_wp2 56).2.2.1.2)) = true := by decide +kernel
theorem s_wp56 {X : pX} : SREL X pF pdfl mt_all kR zWP (c_wp2 56) := SREL_QC kR_x kR_0 (Cs := []) (fun C hC => by cases hC) (d := 8) rfl (c_wp2_f 56) (Q := [q_wq56]) (fun ρ0 hv => fun q hq => by
    simp only [List.mem_cons, List.not_mem_nil, or_false] at hq
    rw [hq]; exact (t_wq56 hv : CUTOK X kR zWP c_wn2 8 ρ0 q_wq56)) (QC_run 300 e_wp56)
theorem et_57 : evt[57]? = some (0, 4294967295, 11) := by decide +kernel
noncomputable def zf98vd_23 : sQ × Bool := ((129, .int 57, .arg 60033), true)
noncomputable def q_wR57 : sCut := ((fr 0 10 53 [] [], [fr 0 5 23 [(4, .int 0)] [], fBot], 7), (fr 0 281 150 [] [], [fr 0 277 91 [(3, .int 0)] [], fBot], 7), [zf98vd_23, zf98vd_20], [zi98vd_2, zi98vd_3])
noncomputable def q_wq57 : sCut := ((fr 0 5 0 [(0, tr 57), (1, .int 57), (2, .arg 60033)] [], [fBot], 8), (fr 0 277 35 [(0, tr 219), (1, .arg 1308), (2, .int 57)] [], [fBot], 8), [zf98vd_4, zf98vd_5, zf98vd_6, zf98vd_7, zf98vd_8, zf98vd_9, zf98vd_10, zf98vd_11], [zi98vd_2, zi98vd_3])
noncomputable def q_wq57i : sCut := ((fr 0 5 0 [(0, tr 57), (1, .int 57), (2, .arg 60033)] [], [fBot], 8), (fr 0 277 35 [(0, tr 219), (1, .arg 1308), (2, .int 57)] [], [fBot], 8), [zf98vd_4, zf98vd_5, zf98vd_6, zf98vd_7, zf98vd_8, zf98vd_9, zf98vd_10, zf98vd_11], [zi98vd_21, zi98vd_22, zi98vd_2, zi98vd_3])
noncomputable def q_wq57ir0 : sCut := ((fr 0 5 0 [(0, tr 57), (1, .int 57), (2, .arg 60033)] [], [fBot], 8), (fr 0 277 35 [(0, tr 219), (1, .arg 1308), (2, .int 57)] [], [fBot], 8), [zf98vd_14, zf98vd_4, zf98vd_5, zf98vd_6, zf98vd_7, zf98vd_8, zf98vd_9, zf98vd_10, zf98vd_11], [zi98vd_21, zi98vd_22, zi98vd_2, zi98vd_3])
theorem k_wq57ir0 : cbody kR [(zWP, c_mp110)] (cpl1 zWP c_wn2 []) (cpl2 zWP c_wn2 []) (cleaf kR zWP c_wn2 []) 1500 true true q_wq57ir0.2.2.1 q_wq57ir0.2.2.2 (cst zWP c_wn2.2.2.1.1 q_wq57ir0.1) (cst zWP c_wn2.2.2.1.2 q_wq57ir0.2.1) = true := by decide +kernel
theorem t_wq57ir0 {X : pX} {ρ0 : sR} (hv : vok X ρ0) : CUTOK X kR zWP c_wn2 8 ρ0 q_wq57ir0 := CUT_run kR_x kR_0 (Cs := [(zWP, c_mp110)]) (fun C hC => by rw [List.mem_singleton.mp hC]; exact s_mp110) c_wn2_f (Q := []) hv (fun q hq => by cases hq) 1500 (b1 := true) (b2 := true) k_wq57ir0
noncomputable def q_wq57ir1 : sCut := ((fr 0 5 0 [(0, tr 57), (1, .int 57), (2, .arg 60033)] [], [fBot], 8), (fr 0 277 35 [(0, tr 219), (1, .arg 1308), (2, .int 57)] [], [fBot], 8), [zf98vd_15, zf98vd_23, zf98vd_4, zf98vd_5, zf98vd_6, zf98vd_7, zf98vd_8, zf98vd_9, zf98vd_10, zf98vd_11], [zi98vd_21, zi98vd_22, zi98vd_2, zi98vd_3])
noncomputable def w_wq57ir1 : List (sCut × List (Nat × sT) × List (Nat × sT × List (sT × sT))) := [(q_wR57, [(60033, .arg 60033), (2848, .op2 .ior (.arg 2848) (.int 512)), (6850, .arg 6850), (6882, .int 0), (6914, .arg 6914), (6946, .arg 6946), (7362, .arg 7362), (7394, .int 0), (7426, .arg 7426), (7458, .arg 7458), (7874, .arg 7874), (7906, .arg 7906), (7938, .arg 7938), (7970, .arg 7970), (21216, .arg 21216), (21248, .arg 21248), (21280, .arg 21280), (21312, .arg 21312), (6466, .arg 6466), (6498, .arg 6498)], [(1761, .arg 1761, [(.int 57, .arg 60033)])])]
theorem k_wq57ir1 : cbody kR [(zWP, c_mp111)] (cpl1 zWP c_wn2 [q_wR57]) (cpl2 zWP c_wn2 [q_wR57]) (cleafB kR zWP c_wn2 w_wq57ir1) 1500 true true q_wq57ir1.2.2.1 q_wq57ir1.2.2.2 (cst zWP c_wn2.2.2.1.1 q_wq57ir1.1) (cst zWP c_wn2.2.2.1.2 q_wq57ir1.2.1) = true := by decide +kernel
theorem t_wq57ir1 {X : pX} {ρ0 : sR} (hv : vok X ρ0) : CUTOK X kR zWP c_wn2 8 ρ0 q_wq57ir1 := CUTOK_AT (fun ρ k1 hF hI k4 => AT_of (q := q_wq57ir1) rfl rfl (SEM_runB kR_x kR_0 (Cs := [(zWP, c_mp111)]) (fun C hC => by rw [List.mem_singleton.mp hC]; exact s_mp111) c_wn2_f (Q := w_wq57ir1) hv 1500 (b1 := true) (b2 := true) k_wq57ir1 k1 hF hI k4 (fun p hp ρ3 m1 m2 m3 m4 m5 m6 => by
  rw [List.mem_singleton.mp hp] at m2 m3 m5 m6 ⊢
  have y3 : ρ3.2.1 60033 = ρ.2.1 60033 := congrArg Prod.snd (m5 (60033, .arg 60033) List.mem_cons_self)
  have hA : ∀ j, ρ3.2.2.2.1 1761 j = if 57 = j then ρ.2.1 60033 else ρ.2.2.2.1 1761 j := fun j => ad_l (X := X) (p := 57) (t := .arg 60033) rfl (m6 _ List.mem_cons_self) j
  have hk : evk 57 (ρ.2.1 60033).toInt = true := by
    have h := m2.2 _ List.mem_cons_self
    rw [← y3]
    exact h
  have h0 : ρ.2.2.2.1 1761 55 = 0 := by
    have h := hA 55
    rw [if_neg (by decide)] at h
    rw [← h]
    exact of_decide_eq_true (m2.2 _ (List.mem_cons_of_mem _ List.mem_cons_self))
  have ea : ρ3.1 2848 = (sd X ρ (.op2 .ior (.arg 2848) (.int 512))).1 := congrArg Prod.fst (m5 (2848, .op2 .ior (.arg 2848) (.int 512)) (List.mem_cons_of_mem _ List.mem_cons_self))
  have eL : ρ3.1 60578 = ρ.1 60578 := (m4.1 60578 (by decide) (by decide)).1.trans (k4.1 60578 (by decide) (by decide)).1.symm
  have mo : sc X ρ3 (2, .op2 .iand (.op2 .iushr (.arg 2848) (.int 4)) (.int 1), .arg 60578) = false := by
    show decide (((ρ3.1 2848).toUInt32 >>> ((4 : Int32).toUInt32 &&& (31 : Int32).toUInt32)).toInt32 &&& 1 < ρ3.1 60578) = false
    rw [ea, eL]
    have q := tbv_ok (X := X) (ρ := ρ) (F := []) (a := .op2 .iand (.op2 .iushr (.op2 .ior (.arg 2848) (.int 512)) (.int 4)) (.int 1)) (b := .op2 .iand (.op2 .iushr (.arg 2848) (.int 4)) (.int 1)) ⟨hF.1, fun f hf => by cases hf⟩ (by decide +kernel)
    rw [sv_int rfl, sv_int rfl] at q
    exact mn_e (Value.int.inj q) (of_decide_eq_true (hF.2 _ (List.mem_cons_of_mem _ (List.mem_cons_of_mem _ (List.mem_cons_of_mem _ (List.mem_cons_of_mem _ (List.mem_cons_of_mem _ (List.mem_cons_of_mem _ (List.mem_cons_of_mem _ (List.mem_cons_of_mem _ (List.mem_cons_self)))))))))))
  exact t_wE2 hv ρ3 m1 ⟨m2.1, fcn (ev_rw (g := ρ.2.2.2.1 1761) (m := 55) (p := 57) (hF.2 _ (List.mem_cons_of_mem _ (List.mem_cons_of_mem _ (List.mem_cons_of_mem _ (List.mem_cons_of_mem _ (List.mem_cons_of_mem _ (List.mem_cons_of_mem _ (List.mem_cons_self)))))))) (by decide) hk hA h0 (by decide +kernel)) (fcn (pd_up (X := X) (p := 57) (c := 512) (z := [6882, 7394]) (hF.2 _ (List.mem_cons_of_mem _ (List.mem_cons_of_mem _ (List.mem_cons_of_mem _ (List.mem_cons_of_mem _ (List.mem_cons_of_mem _ (List.mem_cons_of_mem _ (List.mem_cons_of_mem _ (List.mem_cons_self))))))))) hA (fun x hx => m5 x (List.mem_cons_of_mem _ hx)) k4 m4 wm_2 wb_2 (by decide +kernel)) (fcn (mo) (fnl)))⟩ m3 m4)))
theorem t_wq57i {X : pX} {ρ0 : sR} (hv : vok X ρ0) : CUTOK X kR zWP c_wn2 8 ρ0 q_wq57i := fun ρ k1 hF hI k4 => by
  have b0 := rl_lf (x := ρ.2.1 60033) (y := 0) (hF.2 _ (List.mem_cons_of_mem _ (List.mem_cons_of_mem _ (List.mem_cons_self))))
  have b1 := rl_lf (x := 4294967295) (y := ρ.2.1 60033) (hF.2 _ (List.mem_cons_of_mem _ (List.mem_cons_of_mem _ (List.mem_cons_of_mem _ (List.mem_cons_self)))))
  have y0 : (0 : Int64).toInt = 0 := by decide +kernel
  have y1 : (4294967295 : Int64).toInt = 4294967295 := by decide +kernel
  rw [y0] at b0
  rw [y1] at b1
  by_cases h : evs 11 (ρ.2.1 60033).toInt = true
  · exact t_wq57ir1 hv ρ k1 ⟨hF.1, fcn (decide_eq_true (show ((1 : Int32)).toInt = (if evs 11 (ρ.2.1 60033).toInt = true then 1 else 0) by rw [if_pos h]; rfl)) (fcn (wn_129 (p := 57) (q := 57) rfl et_57 b0 b1 h) (hF.2))⟩ hI k4
  · exact t_wq57ir0 hv ρ k1 ⟨hF.1, fcn (decide_eq_true (show ((0 : Int32)).toInt = (if evs 11 (ρ.2.1 60033).toInt = true then 1 else 0) by rw [if_neg h]; rfl)) (hF.2)⟩ hI k4
theorem t_wq57 {X : pX} {ρ0 : sR} (hv : vok X ρ0) : CUTOK X kR zWP c_wn2 8 ρ0 q_wq57 := CUT_mono (t_wq57i hv) (fun ρ hF hI => by
  have b0 := rl_lf (x := ρ.2.1 60033) (y := 0) (hF.2 _ (List.mem_cons_of_mem _ (List.mem_cons_of_mem _ (List.mem_cons_self))))
  have b1 := rl_lf (x := 4294967295) (y := ρ.2.1 60033) (hF.2 _ (List.mem_cons_of_mem _ (List.mem_cons_of_mem _ (List.mem_cons_of_mem _ (List.mem_cons_self)))))
  have y0 : (0 : Int64).toInt = 0 := by decide +kernel
  have y1 : (4294967295 : Int64).toInt = 4294967295 := by decide +kernel
  rw [y0] at b0
  rw [y1] at b1
  exact ⟨hF, ik_c (fun hg => decide_eq_true (of_1 (x := ρ.2.2.2.1 1761 39) (of_decide_eq_false (hg _ List.mem_cons_self)))) (ik_c (fun hg => decide_eq_true (of_0 (x := ρ.2.2.2.1 1761 39) (of_decide_eq_true (hg _ List.mem_cons_self)))) (hI))⟩)
theorem e_wp57 : frun kR [] (cpl1 zWP (c_wp2 57) [q_wq57]) (cpl2 zWP (c_wp2 57) [q_wq57]) (cleaf kR zWP (c_wp2 57) [q_wq57]) 300 65536 (isatP ((c_wp2 57).2.2.2.1) (c_wp2 57).2.2.2.2.2.2.2.1) (c_wp2 57).2.2.2.2.2.2.2.1 (sin0 mt_all (c_wp2 57).1.1 8 (c_wp2 57).2.1.1 (foot zWP (c_wp2 57).2.2.1.1)) (sin0 mt_all (c_wp2 57).1.2.1 8 (c_wp2 57).2.1.2 (foot zWP (c_wp2 57).2.2.1.2)) = true := by decide +kernel
theorem s_wp57 {X : pX} : SREL X pF pdfl mt_all kR zWP (c_wp2 57) := SREL_QC kR_x kR_0 (Cs := []) (fun C hC => by cases hC) (d := 8) rfl (c_wp2_f 57) (Q := [q_wq57]) (fun ρ0 hv => fun q hq => by
    simp only [List.mem_cons, List.not_mem_nil, or_false] at hq
    rw [hq]; exact (t_wq57 hv : CUTOK X kR zWP c_wn2 8 ρ0 q_wq57)) (QC_run 300 e_wp57)
theorem et_58 : evt[58]? = some (0, 4294967295, 11) := by decide +kernel
noncomputable def zf98vd_24 : sQ × Bool := ((129, .int 58, .arg 60033), true)
noncomputable def q_wR58 : sCut := ((fr 0 10 53 [] [], [fr 0 5 23 [(4, .int 0)] [], fBot], 7), (fr 0 281 150 [] [], [fr 0 277 91 [(3, .int 0)] [], fBot], 7), [zf98vd_24, zf98vd_20], [zi98vd_2, zi98vd_3])
noncomputable def q_wq58 : sCut := ((fr 0 5 0 [(0, tr 57), (1, .int 58), (2, .arg 60033)] [], [fBot], 8), (fr 0 277 35 [(0, tr 219), (1, .arg 1308), (2, .int 58)] [], [fBot], 8), [zf98vd_4, zf98vd_5, zf98vd_6, zf98vd_7, zf98vd_8, zf98vd_9, zf98vd_10, zf98vd_11], [zi98vd_2, zi98vd_3])
noncomputable def q_wq58i : sCut := ((fr 0 5 0 [(0, tr 57), (1, .int 58), (2, .arg 60033)] [], [fBot], 8), (fr 0 277 35 [(0, tr 219), (1, .arg 1308), (2, .int 58)] [], [fBot], 8), [zf98vd_4, zf98vd_5, zf98vd_6, zf98vd_7, zf98vd_8, zf98vd_9, zf98vd_10, zf98vd_11], [zi98vd_21, zi98vd_22, zi98vd_2, zi98vd_3])
noncomputable def q_wq58ir0 : sCut := ((fr 0 5 0 [(0, tr 57), (1, .int 58), (2, .arg 60033)] [], [fBot], 8), (fr 0 277 35 [(0, tr 219), (1, .arg 1308), (2, .int 58)] [], [fBot], 8), [zf98vd_14, zf98vd_4, zf98vd_5, zf98vd_6, zf98vd_7, zf98vd_8, zf98vd_9, zf98vd_10, zf98vd_11], [zi98vd_21, zi98vd_22, zi98vd_2, zi98vd_3])
theorem k_wq58ir0 : cbody kR [(zWP, c_mp110)] (cpl1 zWP c_wn2 []) (cpl2 zWP c_wn2 []) (cleaf kR zWP c_wn2 []) 1500 true true q_wq58ir0.2.2.1 q_wq58ir0.2.2.2 (cst zWP c_wn2.2.2.1.1 q_wq58ir0.1) (cst zWP c_wn2.2.2.1.2 q_wq58ir0.2.1) = true := by decide +kernel
theorem t_wq58ir0 {X : pX} {ρ0 : sR} (hv : vok X ρ0) : CUTOK X kR zWP c_wn2 8 ρ0 q_wq58ir0 := CUT_run kR_x kR_0 (Cs := [(zWP, c_mp110)]) (fun C hC => by rw [List.mem_singleton.mp hC]; exact s_mp110) c_wn2_f (Q := []) hv (fun q hq => by cases hq) 1500 (b1 := true) (b2 := true) k_wq58ir0
noncomputable def q_wq58ir1 : sCut := ((fr 0 5 0 [(0, tr 57), (1, .int 58), (2, .arg 60033)] [], [fBot], 8), (fr 0 277 35 [(0, tr 219), (1, .arg 1308), (2, .int 58)] [], [fBot], 8), [zf98vd_15, zf98vd_24, zf98vd_4, zf98vd_5, zf98vd_6, zf98vd_7, zf98vd_8, zf98vd_9, zf98vd_10, zf98vd_11], [zi98vd_21, zi98vd_22, zi98vd_2, zi98vd_3])
noncomputable def w_wq58ir1 : List (sCut × List (Nat × sT) × List (Nat × sT × List (sT × sT))) := [(q_wR58, [(60033, .arg 60033), (2848, .op2 .ior (.arg 2848) (.int 512)), (6850, .arg 6850), (6882, .int 0), (6914, .arg 6914), (6946, .arg 6946), (7362, .arg 7362), (7394, .int 0), (7426, .arg 7426), (7458, .arg 7458), (7874, .arg 7874), (7906, .arg 7906), (7938, .arg 7938), (7970, .arg 7970), (21216, .arg 21216), (21248, .arg 21248), (21280, .arg 21280), (21312, .arg 21312), (6466, .arg 6466), (6498, .arg 6498)], [(1761, .arg 1761, [(.int 58, .arg 60033)])])]
theorem k_wq58ir1 : cbody kR [(zWP, c_mp111)] (cpl1 zWP c_wn2 [q_wR58]) (cpl2 zWP c_wn2 [q_wR58]) (cleafB kR zWP c_wn2 w_wq58ir1) 1500 true true q_wq58ir1.2.2.1 q_wq58ir1.2.2.2 (cst zWP c_wn2.2.2.1.1 q_wq58ir1.1) (cst zWP c_wn2.2.2.1.2 q_wq58ir1.2.1) = true := by decide +kernel
theorem t_wq58ir1 {X : pX} {ρ0 : sR} (hv : vok X ρ0) : CUTOK X kR zWP c_wn2 8 ρ0 q_wq58ir1 := CUTOK_AT (fun ρ k1 hF hI k4 => AT_of (q := q_wq58ir1) rfl rfl (SEM_runB kR_x kR_0 (Cs := [(zWP, c_mp111)]) (fun C hC => by rw [List.mem_singleton.mp hC]; exact s_mp111) c_wn2_f (Q := w_wq58ir1) hv 1500 (b1 := true) (b2 := true) k_wq58ir1 k1 hF hI k4 (fun p hp ρ3 m1 m2 m3 m4 m5 m6 => by
  rw [List.mem_singleton.mp hp] at m2 m3 m5 m6 ⊢
  have y3 : ρ3.2.1 60033 = ρ.2.1 60033 := congrArg Prod.snd (m5 (60033, .arg 60033) List.mem_cons_self)
  have hA : ∀ j, ρ3.2.2.2.1 1761 j = if 58 = j then ρ.2.1 60033 else ρ.2.2.2.1 1761 j := fun j => ad_l (X := X) (p := 58) (t := .arg 60033) rfl (m6 _ List.mem_cons_self) j
  have hk : evk 58 (ρ.2.1 60033).toInt = true := by
    have h := m2.2 _ List.mem_cons_self
    rw [← y3]
    exact h
  have h0 : ρ.2.2.2.1 1761 55 = 0 := by
    have h := hA 55
    rw [if_neg (by decide)] at h
    rw [← h]
    exact of_decide_eq_true (m2.2 _ (List.mem_cons_of_mem _ List.mem_cons_self))
  have ea : ρ3.1 2848 = (sd X ρ (.op2 .ior (.arg 2848) (.int 512))).1 := congrArg Prod.fst (m5 (2848, .op2 .ior (.arg 2848) (.int 512)) (List.mem_cons_of_mem _ List.mem_cons_self))
  have eL : ρ3.1 60578 = ρ.1 60578 := (m4.1 60578 (by decide) (by decide)).1.trans (k4.1 60578 (by decide) (by decide)).1.symm
  have mo : sc X ρ3 (2, .op2 .iand (.op2 .iushr (.arg 2848) (.int 4)) (.int 1), .arg 60578) = false := by
    show decide (((ρ3.1 2848).toUInt32 >>> ((4 : Int32).toUInt32 &&& (31 : Int32).toUInt32)).toInt32 &&& 1 < ρ3.1 60578) = false
    rw [ea, eL]
    have q := tbv_ok (X := X) (ρ := ρ) (F := []) (a := .op2 .iand (.op2 .iushr (.op2 .ior (.arg 2848) (.int 512)) (.int 4)) (.int 1)) (b := .op2 .iand (.op2 .iushr (.arg 2848) (.int 4)) (.int 1)) ⟨hF.1, fun f hf => by cases hf⟩ (by decide +kernel)
    rw [sv_int rfl, sv_int rfl] at q
    exact mn_e (Value.int.inj q) (of_decide_eq_true (hF.2 _ (List.mem_cons_of_mem _ (List.mem_cons_of_mem _ (List.mem_cons_of_mem _ (List.mem_cons_of_mem _ (List.mem_cons_of_mem _ (List.mem_cons_of_mem _ (List.mem_cons_of_mem _ (List.mem_cons_of_mem _ (List.mem_cons_self)))))))))))
  exact t_wE2 hv ρ3 m1 ⟨m2.1, fcn (ev_rw (g := ρ.2.2.2.1 1761) (m := 55) (p := 58) (hF.2 _ (List.mem_cons_of_mem _ (List.mem_cons_of_mem _ (List.mem_cons_of_mem _ (List.mem_cons_of_mem _ (List.mem_cons_of_mem _ (List.mem_cons_of_mem _ (List.mem_cons_self)))))))) (by decide) hk hA h0 (by decide +kernel)) (fcn (pd_up (X := X) (p := 58) (c := 512) (z := [6882, 7394]) (hF.2 _ (List.mem_cons_of_mem _ (List.mem_cons_of_mem _ (List.mem_cons_of_mem _ (List.mem_cons_of_mem _ (List.mem_cons_of_mem _ (List.mem_cons_of_mem _ (List.mem_cons_of_mem _ (List.mem_cons_self))))))))) hA (fun x hx => m5 x (List.mem_cons_of_mem _ hx)) k4 m4 wm_2 wb_2 (by decide +kernel)) (fcn (mo) (fnl)))⟩ m3 m4)))
theorem t_wq58i {X : pX} {ρ0 : sR} (hv : vok X ρ0) : CUTOK X kR zWP c_wn2 8 ρ0 q_wq58i := fun ρ k1 hF hI k4 => by
  have b0 := rl_lf (x := ρ.2.1 60033) (y := 0) (hF.2 _ (List.mem_cons_of_mem _ (List.mem_cons_of_mem _ (List.mem_cons_self))))
  have b1 := rl_lf (x := 4294967295) (y := ρ.2.1 60033) (hF.2 _ (List.mem_cons_of_mem _ (List.mem_cons_of_mem _ (List.mem_cons_of_mem _ (List.mem_cons_self)))))
  have y0 : (0 : Int64).toInt = 0 := by decide +kernel
  have y1 : (4294967295 : Int64).toInt = 4294967295 := by decide +kernel
  rw [y0] at b0
  rw [y1] at b1
  by_cases h : evs 11 (ρ.2.1 60033).toInt = true
  · exact t_wq58ir1 hv ρ k1 ⟨hF.1, fcn (decide_eq_true (show ((1 : Int32)).toInt = (if evs 11 (ρ.2.1 60033).toInt = true then 1 else 0) by rw [if_pos h]; rfl)) (fcn (wn_129 (p := 58) (q := 58) rfl et_58 b0 b1 h) (hF.2))⟩ hI k4
  · exact t_wq58ir0 hv ρ k1 ⟨hF.1, fcn (decide_eq_true (show ((0 : Int32)).toInt = (if evs 11 (ρ.2.1 60033).toInt = true then 1 else 0) by rw [if_neg h]; rfl)) (hF.2)⟩ hI k4
theorem t_wq58 {X : pX} {ρ0 : sR} (hv : vok X ρ0) : CUTOK X kR zWP c_wn2 8 ρ0 q_wq58 := CUT_mono (t_wq58i hv) (fun ρ hF hI => by
  have b0 := rl_lf (x := ρ.2.1 60033) (y := 0) (hF.2 _ (List.mem_cons_of_mem _ (List.mem_cons_of_mem _ (List.mem_cons_self))))
  have b1 := rl_lf (x := 4294967295) (y := ρ.2.1 60033) (hF.2 _ (List.mem_cons_of_mem _ (List.mem_cons_of_mem _ (List.mem_cons_of_mem _ (List.mem_cons_self)))))
  have y0 : (0 : Int64).toInt = 0 := by decide +kernel
  have y1 : (4294967295 : Int64).toInt = 4294967295 := by decide +kernel
  rw [y0] at b0
  rw [y1] at b1
  exact ⟨hF, ik_c (fun hg => decide_eq_true (of_1 (x := ρ.2.2.2.1 1761 39) (of_decide_eq_false (hg _ List.mem_cons_self)))) (ik_c (fun hg => decide_eq_true (of_0 (x := ρ.2.2.2.1 1761 39) (of_decide_eq_true (hg _ List.mem_cons_self)))) (hI))⟩)
theorem e_wp58 : frun kR [] (cpl1 zWP (c_wp2 58) [q_wq58]) (cpl2 zWP (c_wp2 58) [q_wq58]) (cleaf kR zWP (c_wp2 58) [q_wq58]) 300 65536 (isatP ((c_wp2 58).2.2.2.1) (c_wp2 58).2.2.2.2.2.2.2.1) (c_wp2 58).2.2.2.2.2.2.2.1 (sin0 mt_all (c_wp2 58).1.1 8 (c_wp2 58).2.1.1 (foot zWP (c_wp2 58).2.2.1.1)) (sin0 mt_all (c_wp2 58).1.2.1 8 (c_wp2 58).2.1.2 (foot zWP (c_wp2 58).2.2.1.2)) = true := by decide +kernel
theorem s_wp58 {X : pX} : SREL X pF pdfl mt_all kR zWP (c_wp2 58) := SREL_QC kR_x kR_0 (Cs := []) (fun C hC => by cases hC) (d := 8) rfl (c_wp2_f 58) (Q := [q_wq58]) (fun ρ0 hv => fun q hq => by
    simp only [List.mem_cons, List.not_mem_nil, or_false] at hq
    rw [hq]; exact (t_wq58 hv : CUTOK X kR zWP c_wn2 8 ρ0 q_wq58)) (QC_run 300 e_wp58)
theorem et_59 : evt[59]? = some (0, 4294967295, 11) := by decide +kernel
noncomputable def zf98vd_25 : sQ × Bool := ((129, .int 59, .arg 60033), true)
noncomputable def q_wR59 : sCut := ((fr 0 10 53 [] [], [fr 0 5 23 [(4, .int 0)] [], fBot], 7), (fr 0 281 150 [] [], [fr 0 277 91 [(3, .int 0)] [], fBot], 7), [zf98vd_25, zf98vd_20], [zi98vd_2, zi98vd_3])
noncomputable def q_wq59 : sCut := ((fr 0 5 0 [(0, tr 57), (1, .int 59), (2, .arg 60033)] [], [fBot], 8), (fr 0 277 35 [(0, tr 219), (1, .arg 1308), (2, .int 59)] [], [fBot], 8), [zf98vd_4, zf98vd_5, zf98vd_6, zf98vd_7, zf98vd_8, zf98vd_9, zf98vd_10, zf98vd_11], [zi98vd_2, zi98vd_3])
noncomputable def q_wq59i : sCut := ((fr 0 5 0 [(0, tr 57), (1, .int 59), (2, .arg 60033)] [], [fBot], 8), (fr 0 277 35 [(0, tr 219), (1, .arg 1308), (2, .int 59)] [], [fBot], 8), [zf98vd_4, zf98vd_5, zf98vd_6, zf98vd_7, zf98vd_8, zf98vd_9, zf98vd_10, zf98vd_11], [zi98vd_21, zi98vd_22, zi98vd_2, zi98vd_3])
noncomputable def q_wq59ir0 : sCut := ((fr 0 5 0 [(0, tr 57), (1, .int 59), (2, .arg 60033)] [], [fBot], 8), (fr 0 277 35 [(0, tr 219), (1, .arg 1308), (2, .int 59)] [], [fBot], 8), [zf98vd_14, zf98vd_4, zf98vd_5, zf98vd_6, zf98vd_7, zf98vd_8, zf98vd_9, zf98vd_10, zf98vd_11], [zi98vd_21, zi98vd_22, zi98vd_2, zi98vd_3])
theorem k_wq59ir0 : cbody kR [(zWP, c_mp110)] (cpl1 zWP c_wn2 []) (cpl2 zWP c_wn2 []) (cleaf kR zWP c_wn2 []) 1500 true true q_wq59ir0.2.2.1 q_wq59ir0.2.2.2 (cst zWP c_wn2.2.2.1.1 q_wq59ir0.1) (cst zWP c_wn2.2.2.1.2 q_wq59ir0.2.1) = true := by decide +kernel
theorem t_wq59ir0 {X : pX} {ρ0 : sR} (hv : vok X ρ0) : CUTOK X kR zWP c_wn2 8 ρ0 q_wq59ir0 := CUT_run kR_x kR_0 (Cs := [(zWP, c_mp110)]) (fun C hC => by rw [List.mem_singleton.mp hC]; exact s_mp110) c_wn2_f (Q := []) hv (fun q hq => by cases hq) 1500 (b1 := true) (b2 := true) k_wq59ir0
noncomputable def q_wq59ir1 : sCut := ((fr 0 5 0 [(0, tr 57), (1, .int 59), (2, .arg 60033)] [], [fBot], 8), (fr 0 277 35 [(0, tr 219), (1, .arg 1308), (2, .int 59)] [], [fBot], 8), [zf98vd_15, zf98vd_25, zf98vd_4, zf98vd_5, zf98vd_6, zf98vd_7, zf98vd_8, zf98vd_9, zf98vd_10, zf98vd_11], [zi98vd_21, zi98vd_22, zi98vd_2, zi98vd_3])
noncomputable def w_wq59ir1 : List (sCut × List (Nat × sT) × List (Nat × sT × List (sT × sT))) := [(q_wR59, [(60033, .arg 60033), (2848, .op2 .ior (.arg 2848) (.int 512)), (6850, .arg 6850), (6882, .int 0), (6914, .arg 6914), (6946, .arg 6946), (7362, .arg 7362), (7394, .int 0), (7426, .arg 7426), (7458, .arg 7458), (7874, .arg 7874), (7906, .arg 7906), (7938, .arg 7938), (7970, .arg 7970), (21216, .arg 21216), (21248, .arg 21248), (21280, .arg 21280), (21312, .arg 21312), (6466, .arg 6466), (6498, .arg 6498)], [(1761, .arg 1761, [(.int 59, .arg 60033)])])]
theorem k_wq59ir1 : cbody kR [(zWP, c_mp111)] (cpl1 zWP c_wn2 [q_wR59]) (cpl2 zWP c_wn2 [q_wR59]) (cleafB kR zWP c_wn2 w_wq59ir1) 1500 true true q_wq59ir1.2.2.1 q_wq59ir1.2.2.2 (cst zWP c_wn2.2.2.1.1 q_wq59ir1.1) (cst zWP c_wn2.2.2.1.2 q_wq59ir1.2.1) = true := by decide +kernel
theorem t_wq59ir1 {X : pX} {ρ0 : sR} (hv : vok X ρ0) : CUTOK X kR zWP c_wn2 8 ρ0 q_wq59ir1 := CUTOK_AT (fun ρ k1 hF hI k4 => AT_of (q := q_wq59ir1) rfl rfl (SEM_runB kR_x kR_0 (Cs := [(zWP, c_mp111)]) (fun C hC => by rw [List.mem_singleton.mp hC]; exact s_mp111) c_wn2_f (Q := w_wq59ir1) hv 1500 (b1 := true) (b2 := true) k_wq59ir1 k1 hF hI k4 (fun p hp ρ3 m1 m2 m3 m4 m5 m6 => by
  rw [List.mem_singleton.mp hp] at m2 m3 m5 m6 ⊢
  have y3 : ρ3.2.1 60033 = ρ.2.1 60033 := congrArg Prod.snd (m5 (60033, .arg 60033) List.mem_cons_self)
  have hA : ∀ j, ρ3.2.2.2.1 1761 j = if 59 = j then ρ.2.1 60033 else ρ.2.2.2.1 1761 j := fun j => ad_l (X := X) (p := 59) (t := .arg 60033) rfl (m6 _ List.mem_cons_self) j
  have hk : evk 59 (ρ.2.1 60033).toInt = true := by
    have h := m2.2 _ List.mem_cons_self
    rw [← y3]
    exact h
  have h0 : ρ.2.2.2.1 1761 55 = 0 := by
    have h := hA 55
    rw [if_neg (by decide)] at h
    rw [← h]
    exact of_decide_eq_true (m2.2 _ (List.mem_cons_of_mem _ List.mem_cons_self))
  have ea : ρ3.1 2848 = (sd X ρ (.op2 .ior (.arg 2848) (.int 512))).1 := congrArg Prod.fst (m5 (2848, .op2 .ior (.arg 2848) (.int 512)) (List.mem_cons_of_mem _ List.mem_cons_self))
  have eL : ρ3.1 60578 = ρ.1 60578 := (m4.1 60578 (by decide) (by decide)).1.trans (k4.1 60578 (by decide) (by decide)).1.symm
  have mo : sc X ρ3 (2, .op2 .iand (.op2 .iushr (.arg 2848) (.int 4)) (.int 1), .arg 60578) = false := by
    show decide (((ρ3.1 2848).toUInt32 >>> ((4 : Int32).toUInt32 &&& (31 : Int32).toUInt32)).toInt32 &&& 1 < ρ3.1 60578) = false
    rw [ea, eL]
    have q := tbv_ok (X := X) (ρ := ρ) (F := []) (a := .op2 .iand (.op2 .iushr (.op2 .ior (.arg 2848) (.int 512)) (.int 4)) (.int 1)) (b := .op2 .iand (.op2 .iushr (.arg 2848) (.int 4)) (.int 1)) ⟨hF.1, fun f hf => by cases hf⟩ (by decide +kernel)
    rw [sv_int rfl, sv_int rfl] at q
    exact mn_e (Value.int.inj q) (of_decide_eq_true (hF.2 _ (List.mem_cons_of_mem _ (List.mem_cons_of_mem _ (List.mem_cons_of_mem _ (List.mem_cons_of_mem _ (List.mem_cons_of_mem _ (List.mem_cons_of_mem _ (List.mem_cons_of_mem _ (List.mem_cons_of_mem _ (List.mem_cons_self)))))))))))
  exact t_wE2 hv ρ3 m1 ⟨m2.1, fcn (ev_rw (g := ρ.2.2.2.1 1761) (m := 55) (p := 59) (hF.2 _ (List.mem_cons_of_mem _ (List.mem_cons_of_mem _ (List.mem_cons_of_mem _ (List.mem_cons_of_mem _ (List.mem_cons_of_mem _ (List.mem_cons_of_mem _ (List.mem_cons_self)))))))) (by decide) hk hA h0 (by decide +kernel)) (fcn (pd_up (X := X) (p := 59) (c := 512) (z := [6882, 7394]) (hF.2 _ (List.mem_cons_of_mem _ (List.mem_cons_of_mem _ (List.mem_cons_of_mem _ (List.mem_cons_of_mem _ (List.mem_cons_of_mem _ (List.mem_cons_of_mem _ (List.mem_cons_of_mem _ (List.mem_cons_self))))))))) hA (fun x hx => m5 x (List.mem_cons_of_mem _ hx)) k4 m4 wm_2 wb_2 (by decide +kernel)) (fcn (mo) (fnl)))⟩ m3 m4)))
theorem t_wq59i {X : pX} {ρ0 : sR} (hv : vok X ρ0) : CUTOK X kR zWP c_wn2 8 ρ0 q_wq59i := fun ρ k1 hF hI k4 => by
  have b0 := rl_lf (x := ρ.2.1 60033) (y := 0) (hF.2 _ (List.mem_cons_of_mem _ (List.mem_cons_of_mem _ (List.mem_cons_self))))
  have b1 := rl_lf (x := 4294967295) (y := ρ.2.1 60033) (hF.2 _ (List.mem_cons_of_mem _ (List.mem_cons_of_mem _ (List.mem_cons_of_mem _ (List.mem_cons_self)))))
  have y0 : (0 : Int64).toInt = 0 := by decide +kernel
  have y1 : (4294967295 : Int64).toInt = 4294967295 := by decide +kernel
  rw [y0] at b0
  rw [y1] at b1
  by_cases h : evs 11 (ρ.2.1 60033).toInt = true
  · exact t_wq59ir1 hv ρ k1 ⟨hF.1, fcn (decide_eq_true (show ((1 : Int32)).toInt = (if evs 11 (ρ.2.1 60033).toInt = true then 1 else 0) by rw [if_pos h]; rfl)) (fcn (wn_129 (p := 59) (q := 59) rfl et_59 b0 b1 h) (hF.2))⟩ hI k4
  · exact t_wq59ir0 hv ρ k1 ⟨hF.1, fcn (decide_eq_true (show ((0 : Int32)).toInt = (if evs 11 (ρ.2.1 60033).toInt = true then 1 else 0) by rw [if_neg h]; rfl)) (hF.2)⟩ hI k4
theorem t_wq59 {X : pX} {ρ0 : sR} (hv : vok X ρ0) : CUTOK X kR zWP c_wn2 8 ρ0 q_wq59 := CUT_mono (t_wq59i hv) (fun ρ hF hI => by
  have b0 := rl_lf (x := ρ.2.1 60033) (y := 0) (hF.2 _ (List.mem_cons_of_mem _ (List.mem_cons_of_mem _ (List.mem_cons_self))))
  have b1 := rl_lf (x := 4294967295) (y := ρ.2.1 60033) (hF.2 _ (List.mem_cons_of_mem _ (List.mem_cons_of_mem _ (List.mem_cons_of_mem _ (List.mem_cons_self)))))
  have y0 : (0 : Int64).toInt = 0 := by decide +kernel
  have y1 : (4294967295 : Int64).toInt = 4294967295 := by decide +kernel
  rw [y0] at b0
  rw [y1] at b1
  exact ⟨hF, ik_c (fun hg => decide_eq_true (of_1 (x := ρ.2.2.2.1 1761 39) (of_decide_eq_false (hg _ List.mem_cons_self)))) (ik_c (fun hg => decide_eq_true (of_0 (x := ρ.2.2.2.1 1761 39) (of_decide_eq_true (hg _ List.mem_cons_self)))) (hI))⟩)
theorem e_wp59 : frun kR [] (cpl1 zWP (c_wp2 59) [q_wq59]) (cpl2 zWP (c_wp2 59) [q_wq59]) (cleaf kR zWP (c_wp2 59) [q_wq59]) 300 65536 (isatP ((c_wp2 59).2.2.2.1) (c_wp2 59).2.2.2.2.2.2.2.1) (c_wp2 59).2.2.2.2.2.2.2.1 (sin0 mt_all (c_wp2 59).1.1 8 (c_wp2 59).2.1.1 (foot zWP (c_wp2 59).2.2.1.1)) (sin0 mt_all (c_wp2 59).1.2.1 8 (c_wp2 59).2.1.2 (foot zWP (c_wp2 59).2.2.1.2)) = true := by decide +kernel
theorem s_wp59 {X : pX} : SREL X pF pdfl mt_all kR zWP (c_wp2 59) := SREL_QC kR_x kR_0 (Cs := []) (fun C hC => by cases hC) (d := 8) rfl (c_wp2_f 59) (Q := [q_wq59]) (fun ρ0 hv => fun q hq => by
    simp only [List.mem_cons, List.not_mem_nil, or_false] at hq
    rw [hq]; exact (t_wq59 hv : CUTOK X kR zWP c_wn2 8 ρ0 q_wq59)) (QC_run 300 e_wp59)
theorem et_61 : evt[61]? = some (0, 4294967295, 11) := by decide +kernel
noncomputable def zf98vd_26 : sQ × Bool := ((129, .int 61, .arg 60033), true)
noncomputable def zf98vd_27 : sQ × Bool := ((6, .elem (.arg 1761) (.int 60), .long 0), true)
noncomputable def q_wR61 : sCut := ((fr 0 10 53 [] [], [fr 0 5 23 [(4, .int 0)] [], fBot], 7), (fr 0 281 150 [] [], [fr 0 277 91 [(3, .int 0)] [], fBot], 7), [zf98vd_26, zf98vd_27], [zi98vd_2, zi98vd_3])
noncomputable def q_wq61 : sCut := ((fr 0 5 0 [(0, tr 57), (1, .int 61), (2, .arg 60033)] [], [fBot], 8), (fr 0 277 35 [(0, tr 219), (1, .arg 1308), (2, .int 61)] [], [fBot], 8), [zf98vd_4, zf98vd_5, zf98vd_6, zf98vd_7, zf98vd_8, zf98vd_9, zf98vd_10, zf98vd_11], [zi98vd_2, zi98vd_3])
noncomputable def zi98vd_28 : sFs × sQ × Bool := ([((6, .op2 .land (.elem (.arg 1761) (.int 43)) (.long 2147483648), .long 0), false)], (6, .op2 .land (.op2 .lshr (.elem (.arg 1761) (.int 43)) (.int 31)) (.long 1), .long 1), true)
noncomputable def zi98vd_29 : sFs × sQ × Bool := ([((6, .op2 .land (.elem (.arg 1761) (.int 43)) (.long 2147483648), .long 0), true)], (6, .op2 .land (.op2 .lshr (.elem (.arg 1761) (.int 43)) (.int 31)) (.long 1), .long 0), true)
noncomputable def q_wq61i : sCut := ((fr 0 5 0 [(0, tr 57), (1, .int 61), (2, .arg 60033)] [], [fBot], 8), (fr 0 277 35 [(0, tr 219), (1, .arg 1308), (2, .int 61)] [], [fBot], 8), [zf98vd_4, zf98vd_5, zf98vd_6, zf98vd_7, zf98vd_8, zf98vd_9, zf98vd_10, zf98vd_11], [zi98vd_28, zi98vd_29, zi98vd_2, zi98vd_3])
noncomputable def q_wq61ir0 : sCut := ((fr 0 5 0 [(0, tr 57), (1, .int 61), (2, .arg 60033)] [], [fBot], 8), (fr 0 277 35 [(0, tr 219), (1, .arg 1308), (2, .int 61)] [], [fBot], 8), [zf98vd_14, zf98vd_4, zf98vd_5, zf98vd_6, zf98vd_7, zf98vd_8, zf98vd_9, zf98vd_10, zf98vd_11], [zi98vd_28, zi98vd_29, zi98vd_2, zi98vd_3])
theorem k_wq61ir0 : cbody kR [(zWP, c_mp110)] (cpl1 zWP c_wn2 []) (cpl2 zWP c_wn2 []) (cleaf kR zWP c_wn2 []) 1500 true true q_wq61ir0.2.2.1 q_wq61ir0.2.2.2 (cst zWP c_wn2.2.2.1.1 q_wq61ir0.1) (cst zWP c_wn2.2.2.1.2 q_wq61ir0.2.1) = true := by decide +kernel
theorem t_wq61ir0 {X : pX} {ρ0 : sR} (hv : vok X ρ0) : CUTOK X kR zWP c_wn2 8 ρ0 q_wq61ir0 := CUT_run kR_x kR_0 (Cs := [(zWP, c_mp110)]) (fun C hC => by rw [List.mem_singleton.mp hC]; exact s_mp110) c_wn2_f (Q := []) hv (fun q hq => by cases hq) 1500 (b1 := true) (b2 := true) k_wq61ir0
noncomputable def q_wq61ir1 : sCut := ((fr 0 5 0 [(0, tr 57), (1, .int 61), (2, .arg 60033)] [], [fBot], 8), (fr 0 277 35 [(0, tr 219), (1, .arg 1308), (2, .int 61)] [], [fBot], 8), [zf98vd_15, zf98vd_26, zf98vd_4, zf98vd_5, zf98vd_6, zf98vd_7, zf98vd_8, zf98vd_9, zf98vd_10, zf98vd_11], [zi98vd_28, zi98vd_29, zi98vd_2, zi98vd_3])
noncomputable def w_wq61ir1 : List (sCut × List (Nat × sT) × List (Nat × sT × List (sT × sT))) := [(q_wR61, [(60033, .arg 60033), (2848, .op2 .ior (.arg 2848) (.int 1024)), (6850, .arg 6850), (6882, .arg 6882), (6914, .int 0), (6946, .arg 6946), (7362, .arg 7362), (7394, .arg 7394), (7426, .int 0), (7458, .arg 7458), (7874, .arg 7874), (7906, .arg 7906), (7938, .arg 7938), (7970, .arg 7970), (21216, .arg 21216), (21248, .arg 21248), (21280, .arg 21280), (21312, .arg 21312), (6466, .arg 6466), (6498, .arg 6498)], [(1761, .arg 1761, [(.int 61, .arg 60033)])])]
theorem k_wq61ir1 : cbody kR [(zWP, c_mp111)] (cpl1 zWP c_wn2 [q_wR61]) (cpl2 zWP c_wn2 [q_wR61]) (cleafB kR zWP c_wn2 w_wq61ir1) 1500 true true q_wq61ir1.2.2.1 q_wq61ir1.2.2.2 (cst zWP c_wn2.2.2.1.1 q_wq61ir1.1) (cst zWP c_wn2.2.2.1.2 q_wq61ir1.2.1) = true := by decide +kernel
theorem t_wq61ir1 {X : pX} {ρ0 : sR} (hv : vok X ρ0) : CUTOK X kR zWP c_wn2 8 ρ0 q_wq61ir1 := CUTOK_AT (fun ρ k1 hF hI k4 => AT_of (q := q_wq61ir1) rfl rfl (SEM_runB kR_x kR_0 (Cs := [(zWP, c_mp111)]) (fun C hC => by rw [List.mem_singleton.mp hC]; exact s_mp111) c_wn2_f (Q := w_wq61ir1) hv 1500 (b1 := true) (b2 := true) k_wq61ir1 k1 hF hI k4 (fun p hp ρ3 m1 m2 m3 m4 m5 m6 => by
  rw [List.mem_singleton.mp hp] at m2 m3 m5 m6 ⊢
  have y3 : ρ3.2.1 60033 = ρ.2.1 60033 := congrArg Prod.snd (m5 (60033, .arg 60033) List.mem_cons_self)
  have hA : ∀ j, ρ3.2.2.2.1 1761 j = if 61 = j then ρ.2.1 60033 else ρ.2.2.2.1 1761 j := fun j => ad_l (X := X) (p := 61) (t := .arg 60033) rfl (m6 _ List.mem_cons_self) j
  have hk : evk 61 (ρ.2.1 60033).toInt = true := by
    have h := m2.2 _ List.mem_cons_self
    rw [← y3]
    exact h
  have h0 : ρ.2.2.2.1 1761 60 = 0 := by
    have h := hA 60
    rw [if_neg (by decide)] at h
    rw [← h]
    exact of_decide_eq_true (m2.2 _ (List.mem_cons_of_mem _ List.mem_cons_self))
  have ea : ρ3.1 2848 = (sd X ρ (.op2 .ior (.arg 2848) (.int 1024))).1 := congrArg Prod.fst (m5 (2848, .op2 .ior (.arg 2848) (.int 1024)) (List.mem_cons_of_mem _ List.mem_cons_self))
  have eL : ρ3.1 60578 = ρ.1 60578 := (m4.1 60578 (by decide) (by decide)).1.trans (k4.1 60578 (by decide) (by decide)).1.symm
  have mo : sc X ρ3 (2, .op2 .iand (.op2 .iushr (.arg 2848) (.int 4)) (.int 1), .arg 60578) = false := by
    show decide (((ρ3.1 2848).toUInt32 >>> ((4 : Int32).toUInt32 &&& (31 : Int32).toUInt32)).toInt32 &&& 1 < ρ3.1 60578) = false
    rw [ea, eL]
    have q := tbv_ok (X := X) (ρ := ρ) (F := []) (a := .op2 .iand (.op2 .iushr (.op2 .ior (.arg 2848) (.int 1024)) (.int 4)) (.int 1)) (b := .op2 .iand (.op2 .iushr (.arg 2848) (.int 4)) (.int 1)) ⟨hF.1, fun f hf => by cases hf⟩ (by decide +kernel)
    rw [sv_int rfl, sv_int rfl] at q
    exact mn_e (Value.int.inj q) (of_decide_eq_true (hF.2 _ (List.mem_cons_of_mem _ (List.mem_cons_of_mem _ (List.mem_cons_of_mem _ (List.mem_cons_of_mem _ (List.mem_cons_of_mem _ (List.mem_cons_of_mem _ (List.mem_cons_of_mem _ (List.mem_cons_of_mem _ (List.mem_cons_self)))))))))))
  exact t_wE2 hv ρ3 m1 ⟨m2.1, fcn (ev_rw (g := ρ.2.2.2.1 1761) (m := 60) (p := 61) (hF.2 _ (List.mem_cons_of_mem _ (List.mem_cons_of_mem _ (List.mem_cons_of_mem _ (List.mem_cons_of_mem _ (List.mem_cons_of_mem _ (List.mem_cons_of_mem _ (List.mem_cons_self)))))))) (by decide) hk hA h0 (by decide +kernel)) (fcn (pd_up (X := X) (p := 61) (c := 1024) (z := [6914, 7426]) (hF.2 _ (List.mem_cons_of_mem _ (List.mem_cons_of_mem _ (List.mem_cons_of_mem _ (List.mem_cons_of_mem _ (List.mem_cons_of_mem _ (List.mem_cons_of_mem _ (List.mem_cons_of_mem _ (List.mem_cons_self))))))))) hA (fun x hx => m5 x (List.mem_cons_of_mem _ hx)) k4 m4 wm_2 wb_2 (by decide +kernel)) (fcn (mo) (fnl)))⟩ m3 m4)))
theorem t_wq61i {X : pX} {ρ0 : sR} (hv : vok X ρ0) : CUTOK X kR zWP c_wn2 8 ρ0 q_wq61i := fun ρ k1 hF hI k4 => by
  have b0 := rl_lf (x := ρ.2.1 60033) (y := 0) (hF.2 _ (List.mem_cons_of_mem _ (List.mem_cons_of_mem _ (List.mem_cons_self))))
  have b1 := rl_lf (x := 4294967295) (y := ρ.2.1 60033) (hF.2 _ (List.mem_cons_of_mem _ (List.mem_cons_of_mem _ (List.mem_cons_of_mem _ (List.mem_cons_self)))))
  have y0 : (0 : Int64).toInt = 0 := by decide +kernel
  have y1 : (4294967295 : Int64).toInt = 4294967295 := by decide +kernel
  rw [y0] at b0
  rw [y1] at b1
  by_cases h : evs 11 (ρ.2.1 60033).toInt = true
  · exact t_wq61ir1 hv ρ k1 ⟨hF.1, fcn (decide_eq_true (show ((1 : Int32)).toInt = (if evs 11 (ρ.2.1 60033).toInt = true then 1 else 0) by rw [if_pos h]; rfl)) (fcn (wn_129 (p := 61) (q := 61) rfl et_61 b0 b1 h) (hF.2))⟩ hI k4
  · exact t_wq61ir0 hv ρ k1 ⟨hF.1, fcn (decide_eq_true (show ((0 : Int32)).toInt = (if evs 11 (ρ.2.1 60033).toInt = true then 1 else 0) by rw [if_neg h]; rfl)) (hF.2)⟩ hI k4
theorem t_wq61 {X : pX} {ρ0 : sR} (hv : vok X ρ0) : CUTOK X kR zWP c_wn2 8 ρ0 q_wq61 := CUT_mono (t_wq61i hv) (fun ρ hF hI => by
  have b0 := rl_lf (x := ρ.2.1 60033) (y := 0) (hF.2 _ (List.mem_cons_of_mem _ (List.mem_cons_of_mem _ (List.mem_cons_self))))
  have b1 := rl_lf (x := 4294967295) (y := ρ.2.1 60033) (hF.2 _ (List.mem_cons_of_mem _ (List.mem_cons_of_mem _ (List.mem_cons_of_mem _ (List.mem_cons_self)))))
  have y0 : (0 : Int64).toInt = 0 := by decide +kernel
  have y1 : (4294967295 : Int64).toInt = 4294967295 := by decide +kernel
  rw [y0] at b0
  rw [y1] at b1
  exact ⟨hF, ik_c (fun hg => decide_eq_true (of_1 (x := ρ.2.2.2.1 1761 43) (of_decide_eq_false (hg _ List.mem_cons_self)))) (ik_c (fun hg => decide_eq_true (of_0 (x := ρ.2.2.2.1 1761 43) (of_decide_eq_true (hg _ List.mem_cons_self)))) (hI))⟩)
theorem e_wp61 : frun kR [] (cpl1 zWP (c_wp2 61) [q_wq61]) (cpl2 zWP (c_wp2 61) [q_wq61]) (cleaf kR zWP (c_wp2 61) [q_wq61]) 300 65536 (isatP ((c_wp2 61).2.2.2.1) (c_wp2 61).2.2.2.2.2.2.2.1) (c_wp2 61).2.2.2.2.2.2.2.1 (sin0 mt_all (c_wp2 61).1.1 8 (c_wp2 61).2.1.1 (foot zWP (c_wp2 61).2.2.1.1)) (sin0 mt_all (c_wp2 61).1.2.1 8 (c_wp2 61).2.1.2 (foot zWP (c_wp2 61).2.2.1.2)) = true := by decide +kernel
theorem s_wp61 {X : pX} : SREL X pF pdfl mt_all kR zWP (c_wp2 61) := SREL_QC kR_x kR_0 (Cs := []) (fun C hC => by cases hC) (d := 8) rfl (c_wp2_f 61) (Q := [q_wq61]) (fun ρ0 hv => fun q hq => by
    simp only [List.mem_cons, List.not_mem_nil, or_false] at hq
    rw [hq]; exact (t_wq61 hv : CUTOK X kR zWP c_wn2 8 ρ0 q_wq61)) (QC_run 300 e_wp61)
theorem et_62 : evt[62]? = some (0, 4294967295, 11) := by decide +kernel
noncomputable def zf98vd_30 : sQ × Bool := ((129, .int 62, .arg 60033), true)
noncomputable def q_wR62 : sCut := ((fr 0 10 53 [] [], [fr 0 5 23 [(4, .int 0)] [], fBot], 7), (fr 0 281 150 [] [], [fr 0 277 91 [(3, .int 0)] [], fBot], 7), [zf98vd_30, zf98vd_27], [zi98vd_2, zi98vd_3])
noncomputable def q_wq62 : sCut := ((fr 0 5 0 [(0, tr 57), (1, .int 62), (2, .arg 60033)] [], [fBot], 8), (fr 0 277 35 [(0, tr 219), (1, .arg 1308), (2, .int 62)] [], [fBot], 8), [zf98vd_4, zf98vd_5, zf98vd_6, zf98vd_7, zf98vd_8, zf98vd_9, zf98vd_10, zf98vd_11], [zi98vd_2, zi98vd_3])
noncomputable def q_wq62i : sCut := ((fr 0 5 0 [(0, tr 57), (1, .int 62), (2, .arg 60033)] [], [fBot], 8), (fr 0 277 35 [(0, tr 219), (1, .arg 1308), (2, .int 62)] [], [fBot], 8), [zf98vd_4, zf98vd_5, zf98vd_6, zf98vd_7, zf98vd_8, zf98vd_9, zf98vd_10, zf98vd_11], [zi98vd_28, zi98vd_29, zi98vd_2, zi98vd_3])
noncomputable def q_wq62ir0 : sCut := ((fr 0 5 0 [(0, tr 57), (1, .int 62), (2, .arg 60033)] [], [fBot], 8), (fr 0 277 35 [(0, tr 219), (1, .arg 1308), (2, .int 62)] [], [fBot], 8), [zf98vd_14, zf98vd_4, zf98vd_5, zf98vd_6, zf98vd_7, zf98vd_8, zf98vd_9, zf98vd_10, zf98vd_11], [zi98vd_28, zi98vd_29, zi98vd_2, zi98vd_3])
theorem k_wq62ir0 : cbody kR [(zWP, c_mp110)] (cpl1 zWP c_wn2 []) (cpl2 zWP c_wn2 []) (cleaf kR zWP c_wn2 []) 1500 true true q_wq62ir0.2.2.1 q_wq62ir0.2.2.2 (cst zWP c_wn2.2.2.1.1 q_wq62ir0.1) (cst zWP c_wn2.2.2.1.2 q_wq62ir0.2.1) = true := by decide +kernel
theorem t_wq62ir0 {X : pX} {ρ0 : sR} (hv : vok X ρ0) : CUTOK X kR zWP c_wn2 8 ρ0 q_wq62ir0 := CUT_run kR_x kR_0 (Cs := [(zWP, c_mp110)]) (fun C hC => by rw [List.mem_singleton.mp hC]; exact s_mp110) c_wn2_f (Q := []) hv (fun q hq => by cases hq) 1500 (b1 := true) (b2 := true) k_wq62ir0
noncomputable def q_wq62ir1 : sCut := ((fr 0 5 0 [(0, tr 57), (1, .int 62), (2, .arg 60033)] [], [fBot], 8), (fr 0 277 35 [(0, tr 219), (1, .arg 1308), (2, .int 62)] [], [fBot], 8), [zf98vd_15, zf98vd_30, zf98vd_4, zf98vd_5, zf98vd_6, zf98vd_7, zf98vd_8, zf98vd_9, zf98vd_10, zf98vd_11], [zi98vd_28, zi98vd_29, zi98vd_2, zi98vd_3])
noncomputable def w_wq62ir1 : List (sCut × List (Nat × sT) × List (Nat × sT × List (sT × sT))) := [(q_wR62, [(60033, .arg 60033), (2848, .op2 .ior (.arg 2848) (.int 1024)), (6850, .arg 6850), (6882, .arg 6882), (6914, .int 0), (6946, .arg 6946), (7362, .arg 7362), (7394, .arg 7394), (7426, .int 0), (7458, .arg 7458), (7874, .arg 7874), (7906, .arg 7906), (7938, .arg 7938), (7970, .arg 7970), (21216, .arg 21216), (21248, .arg 21248), (21280, .arg 21280), (21312, .arg 21312), (6466, .arg 6466), (6498, .arg 6498)], [(1761, .arg 1761, [(.int 62, .arg 60033)])])]
theorem k_wq62ir1 : cbody kR [(zWP, c_mp111)] (cpl1 zWP c_wn2 [q_wR62]) (cpl2 zWP c_wn2 [q_wR62]) (cleafB kR zWP c_wn2 w_wq62ir1) 1500 true true q_wq62ir1.2.2.1 q_wq62ir1.2.2.2 (cst zWP c_wn2.2.2.1.1 q_wq62ir1.1) (cst zWP c_wn2.2.2.1.2 q_wq62ir1.2.1) = true := by decide +kernel
theorem t_wq62ir1 {X : pX} {ρ0 : sR} (hv : vok X ρ0) : CUTOK X kR zWP c_wn2 8 ρ0 q_wq62ir1 := CUTOK_AT (fun ρ k1 hF hI k4 => AT_of (q := q_wq62ir1) rfl rfl (SEM_runB kR_x kR_0 (Cs := [(zWP, c_mp111)]) (fun C hC => by rw [List.mem_singleton.mp hC]; exact s_mp111) c_wn2_f (Q := w_wq62ir1) hv 1500 (b1 := true) (b2 := true) k_wq62ir1 k1 hF hI k4 (fun p hp ρ3 m1 m2 m3 m4 m5 m6 => by
  rw [List.mem_singleton.mp hp] at m2 m3 m5 m6 ⊢
  have y3 : ρ3.2.1 60033 = ρ.2.1 60033 := congrArg Prod.snd (m5 (60033, .arg 60033) List.mem_cons_self)
  have hA : ∀ j, ρ3.2.2.2.1 1761 j = if 62 = j then ρ.2.1 60033 else ρ.2.2.2.1 1761 j := fun j => ad_l (X := X) (p := 62) (t := .arg 60033) rfl (m6 _ List.mem_cons_self) j
  have hk : evk 62 (ρ.2.1 60033).toInt = true := by
    have h := m2.2 _ List.mem_cons_self
    rw [← y3]
    exact h
  have h0 : ρ.2.2.2.1 1761 60 = 0 := by
    have h := hA 60
    rw [if_neg (by decide)] at h
    rw [← h]
    exact of_decide_eq_true (m2.2 _ (List.mem_cons_of_mem _ List.mem_cons_self))
  have ea : ρ3.1 2848 = (sd X ρ (.op2 .ior (.arg 2848) (.int 1024))).1 := congrArg Prod.fst (m5 (2848, .op2 .ior (.arg 2848) (.int 1024)) (List.mem_cons_of_mem _ List.mem_cons_self))
  have eL : ρ3.1 60578 = ρ.1 60578 := (m4.1 60578 (by decide) (by decide)).1.trans (k4.1 60578 (by decide) (by decide)).1.symm
  have mo : sc X ρ3 (2, .op2 .iand (.op2 .iushr (.arg 2848) (.int 4)) (.int 1), .arg 60578) = false := by
    show decide (((ρ3.1 2848).toUInt32 >>> ((4 : Int32).toUInt32 &&& (31 : Int32).toUInt32)).toInt32 &&& 1 < ρ3.1 60578) = false
    rw [ea, eL]
    have q := tbv_ok (X := X) (ρ := ρ) (F := []) (a := .op2 .iand (.op2 .iushr (.op2 .ior (.arg 2848) (.int 1024)) (.int 4)) (.int 1)) (b := .op2 .iand (.op2 .iushr (.arg 2848) (.int 4)) (.int 1)) ⟨hF.1, fun f hf => by cases hf⟩ (by decide +kernel)
    rw [sv_int rfl, sv_int rfl] at q
    exact mn_e (Value.int.inj q) (of_decide_eq_true (hF.2 _ (List.mem_cons_of_mem _ (List.mem_cons_of_mem _ (List.mem_cons_of_mem _ (List.mem_cons_of_mem _ (List.mem_cons_of_mem _ (List.mem_cons_of_mem _ (List.mem_cons_of_mem _ (List.mem_cons_of_mem _ (List.mem_cons_self)))))))))))
  exact t_wE2 hv ρ3 m1 ⟨m2.1, fcn (ev_rw (g := ρ.2.2.2.1 1761) (m := 60) (p := 62) (hF.2 _ (List.mem_cons_of_mem _ (List.mem_cons_of_mem _ (List.mem_cons_of_mem _ (List.mem_cons_of_mem _ (List.mem_cons_of_mem _ (List.mem_cons_of_mem _ (List.mem_cons_self)))))))) (by decide) hk hA h0 (by decide +kernel)) (fcn (pd_up (X := X) (p := 62) (c := 1024) (z := [6914, 7426]) (hF.2 _ (List.mem_cons_of_mem _ (List.mem_cons_of_mem _ (List.mem_cons_of_mem _ (List.mem_cons_of_mem _ (List.mem_cons_of_mem _ (List.mem_cons_of_mem _ (List.mem_cons_of_mem _ (List.mem_cons_self))))))))) hA (fun x hx => m5 x (List.mem_cons_of_mem _ hx)) k4 m4 wm_2 wb_2 (by decide +kernel)) (fcn (mo) (fnl)))⟩ m3 m4)))
theorem t_wq62i {X : pX} {ρ0 : sR} (hv : vok X ρ0) : CUTOK X kR zWP c_wn2 8 ρ0 q_wq62i := fun ρ k1 hF hI k4 => by
  have b0 := rl_lf (x := ρ.2.1 60033) (y := 0) (hF.2 _ (List.mem_cons_of_mem _ (List.mem_cons_of_mem _ (List.mem_cons_self))))
  have b1 := rl_lf (x := 4294967295) (y := ρ.2.1 60033) (hF.2 _ (List.mem_cons_of_mem _ (List.mem_cons_of_mem _ (List.mem_cons_of_mem _ (List.mem_cons_self)))))
  have y0 : (0 : Int64).toInt = 0 := by decide +kernel
  have y1 : (4294967295 : Int64).toInt = 4294967295 := by decide +kernel
  rw [y0] at b0
  rw [y1] at b1
  by_cases h : evs 11 (ρ.2.1 60033).toInt = true
  · exact t_wq62ir1 hv ρ k1 ⟨hF.1, fcn (decide_eq_true (show ((1 : Int32)).toInt = (if evs 11 (ρ.2.1 60033).toInt = true then 1 else 0) by rw [if_pos h]; rfl)) (fcn (wn_129 (p := 62) (q := 62) rfl et_62 b0 b1 h) (hF.2))⟩ hI k4
  · exact t_wq62ir0 hv ρ k1 ⟨hF.1, fcn (decide_eq_true (show ((0 : Int32)).toInt = (if evs 11 (ρ.2.1 60033).toInt = true then 1 else 0) by rw [if_neg h]; rfl)) (hF.2)⟩ hI k4
theorem t_wq62 {X : pX} {ρ0 : sR} (hv : vok X ρ0) : CUTOK X kR zWP c_wn2 8 ρ0 q_wq62 := CUT_mono (t_wq62i hv) (fun ρ hF hI => by
  have b0 := rl_lf (x := ρ.2.1 60033) (y := 0) (hF.2 _ (List.mem_cons_of_mem _ (List.mem_cons_of_mem _ (List.mem_cons_self))))
  have b1 := rl_lf (x := 4294967295) (y := ρ.2.1 60033) (hF.2 _ (List.mem_cons_of_mem _ (List.mem_cons_of_mem _ (List.mem_cons_of_mem _ (List.mem_cons_self)))))
  have y0 : (0 : Int64).toInt = 0 := by decide +kernel
  have y1 : (4294967295 : Int64).toInt = 4294967295 := by decide +kernel
  rw [y0] at b0
  rw [y1] at b1
  exact ⟨hF, ik_c (fun hg => decide_eq_true (of_1 (x := ρ.2.2.2.1 1761 43) (of_decide_eq_false (hg _ List.mem_cons_self)))) (ik_c (fun hg => decide_eq_true (of_0 (x := ρ.2.2.2.1 1761 43) (of_decide_eq_true (hg _ List.mem_cons_self)))) (hI))⟩)
theorem e_wp62 : frun kR [] (cpl1 zWP (c_wp2 62) [q_wq62]) (cpl2 zWP (c_wp2 62) [q_wq62]) (cleaf kR zWP (c_wp2 62) [q_wq62]) 300 65536 (isatP ((c_wp2 62).2.2.2.1) (c_wp2 62).2.2.2.2.2.2.2.1) (c_wp2 62).2.2.2.2.2.2.2.1 (sin0 mt_all (c_wp2 62).1.1 8 (c_wp2 62).2.1.1 (foot zWP (c_wp2 62).2.2.1.1)) (sin0 mt_all (c_wp2 62).1.2.1 8 (c_wp2 62).2.1.2 (foot zWP (c_wp2 62).2.2.1.2)) = true := by decide +kernel
theorem s_wp62 {X : pX} : SREL X pF pdfl mt_all kR zWP (c_wp2 62) := SREL_QC kR_x kR_0 (Cs := []) (fun C hC => by cases hC) (d := 8) rfl (c_wp2_f 62) (Q := [q_wq62]) (fun ρ0 hv => fun q hq => by
    simp only [List.mem_cons, List.not_mem_nil, or_false] at hq
    rw [hq]; exact (t_wq62 hv : CUTOK X kR zWP c_wn2 8 ρ0 q_wq62)) (QC_run 300 e_wp62)
theorem et_63 : evt[63]? = some (0, 4294967295, 11) := by decide +kernel
noncomputable def zf98vd_31 : sQ × Bool := ((129, .int 63, .arg 60033), true)
noncomputable def q_wR63 : sCut := ((fr 0 10 53 [] [], [fr 0 5 23 [(4, .int 0)] [], fBot], 7), (fr 0 281 150 [] [], [fr 0 277 91 [(3, .int 0)] [], fBot], 7), [zf98vd_31, zf98vd_27], [zi98vd_2, zi98vd_3])
noncomputable def q_wq63 : sCut := ((fr 0 5 0 [(0, tr 57), (1, .int 63), (2, .arg 60033)] [], [fBot], 8), (fr 0 277 35 [(0, tr 219), (1, .arg 1308), (2, .int 63)] [], [fBot], 8), [zf98vd_4, zf98vd_5, zf98vd_6, zf98vd_7, zf98vd_8, zf98vd_9, zf98vd_10, zf98vd_11], [zi98vd_2, zi98vd_3])
noncomputable def q_wq63i : sCut := ((fr 0 5 0 [(0, tr 57), (1, .int 63), (2, .arg 60033)] [], [fBot], 8), (fr 0 277 35 [(0, tr 219), (1, .arg 1308), (2, .int 63)] [], [fBot], 8), [zf98vd_4, zf98vd_5, zf98vd_6, zf98vd_7, zf98vd_8, zf98vd_9, zf98vd_10, zf98vd_11], [zi98vd_28, zi98vd_29, zi98vd_2, zi98vd_3])
noncomputable def q_wq63ir0 : sCut := ((fr 0 5 0 [(0, tr 57), (1, .int 63), (2, .arg 60033)] [], [fBot], 8), (fr 0 277 35 [(0, tr 219), (1, .arg 1308), (2, .int 63)] [], [fBot], 8), [zf98vd_14, zf98vd_4, zf98vd_5, zf98vd_6, zf98vd_7, zf98vd_8, zf98vd_9, zf98vd_10, zf98vd_11], [zi98vd_28, zi98vd_29, zi98vd_2, zi98vd_3])
theorem k_wq63ir0 : cbody kR [(zWP, c_mp110)] (cpl1 zWP c_wn2 []) (cpl2 zWP c_wn2 []) (cleaf kR zWP c_wn2 []) 1500 true true q_wq63ir0.2.2.1 q_wq63ir0.2.2.2 (cst zWP c_wn2.2.2.1.1 q_wq63ir0.1) (cst zWP c_wn2.2.2.1.2 q_wq63ir0.2.1) = true := by decide +kernel
theorem t_wq63ir0 {X : pX} {ρ0 : sR} (hv : vok X ρ0) : CUTOK X kR zWP c_wn2 8 ρ0 q_wq63ir0 := CUT_run kR_x kR_0 (Cs := [(zWP, c_mp110)]) (fun C hC => by rw [List.mem_singleton.mp hC]; exact s_mp110) c_wn2_f (Q := []) hv (fun q hq => by cases hq) 1500 (b1 := true) (b2 := true) k_wq63ir0
noncomputable def q_wq63ir1 : sCut := ((fr 0 5 0 [(0, tr 57), (1, .int 63), (2, .arg 60033)] [], [fBot], 8), (fr 0 277 35 [(0, tr 219), (1, .arg 1308), (2, .int 63)] [], [fBot], 8), [zf98vd_15, zf98vd_31, zf98vd_4, zf98vd_5, zf98vd_6, zf98vd_7, zf98vd_8, zf98vd_9, zf98vd_10, zf98vd_11], [zi98vd_28, zi98vd_29, zi98vd_2, zi98vd_3])
noncomputable def w_wq63ir1 : List (sCut × List (Nat × sT) × List (Nat × sT × List (sT × sT))) := [(q_wR63, [(60033, .arg 60033), (2848, .op2 .ior (.arg 2848) (.int 1024)), (6850, .arg 6850), (6882, .arg 6882), (6914, .int 0), (6946, .arg 6946), (7362, .arg 7362), (7394, .arg 7394), (7426, .int 0), (7458, .arg 7458), (7874, .arg 7874), (7906, .arg 7906), (7938, .arg 7938), (7970, .arg 7970), (21216, .arg 21216), (21248, .arg 21248), (21280, .arg 21280), (21312, .arg 21312), (6466, .arg 6466), (6498, .arg 6498)], [(1761, .arg 1761, [(.int 63, .arg 60033)])])]
theorem k_wq63ir1 : cbody kR [(zWP, c_mp111)] (cpl1 zWP c_wn2 [q_wR63]) (cpl2 zWP c_wn2 [q_wR63]) (cleafB kR zWP c_wn2 w_wq63ir1) 1500 true true q_wq63ir1.2.2.1 q_wq63ir1.2.2.2 (cst zWP c_wn2.2.2.1.1 q_wq63ir1.1) (cst zWP c_wn2.2.2.1.2 q_wq63ir1.2.1) = true := by decide +kernel
theorem t_wq63ir1 {X : pX} {ρ0 : sR} (hv : vok X ρ0) : CUTOK X kR zWP c_wn2 8 ρ0 q_wq63ir1 := CUTOK_AT (fun ρ k1 hF hI k4 => AT_of (q := q_wq63ir1) rfl rfl (SEM_runB kR_x kR_0 (Cs := [(zWP, c_mp111)]) (fun C hC => by rw [List.mem_singleton.mp hC]; exact s_mp111) c_wn2_f (Q := w_wq63ir1) hv 1500 (b1 := true) (b2 := true) k_wq63ir1 k1 hF hI k4 (fun p hp ρ3 m1 m2 m3 m4 m5 m6 => by
  rw [List.mem_singleton.mp hp] at m2 m3 m5 m6 ⊢
  have y3 : ρ3.2.1 60033 = ρ.2.1 60033 := congrArg Prod.snd (m5 (60033, .arg 60033) List.mem_cons_self)
  have hA : ∀ j, ρ3.2.2.2.1 1761 j = if 63 = j then ρ.2.1 60033 else ρ.2.2.2.1 1761 j := fun j => ad_l (X := X) (p := 63) (t := .arg 60033) rfl (m6 _ List.mem_cons_self) j
  have hk : evk 63 (ρ.2.1 60033).toInt = true := by
    have h := m2.2 _ List.mem_cons_self
    rw [← y3]
    exact h
  have h0 : ρ.2.2.2.1 1761 60 = 0 := by
    have h := hA 60
    rw [if_neg (by decide)] at h
    rw [← h]
    exact of_decide_eq_true (m2.2 _ (List.mem_cons_of_mem _ List.mem_cons_self))
  have ea : ρ3.1 2848 = (sd X ρ (.op2 .ior (.arg 2848) (.int 1024))).1 := congrArg Prod.fst (m5 (2848, .op2 .ior (.arg 2848) (.int 1024)) (List.mem_cons_of_mem _ List.mem_cons_self))
  have eL : ρ3.1 60578 = ρ.1 60578 := (m4.1 60578 (by decide) (by decide)).1.trans (k4.1 60578 (by decide) (by decide)).1.symm
  have mo : sc X ρ3 (2, .op2 .iand (.op2 .iushr (.arg 2848) (.int 4)) (.int 1), .arg 60578) = false := by
    show decide (((ρ3.1 2848).toUInt32 >>> ((4 : Int32).toUInt32 &&& (31 : Int32).toUInt32)).toInt32 &&& 1 < ρ3.1 60578) = false
    rw [ea, eL]
    have q := tbv_ok (X := X) (ρ := ρ) (F := []) (a := .op2 .iand (.op2 .iushr (.op2 .ior (.arg 2848) (.int 1024)) (.int 4)) (.int 1)) (b := .op2 .iand (.op2 .iushr (.arg 2848) (.int 4)) (.int 1)) ⟨hF.1, fun f hf => by cases hf⟩ (by decide +kernel)
    rw [sv_int rfl, sv_int rfl] at q
    exact mn_e (Value.int.inj q) (of_decide_eq_true (hF.2 _ (List.mem_cons_of_mem _ (List.mem_cons_of_mem _ (List.mem_cons_of_mem _ (List.mem_cons_of_mem _ (List.mem_cons_of_mem _ (List.mem_cons_of_mem _ (List.mem_cons_of_mem _ (List.mem_cons_of_mem _ (List.mem_cons_self)))))))))))
  exact t_wE2 hv ρ3 m1 ⟨m2.1, fcn (ev_rw (g := ρ.2.2.2.1 1761) (m := 60) (p := 63) (hF.2 _ (List.mem_cons_of_mem _ (List.mem_cons_of_mem _ (List.mem_cons_of_mem _ (List.mem_cons_of_mem _ (List.mem_cons_of_mem _ (List.mem_cons_of_mem _ (List.mem_cons_self)))))))) (by decide) hk hA h0 (by decide +kernel)) (fcn (pd_up (X := X) (p := 63) (c := 1024) (z := [6914, 7426]) (hF.2 _ (List.mem_cons_of_mem _ (List.mem_cons_of_mem _ (List.mem_cons_of_mem _ (List.mem_cons_of_mem _ (List.mem_cons_of_mem _ (List.mem_cons_of_mem _ (List.mem_cons_of_mem _ (List.mem_cons_self))))))))) hA (fun x hx => m5 x (List.mem_cons_of_mem _ hx)) k4 m4 wm_2 wb_2 (by decide +kernel)) (fcn (mo) (fnl)))⟩ m3 m4)))
theorem t_wq63i {X : pX} {ρ0 : sR} (hv : vok X ρ0) : CUTOK X kR zWP c_wn2 8 ρ0 q_wq63i := fun ρ k1 hF hI k4 => by
  have b0 := rl_lf (x := ρ.2.1 60033) (y := 0) (hF.2 _ (List.mem_cons_of_mem _ (List.mem_cons_of_mem _ (List.mem_cons_self))))
  have b1 := rl_lf (x := 4294967295) (y := ρ.2.1 60033) (hF.2 _ (List.mem_cons_of_mem _ (List.mem_cons_of_mem _ (List.mem_cons_of_mem _ (List.mem_cons_self)))))
  have y0 : (0 : Int64).toInt = 0 := by decide +kernel
  have y1 : (4294967295 : Int64).toInt = 4294967295 := by decide +kernel
  rw [y0] at b0
  rw [y1] at b1
  by_cases h : evs 11 (ρ.2.1 60033).toInt = true
  · exact t_wq63ir1 hv ρ k1 ⟨hF.1, fcn (decide_eq_true (show ((1 : Int32)).toInt = (if evs 11 (ρ.2.1 60033).toInt = true then 1 else 0) by rw [if_pos h]; rfl)) (fcn (wn_129 (p := 63) (q := 63) rfl et_63 b0 b1 h) (hF.2))⟩ hI k4
  · exact t_wq63ir0 hv ρ k1 ⟨hF.1, fcn (decide_eq_true (show ((0 : Int32)).toInt = (if evs 11 (ρ.2.1 60033).toInt = true then 1 else 0) by rw [if_neg h]; rfl)) (hF.2)⟩ hI k4
theorem t_wq63 {X : pX} {ρ0 : sR} (hv : vok X ρ0) : CUTOK X kR zWP c_wn2 8 ρ0 q_wq63 := CUT_mono (t_wq63i hv) (fun ρ hF hI => by
  have b0 := rl_lf (x := ρ.2.1 60033) (y := 0) (hF.2 _ (List.mem_cons_of_mem _ (List.mem_cons_of_mem _ (List.mem_cons_self))))
  have b1 := rl_lf (x := 4294967295) (y := ρ.2.1 60033) (hF.2 _ (List.mem_cons_of_mem _ (List.mem_cons_of_mem _ (List.mem_cons_of_mem _ (List.mem_cons_self)))))
  have y0 : (0 : Int64).toInt = 0 := by decide +kernel
  have y1 : (4294967295 : Int64).toInt = 4294967295 := by decide +kernel
  rw [y0] at b0
  rw [y1] at b1
  exact ⟨hF, ik_c (fun hg => decide_eq_true (of_1 (x := ρ.2.2.2.1 1761 43) (of_decide_eq_false (hg _ List.mem_cons_self)))) (ik_c (fun hg => decide_eq_true (of_0 (x := ρ.2.2.2.1 1761 43) (of_decide_eq_true (hg _ List.mem_cons_self)))) (hI))⟩)
theorem e_wp63 : frun kR [] (cpl1 zWP (c_wp2 63) [q_wq63]) (cpl2 zWP (c_wp2 63) [q_wq63]) (cleaf kR zWP (c_wp2 63) [q_wq63]) 300 65536 (isatP ((c_wp2 63).2.2.2.1) (c_wp2 63).2.2.2.2.2.2.2.1) (c_wp2 63).2.2.2.2.2.2.2.1 (sin0 mt_all (c_wp2 63).1.1 8 (c_wp2 63).2.1.1 (foot zWP (c_wp2 63).2.2.1.1)) (sin0 mt_all (c_wp2 63).1.2.1 8 (c_wp2 63).2.1.2 (foot zWP (c_wp2 63).2.2.1.2)) = true := by decide +kernel
theorem s_wp63 {X : pX} : SREL X pF pdfl mt_all kR zWP (c_wp2 63) := SREL_QC kR_x kR_0 (Cs := []) (fun C hC => by cases hC) (d := 8) rfl (c_wp2_f 63) (Q := [q_wq63]) (fun ρ0 hv => fun q hq => by
    simp only [List.mem_cons, List.not_mem_nil, or_false] at hq
    rw [hq]; exact (t_wq63 hv : CUTOK X kR zWP c_wn2 8 ρ0 q_wq63)) (QC_run 300 e_wp63)
theorem et_64 : evt[64]? = some (0, 4294967295, 11) := by decide +kernel
noncomputable def zf98vd_32 : sQ × Bool := ((129, .int 64, .arg 60033), true)
noncomputable def q_wR64 : sCut := ((fr 0 10 53 [] [], [fr 0 5 23 [(4, .int 0)] [], fBot], 7), (fr 0 281 150 [] [], [fr 0 277 91 [(3, .int 0)] [], fBot], 7), [zf98vd_32, zf98vd_27], [zi98vd_2, zi98vd_3])
noncomputable def q_wq64 : sCut := ((fr 0 5 0 [(0, tr 57), (1, .int 64), (2, .arg 60033)] [], [fBot], 8), (fr 0 277 35 [(0, tr 219), (1, .arg 1308), (2, .int 64)] [], [fBot], 8), [zf98vd_4, zf98vd_5, zf98vd_6, zf98vd_7, zf98vd_8, zf98vd_9, zf98vd_10, zf98vd_11], [zi98vd_2, zi98vd_3])
noncomputable def q_wq64i : sCut := ((fr 0 5 0 [(0, tr 57), (1, .int 64), (2, .arg 60033)] [], [fBot], 8), (fr 0 277 35 [(0, tr 219), (1, .arg 1308), (2, .int 64)] [], [fBot], 8), [zf98vd_4, zf98vd_5, zf98vd_6, zf98vd_7, zf98vd_8, zf98vd_9, zf98vd_10, zf98vd_11], [zi98vd_28, zi98vd_29, zi98vd_2, zi98vd_3])
noncomputable def q_wq64ir0 : sCut := ((fr 0 5 0 [(0, tr 57), (1, .int 64), (2, .arg 60033)] [], [fBot], 8), (fr 0 277 35 [(0, tr 219), (1, .arg 1308), (2, .int 64)] [], [fBot], 8), [zf98vd_14, zf98vd_4, zf98vd_5, zf98vd_6, zf98vd_7, zf98vd_8, zf98vd_9, zf98vd_10, zf98vd_11], [zi98vd_28, zi98vd_29, zi98vd_2, zi98vd_3])
theorem k_wq64ir0 : cbody kR [(zWP, c_mp110)] (cpl1 zWP c_wn2 []) (cpl2 zWP c_wn2 []) (cleaf kR zWP c_wn2 []) 1500 true true q_wq64ir0.2.2.1 q_wq64ir0.2.2.2 (cst zWP c_wn2.2.2.1.1 q_wq64ir0.1) (cst zWP c_wn2.2.2.1.2 q_wq64ir0.2.1) = true := by decide +kernel
theorem t_wq64ir0 {X : pX} {ρ0 : sR} (hv : vok X ρ0) : CUTOK X kR zWP c_wn2 8 ρ0 q_wq64ir0 := CUT_run kR_x kR_0 (Cs := [(zWP, c_mp110)]) (fun C hC => by rw [List.mem_singleton.mp hC]; exact s_mp110) c_wn2_f (Q := []) hv (fun q hq => by cases hq) 1500 (b1 := true) (b2 := true) k_wq64ir0
noncomputable def q_wq64ir1 : sCut := ((fr 0 5 0 [(0, tr 57), (1, .int 64), (2, .arg 60033)] [], [fBot], 8), (fr 0 277 35 [(0, tr 219), (1, .arg 1308), (2, .int 64)] [], [fBot], 8), [zf98vd_15, zf98vd_32, zf98vd_4, zf98vd_5, zf98vd_6, zf98vd_7, zf98vd_8, zf98vd_9, zf98vd_10, zf98vd_11], [zi98vd_28, zi98vd_29, zi98vd_2, zi98vd_3])
noncomputable def w_wq64ir1 : List (sCut × List (Nat × sT) × List (Nat × sT × List (sT × sT))) := [(q_wR64, [(60033, .arg 60033), (2848, .op2 .ior (.arg 2848) (.int 1024)), (6850, .arg 6850), (6882, .arg 6882), (6914, .int 0), (6946, .arg 6946), (7362, .arg 7362), (7394, .arg 7394), (7426, .int 0), (7458, .arg 7458), (7874, .arg 7874), (7906, .arg 7906), (7938, .arg 7938), (7970, .arg 7970), (21216, .arg 21216), (21248, .arg 21248), (21280, .arg 21280), (21312, .arg 21312), (6466, .arg 6466), (6498, .arg 6498)], [(1761, .arg 1761, [(.int 64, .arg 60033)])])]
theorem k_wq64ir1 : cbody kR [(zWP, c_mp111)] (cpl1 zWP c_wn2 [q_wR64]) (cpl2 zWP c_wn2 [q_wR64]) (cleafB kR zWP c_wn2 w_wq64ir1) 1500 true true q_wq64ir1.2.2.1 q_wq64ir1.2.2.2 (cst zWP c_wn2.2.2.1.1 q_wq64ir1.1) (cst zWP c_wn2.2.2.1.2 q_wq64ir1.2.1) = true := by decide +kernel
theorem t_wq64ir1 {X : pX} {ρ0 : sR} (hv : vok X ρ0) : CUTOK X kR zWP c_wn2 8 ρ0 q_wq64ir1 := CUTOK_AT (fun ρ k1 hF hI k4 => AT_of (q := q_wq64ir1) rfl rfl (SEM_runB kR_x kR_0 (Cs := [(zWP, c_mp111)]) (fun C hC => by rw [List.mem_singleton.mp hC]; exact s_mp111) c_wn2_f (Q := w_wq64ir1) hv 1500 (b1 := true) (b2 := true) k_wq64ir1 k1 hF hI k4 (fun p hp ρ3 m1 m2 m3 m4 m5 m6 => by
  rw [List.mem_singleton.mp hp] at m2 m3 m5 m6 ⊢
  have y3 : ρ3.2.1 60033 = ρ.2.1 60033 := congrArg Prod.snd (m5 (60033, .arg 60033) List.mem_cons_self)
  have hA : ∀ j, ρ3.2.2.2.1 1761 j = if 64 = j then ρ.2.1 60033 else ρ.2.2.2.1 1761 j := fun j => ad_l (X := X) (p := 64) (t := .arg 60033) rfl (m6 _ List.mem_cons_self) j
  have hk : evk 64 (ρ.2.1 60033).toInt = true := by
    have h := m2.2 _ List.mem_cons_self
    rw [← y3]
    exact h
  have h0 : ρ.2.2.2.1 1761 60 = 0 := by
    have h := hA 60
    rw [if_neg (by decide)] at h
    rw [← h]
    exact of_decide_eq_true (m2.2 _ (List.mem_cons_of_mem _ List.mem_cons_self))
  have ea : ρ3.1 2848 = (sd X ρ (.op2 .ior (.arg 2848) (.int 1024))).1 := congrArg Prod.fst (m5 (2848, .op2 .ior (.arg 2848) (.int 1024)) (List.mem_cons_of_mem _ List.mem_cons_self))
  have eL : ρ3.1 60578 = ρ.1 60578 := (m4.1 60578 (by decide) (by decide)).1.trans (k4.1 60578 (by decide) (by decide)).1.symm
  have mo : sc X ρ3 (2, .op2 .iand (.op2 .iushr (.arg 2848) (.int 4)) (.int 1), .arg 60578) = false := by
    show decide (((ρ3.1 2848).toUInt32 >>> ((4 : Int32).toUInt32 &&& (31 : Int32).toUInt32)).toInt32 &&& 1 < ρ3.1 60578) = false
    rw [ea, eL]
    have q := tbv_ok (X := X) (ρ := ρ) (F := []) (a := .op2 .iand (.op2 .iushr (.op2 .ior (.arg 2848) (.int 1024)) (.int 4)) (.int 1)) (b := .op2 .iand (.op2 .iushr (.arg 2848) (.int 4)) (.int 1)) ⟨hF.1, fun f hf => by cases hf⟩ (by decide +kernel)
    rw [sv_int rfl, sv_int rfl] at q
    exact mn_e (Value.int.inj q) (of_decide_eq_true (hF.2 _ (List.mem_cons_of_mem _ (List.mem_cons_of_mem _ (List.mem_cons_of_mem _ (List.mem_cons_of_mem _ (List.mem_cons_of_mem _ (List.mem_cons_of_mem _ (List.mem_cons_of_mem _ (List.mem_cons_of_mem _ (List.mem_cons_self)))))))))))
  exact t_wE2 hv ρ3 m1 ⟨m2.1, fcn (ev_rw (g := ρ.2.2.2.1 1761) (m := 60) (p := 64) (hF.2 _ (List.mem_cons_of_mem _ (List.mem_cons_of_mem _ (List.mem_cons_of_mem _ (List.mem_cons_of_mem _ (List.mem_cons_of_mem _ (List.mem_cons_of_mem _ (List.mem_cons_self)))))))) (by decide) hk hA h0 (by decide +kernel)) (fcn (pd_up (X := X) (p := 64) (c := 1024) (z := [6914, 7426]) (hF.2 _ (List.mem_cons_of_mem _ (List.mem_cons_of_mem _ (List.mem_cons_of_mem _ (List.mem_cons_of_mem _ (List.mem_cons_of_mem _ (List.mem_cons_of_mem _ (List.mem_cons_of_mem _ (List.mem_cons_self))))))))) hA (fun x hx => m5 x (List.mem_cons_of_mem _ hx)) k4 m4 wm_2 wb_2 (by decide +kernel)) (fcn (mo) (fnl)))⟩ m3 m4)))
theorem t_wq64i {X : pX} {ρ0 : sR} (hv : vok X ρ0) : CUTOK X kR zWP c_wn2 8 ρ0 q_wq64i := fun ρ k1 hF hI k4 => by
  have b0 := rl_lf (x := ρ.2.1 60033) (y := 0) (hF.2 _ (List.mem_cons_of_mem _ (List.mem_cons_of_mem _ (List.mem_cons_self))))
  have b1 := rl_lf (x := 4294967295) (y := ρ.2.1 60033) (hF.2 _ (List.mem_cons_of_mem _ (List.mem_cons_of_mem _ (List.mem_cons_of_mem _ (List.mem_cons_self)))))
  have y0 : (0 : Int64).toInt = 0 := by decide +kernel
  have y1 : (4294967295 : Int64).toInt = 4294967295 := by decide +kernel
  rw [y0] at b0
  rw [y1] at b1
  by_cases h : evs 11 (ρ.2.1 60033).toInt = true
  · exact t_wq64ir1 hv ρ k1 ⟨hF.1, fcn (decide_eq_true (show ((1 : Int32)).toInt = (if evs 11 (ρ.2.1 60033).toInt = true then 1 else 0) by rw [if_pos h]; rfl)) (fcn (wn_129 (p := 64) (q := 64) rfl et_64 b0 b1 h) (hF.2))⟩ hI k4
  · exact t_wq64ir0 hv ρ k1 ⟨hF.1, fcn (decide_eq_true (show ((0 : Int32)).toInt = (if evs 11 (ρ.2.1 60033).toInt = true then 1 else 0) by rw [if_neg h]; rfl)) (hF.2)⟩ hI k4
theorem t_wq64 {X : pX} {ρ0 : sR} (hv : vok X ρ0) : CUTOK X kR zWP c_wn2 8 ρ0 q_wq64 := CUT_mono (t_wq64i hv) (fun ρ hF hI => by
  have b0 := rl_lf (x := ρ.2.1 60033) (y := 0) (hF.2 _ (List.mem_cons_of_mem _ (List.mem_cons_of_mem _ (List.mem_cons_self))))
  have b1 := rl_lf (x := 4294967295) (y := ρ.2.1 60033) (hF.2 _ (List.mem_cons_of_mem _ (List.mem_cons_of_mem _ (List.mem_cons_of_mem _ (List.mem_cons_self)))))
  have y0 : (0 : Int64).toInt = 0 := by decide +kernel
  have y1 : (4294967295 : Int64).toInt = 4294967295 := by decide +kernel
  rw [y0] at b0
  rw [y1] at b1
  exact ⟨hF, ik_c (fun hg => decide_eq_true (of_1 (x := ρ.2.2.2.1 1761 43) (of_decide_eq_false (hg _ List.mem_cons_self)))) (ik_c (fun hg => decide_eq_true (of_0 (x := ρ.2.2.2.1 1761 43) (of_decide_eq_true (hg _ List.mem_cons_self)))) (hI))⟩)
theorem e_wp64 : frun kR [] (cpl1 zWP (c_wp2 64) [q_wq64]) (cpl2 zWP (c_wp2 64) [q_wq64]) (cleaf kR zWP (c_wp2 64) [q_wq64]) 300 65536 (isatP ((c_wp2 64).2.2.2.1) (c_wp2 64).2.2.2.2.2.2.2.1) (c_wp2 64).2.2.2.2.2.2.2.1 (sin0 mt_all (c_wp2 64).1.1 8 (c_wp2 64).2.1.1 (foot zWP (c_wp2 64).2.2.1.1)) (sin0 mt_all (c_wp2 64).1.2.1 8 (c_wp2 64).2.1.2 (foot zWP (c_wp2 64).2.2.1.2)) = true := by decide +kernel
theorem s_wp64 {X : pX} : SREL X pF pdfl mt_all kR zWP (c_wp2 64) := SREL_QC kR_x kR_0 (Cs := []) (fun C hC => by cases hC) (d := 8) rfl (c_wp2_f 64) (Q := [q_wq64]) (fun ρ0 hv => fun q hq => by
    simp only [List.mem_cons, List.not_mem_nil, or_false] at hq
    rw [hq]; exact (t_wq64 hv : CUTOK X kR zWP c_wn2 8 ρ0 q_wq64)) (QC_run 300 e_wp64)
theorem et_66 : evt[66]? = some (0, 4294967295, 11) := by decide +kernel
noncomputable def zf98vd_33 : sQ × Bool := ((129, .int 66, .arg 60033), true)
noncomputable def zf98vd_34 : sQ × Bool := ((6, .elem (.arg 1761) (.int 65), .long 0), true)
noncomputable def q_wR66 : sCut := ((fr 0 10 53 [] [], [fr 0 5 23 [(4, .int 0)] [], fBot], 7), (fr 0 281 150 [] [], [fr 0 277 91 [(3, .int 0)] [], fBot], 7), [zf98vd_33, zf98vd_34], [zi98vd_2, zi98vd_3])
noncomputable def q_wq66 : sCut := ((fr 0 5 0 [(0, tr 57), (1, .int 66), (2, .arg 60033)] [], [fBot], 8), (fr 0 277 35 [(0, tr 219), (1, .arg 1308), (2, .int 66)] [], [fBot], 8), [zf98vd_4, zf98vd_5, zf98vd_6, zf98vd_7, zf98vd_8, zf98vd_9, zf98vd_10, zf98vd_11], [zi98vd_2, zi98vd_3])
noncomputable def zi98vd_35 : sFs × sQ × Bool := ([((6, .op2 .land (.elem (.arg 1761) (.int 47)) (.long 2147483648), .long 0), false)], (6, .op2 .land (.op2 .lshr (.elem (.arg 1761) (.int 47)) (.int 31)) (.long 1), .long 1), true)
noncomputable def zi98vd_36 : sFs × sQ × Bool := ([((6, .op2 .land (.elem (.arg 1761) (.int 47)) (.long 2147483648), .long 0), true)], (6, .op2 .land (.op2 .lshr (.elem (.arg 1761) (.int 47)) (.int 31)) (.long 1), .long 0), true)
noncomputable def q_wq66i : sCut := ((fr 0 5 0 [(0, tr 57), (1, .int 66), (2, .arg 60033)] [], [fBot], 8), (fr 0 277 35 [(0, tr 219), (1, .arg 1308), (2, .int 66)] [], [fBot], 8), [zf98vd_4, zf98vd_5, zf98vd_6, zf98vd_7, zf98vd_8, zf98vd_9, zf98vd_10, zf98vd_11], [zi98vd_35, zi98vd_36, zi98vd_2, zi98vd_3])
noncomputable def q_wq66ir0 : sCut := ((fr 0 5 0 [(0, tr 57), (1, .int 66), (2, .arg 60033)] [], [fBot], 8), (fr 0 277 35 [(0, tr 219), (1, .arg 1308), (2, .int 66)] [], [fBot], 8), [zf98vd_14, zf98vd_4, zf98vd_5, zf98vd_6, zf98vd_7, zf98vd_8, zf98vd_9, zf98vd_10, zf98vd_11], [zi98vd_35, zi98vd_36, zi98vd_2, zi98vd_3])
theorem k_wq66ir0 : cbody kR [(zWP, c_mp110)] (cpl1 zWP c_wn2 []) (cpl2 zWP c_wn2 []) (cleaf kR zWP c_wn2 []) 1500 true true q_wq66ir0.2.2.1 q_wq66ir0.2.2.2 (cst zWP c_wn2.2.2.1.1 q_wq66ir0.1) (cst zWP c_wn2.2.2.1.2 q_wq66ir0.2.1) = true := by decide +kernel
theorem t_wq66ir0 {X : pX} {ρ0 : sR} (hv : vok X ρ0) : CUTOK X kR zWP c_wn2 8 ρ0 q_wq66ir0 := CUT_run kR_x kR_0 (Cs := [(zWP, c_mp110)]) (fun C hC => by rw [List.mem_singleton.mp hC]; exact s_mp110) c_wn2_f (Q := []) hv (fun q hq => by cases hq) 1500 (b1 := true) (b2 := true) k_wq66ir0
noncomputable def q_wq66ir1 : sCut := ((fr 0 5 0 [(0, tr 57), (1, .int 66), (2, .arg 60033)] [], [fBot], 8), (fr 0 277 35 [(0, tr 219), (1, .arg 1308), (2, .int 66)] [], [fBot], 8), [zf98vd_15, zf98vd_33, zf98vd_4, zf98vd_5, zf98vd_6, zf98vd_7, zf98vd_8, zf98vd_9, zf98vd_10, zf98vd_11], [zi98vd_35, zi98vd_36, zi98vd_2, zi98vd_3])
noncomputable def w_wq66ir1 : List (sCut × List (Nat × sT) × List (Nat × sT × List (sT × sT))) := [(q_wR66, [(60033, .arg 60033), (2848, .op2 .ior (.arg 2848) (.int 2048)), (6850, .arg 6850), (6882, .arg 6882), (6914, .arg 6914), (6946, .int 0), (7362, .arg 7362), (7394, .arg 7394), (7426, .arg 7426), (7458, .int 0), (7874, .arg 7874), (7906, .arg 7906), (7938, .arg 7938), (7970, .arg 7970), (21216, .arg 21216), (21248, .arg 21248), (21280, .arg 21280), (21312, .arg 21312), (6466, .arg 6466), (6498, .arg 6498)], [(1761, .arg 1761, [(.int 66, .arg 60033)])])]
theorem k_wq66ir1 : cbody kR [(zWP, c_mp111)] (cpl1 zWP c_wn2 [q_wR66]) (cpl2 zWP c_wn2 [q_wR66]) (cleafB kR zWP c_wn2 w_wq66ir1) 1500 true true q_wq66ir1.2.2.1 q_wq66ir1.2.2.2 (cst zWP c_wn2.2.2.1.1 q_wq66ir1.1) (cst zWP c_wn2.2.2.1.2 q_wq66ir1.2.1) = true := by decide +kernel
theorem t_wq66ir1 {X : pX} {ρ0 : sR} (hv : vok X ρ0) : CUTOK X kR zWP c_wn2 8 ρ0 q_wq66ir1 := CUTOK_AT (fun ρ k1 hF hI k4 => AT_of (q := q_wq66ir1) rfl rfl (SEM_runB kR_x kR_0 (Cs := [(zWP, c_mp111)]) (fun C hC => by rw [List.mem_singleton.mp hC]; exact s_mp111) c_wn2_f (Q := w_wq66ir1) hv 1500 (b1 := true) (b2 := true) k_wq66ir1 k1 hF hI k4 (fun p hp ρ3 m1 m2 m3 m4 m5 m6 => by
  rw [List.mem_singleton.mp hp] at m2 m3 m5 m6 ⊢
  have y3 : ρ3.2.1 60033 = ρ.2.1 60033 := congrArg Prod.snd (m5 (60033, .arg 60033) List.mem_cons_self)
  have hA : ∀ j, ρ3.2.2.2.1 1761 j = if 66 = j then ρ.2.1 60033 else ρ.2.2.2.1 1761 j := fun j => ad_l (X := X) (p := 66) (t := .arg 60033) rfl (m6 _ List.mem_cons_self) j
  have hk : evk 66 (ρ.2.1 60033).toInt = true := by
    have h := m2.2 _ List.mem_cons_self
    rw [← y3]
    exact h
  have h0 : ρ.2.2.2.1 1761 65 = 0 := by
    have h := hA 65
    rw [if_neg (by decide)] at h
    rw [← h]
    exact of_decide_eq_true (m2.2 _ (List.mem_cons_of_mem _ List.mem_cons_self))
  have ea : ρ3.1 2848 = (sd X ρ (.op2 .ior (.arg 2848) (.int 2048))).1 := congrArg Prod.fst (m5 (2848, .op2 .ior (.arg 2848) (.int 2048)) (List.mem_cons_of_mem _ List.mem_cons_self))
  have eL : ρ3.1 60578 = ρ.1 60578 := (m4.1 60578 (by decide) (by decide)).1.trans (k4.1 60578 (by decide) (by decide)).1.symm
  have mo : sc X ρ3 (2, .op2 .iand (.op2 .iushr (.arg 2848) (.int 4)) (.int 1), .arg 60578) = false := by
    show decide (((ρ3.1 2848).toUInt32 >>> ((4 : Int32).toUInt32 &&& (31 : Int32).toUInt32)).toInt32 &&& 1 < ρ3.1 60578) = false
    rw [ea, eL]
    have q := tbv_ok (X := X) (ρ := ρ) (F := []) (a := .op2 .iand (.op2 .iushr (.op2 .ior (.arg 2848) (.int 2048)) (.int 4)) (.int 1)) (b := .op2 .iand (.op2 .iushr (.arg 2848) (.int 4)) (.int 1)) ⟨hF.1, fun f hf => by cases hf⟩ (by decide +kernel)
    rw [sv_int rfl, sv_int rfl] at q
    exact mn_e (Value.int.inj q) (of_decide_eq_true (hF.2 _ (List.mem_cons_of_mem _ (List.mem_cons_of_mem _ (List.mem_cons_of_mem _ (List.mem_cons_of_mem _ (List.mem_cons_of_mem _ (List.mem_cons_of_mem _ (List.mem_cons_of_mem _ (List.mem_cons_of_mem _ (List.mem_cons_self)))))))))))
  exact t_wE2 hv ρ3 m1 ⟨m2.1, fcn (ev_rw (g := ρ.2.2.2.1 1761) (m := 65) (p := 66) (hF.2 _ (List.mem_cons_of_mem _ (List.mem_cons_of_mem _ (List.mem_cons_of_mem _ (List.mem_cons_of_mem _ (List.mem_cons_of_mem _ (List.mem_cons_of_mem _ (List.mem_cons_self)))))))) (by decide) hk hA h0 (by decide +kernel)) (fcn (pd_up (X := X) (p := 66) (c := 2048) (z := [6946, 7458]) (hF.2 _ (List.mem_cons_of_mem _ (List.mem_cons_of_mem _ (List.mem_cons_of_mem _ (List.mem_cons_of_mem _ (List.mem_cons_of_mem _ (List.mem_cons_of_mem _ (List.mem_cons_of_mem _ (List.mem_cons_self))))))))) hA (fun x hx => m5 x (List.mem_cons_of_mem _ hx)) k4 m4 wm_2 wb_2 (by decide +kernel)) (fcn (mo) (fnl)))⟩ m3 m4)))
theorem t_wq66i {X : pX} {ρ0 : sR} (hv : vok X ρ0) : CUTOK X kR zWP c_wn2 8 ρ0 q_wq66i := fun ρ k1 hF hI k4 => by
  have b0 := rl_lf (x := ρ.2.1 60033) (y := 0) (hF.2 _ (List.mem_cons_of_mem _ (List.mem_cons_of_mem _ (List.mem_cons_self))))
  have b1 := rl_lf (x := 4294967295) (y := ρ.2.1 60033) (hF.2 _ (List.mem_cons_of_mem _ (List.mem_cons_of_mem _ (List.mem_cons_of_mem _ (List.mem_cons_self)))))
  have y0 : (0 : Int64).toInt = 0 := by decide +kernel
  have y1 : (4294967295 : Int64).toInt = 4294967295 := by decide +kernel
  rw [y0] at b0
  rw [y1] at b1
  by_cases h : evs 11 (ρ.2.1 60033).toInt = true
  · exact t_wq66ir1 hv ρ k1 ⟨hF.1, fcn (decide_eq_true (show ((1 : Int32)).toInt = (if evs 11 (ρ.2.1 60033).toInt = true then 1 else 0) by rw [if_pos h]; rfl)) (fcn (wn_129 (p := 66) (q := 66) rfl et_66 b0 b1 h) (hF.2))⟩ hI k4
  · exact t_wq66ir0 hv ρ k1 ⟨hF.1, fcn (decide_eq_true (show ((0 : Int32)).toInt = (if evs 11 (ρ.2.1 60033).toInt = true then 1 else 0) by rw [if_neg h]; rfl)) (hF.2)⟩ hI k4
theorem t_wq66 {X : pX} {ρ0 : sR} (hv : vok X ρ0) : CUTOK X kR zWP c_wn2 8 ρ0 q_wq66 := CUT_mono (t_wq66i hv) (fun ρ hF hI => by
  have b0 := rl_lf (x := ρ.2.1 60033) (y := 0) (hF.2 _ (List.mem_cons_of_mem _ (List.mem_cons_of_mem _ (List.mem_cons_self))))
  have b1 := rl_lf (x := 4294967295) (y := ρ.2.1 60033) (hF.2 _ (List.mem_cons_of_mem _ (List.mem_cons_of_mem _ (List.mem_cons_of_mem _ (List.mem_cons_self)))))
  have y0 : (0 : Int64).toInt = 0 := by decide +kernel
  have y1 : (4294967295 : Int64).toInt = 4294967295 := by decide +kernel
  rw [y0] at b0
  rw [y1] at b1
  exact ⟨hF, ik_c (fun hg => decide_eq_true (of_1 (x := ρ.2.2.2.1 1761 47) (of_decide_eq_false (hg _ List.mem_cons_self)))) (ik_c (fun hg => decide_eq_true (of_0 (x := ρ.2.2.2.1 1761 47) (of_decide_eq_true (hg _ List.mem_cons_self)))) (hI))⟩)
theorem e_wp66 : frun kR [] (cpl1 zWP (c_wp2 66) [q_wq66]) (cpl2 zWP (c_wp2 66) [q_wq66]) (cleaf kR zWP (c_wp2 66) [q_wq66]) 300 65536 (isatP ((c_wp2 66).2.2.2.1) (c_wp2 66).2.2.2.2.2.2.2.1) (c_wp2 66).2.2.2.2.2.2.2.1 (sin0 mt_all (c_wp2 66).1.1 8 (c_wp2 66).2.1.1 (foot zWP (c_wp2 66).2.2.1.1)) (sin0 mt_all (c_wp2 66).1.2.1 8 (c_wp2 66).2.1.2 (foot zWP (c_wp2 66).2.2.1.2)) = true := by decide +kernel
theorem s_wp66 {X : pX} : SREL X pF pdfl mt_all kR zWP (c_wp2 66) := SREL_QC kR_x kR_0 (Cs := []) (fun C hC => by cases hC) (d := 8) rfl (c_wp2_f 66) (Q := [q_wq66]) (fun ρ0 hv => fun q hq => by
    simp only [List.mem_cons, List.not_mem_nil, or_false] at hq
    rw [hq]; exact (t_wq66 hv : CUTOK X kR zWP c_wn2 8 ρ0 q_wq66)) (QC_run 300 e_wp66)
theorem et_67 : evt[67]? = some (0, 4294967295, 11) := by decide +kernel
noncomputable def zf98vd_37 : sQ × Bool := ((129, .int 67, .arg 60033), true)
noncomputable def q_wR67 : sCut := ((fr 0 10 53 [] [], [fr 0 5 23 [(4, .int 0)] [], fBot], 7), (fr 0 281 150 [] [], [fr 0 277 91 [(3, .int 0)] [], fBot], 7), [zf98vd_37, zf98vd_34], [zi98vd_2, zi98vd_3])
noncomputable def q_wq67 : sCut := ((fr 0 5 0 [(0, tr 57), (1, .int 67), (2, .arg 60033)] [], [fBot], 8), (fr 0 277 35 [(0, tr 219), (1, .arg 1308), (2, .int 67)] [], [fBot], 8), [zf98vd_4, zf98vd_5, zf98vd_6, zf98vd_7, zf98vd_8, zf98vd_9, zf98vd_10, zf98vd_11], [zi98vd_2, zi98vd_3])
noncomputable def q_wq67i : sCut := ((fr 0 5 0 [(0, tr 57), (1, .int 67), (2, .arg 60033)] [], [fBot], 8), (fr 0 277 35 [(0, tr 219), (1, .arg 1308), (2, .int 67)] [], [fBot], 8), [zf98vd_4, zf98vd_5, zf98vd_6, zf98vd_7, zf98vd_8, zf98vd_9, zf98vd_10, zf98vd_11], [zi98vd_35, zi98vd_36, zi98vd_2, zi98vd_3])
noncomputable def q_wq67ir0 : sCut := ((fr 0 5 0 [(0, tr 57), (1, .int 67), (2, .arg 60033)] [], [fBot], 8), (fr 0 277 35 [(0, tr 219), (1, .arg 1308), (2, .int 67)] [], [fBot], 8), [zf98vd_14, zf98vd_4, zf98vd_5, zf98vd_6, zf98vd_7, zf98vd_8, zf98vd_9, zf98vd_10, zf98vd_11], [zi98vd_35, zi98vd_36, zi98vd_2, zi98vd_3])
theorem k_wq67ir0 : cbody kR [(zWP, c_mp110)] (cpl1 zWP c_wn2 []) (cpl2 zWP c_wn2 []) (cleaf kR zWP c_wn2 []) 1500 true true q_wq67ir0.2.2.1 q_wq67ir0.2.2.2 (cst zWP c_wn2.2.2.1.1 q_wq67ir0.1) (cst zWP c_wn2.2.2.1.2 q_wq67ir0.2.1) = true := by decide +kernel
theorem t_wq67ir0 {X : pX} {ρ0 : sR} (hv : vok X ρ0) : CUTOK X kR zWP c_wn2 8 ρ0 q_wq67ir0 := CUT_run kR_x kR_0 (Cs := [(zWP, c_mp110)]) (fun C hC => by rw [List.mem_singleton.mp hC]; exact s_mp110) c_wn2_f (Q := []) hv (fun q hq => by cases hq) 1500 (b1 := true) (b2 := true) k_wq67ir0
noncomputable def q_wq67ir1 : sCut := ((fr 0 5 0 [(0, tr 57), (1, .int 67), (2, .arg 60033)] [], [fBot], 8), (fr 0 277 35 [(0, tr 219), (1, .arg 1308), (2, .int 67)] [], [fBot], 8), [zf98vd_15, zf98vd_37, zf98vd_4, zf98vd_5, zf98vd_6, zf98vd_7, zf98vd_8, zf98vd_9, zf98vd_10, zf98vd_11], [zi98vd_35, zi98vd_36, zi98vd_2, zi98vd_3])
noncomputable def w_wq67ir1 : List (sCut × List (Nat × sT) × List (Nat × sT × List (sT × sT))) := [(q_wR67, [(60033, .arg 60033), (2848, .op2 .ior (.arg 2848) (.int 2048)), (6850, .arg 6850), (6882, .arg 6882), (6914, .arg 6914), (6946, .int 0), (7362, .arg 7362), (7394, .arg 7394), (7426, .arg 7426), (7458, .int 0), (7874, .arg 7874), (7906, .arg 7906), (7938, .arg 7938), (7970, .arg 7970), (21216, .arg 21216), (21248, .arg 21248), (21280, .arg 21280), (21312, .arg 21312), (6466, .arg 6466), (6498, .arg 6498)], [(1761, .arg 1761, [(.int 67, .arg 60033)])])]
theorem k_wq67ir1 : cbody kR [(zWP, c_mp111)] (cpl1 zWP c_wn2 [q_wR67]) (cpl2 zWP c_wn2 [q_wR67]) (cleafB kR zWP c_wn2 w_wq67ir1) 1500 true true q_wq67ir1.2.2.1 q_wq67ir1.2.2.2 (cst zWP c_wn2.2.2.1.1 q_wq67ir1.1) (cst zWP c_wn2.2.2.1.2 q_wq67ir1.2.1) = true := by decide +kernel
theorem t_wq67ir1 {X : pX} {ρ0 : sR} (hv : vok X ρ0) : CUTOK X kR zWP c_wn2 8 ρ0 q_wq67ir1 := CUTOK_AT (fun ρ k1 hF hI k4 => AT_of (q := q_wq67ir1) rfl rfl (SEM_runB kR_x kR_0 (Cs := [(zWP, c_mp111)]) (fun C hC => by rw [List.mem_singleton.mp hC]; exact s_mp111) c_wn2_f (Q := w_wq67ir1) hv 1500 (b1 := true) (b2 := true) k_wq67ir1 k1 hF hI k4 (fun p hp ρ3 m1 m2 m3 m4 m5 m6 => by
  rw [List.mem_singleton.mp hp] at m2 m3 m5 m6 ⊢
  have y3 : ρ3.2.1 60033 = ρ.2.1 60033 := congrArg Prod.snd (m5 (60033, .arg 60033) List.mem_cons_self)
  have hA : ∀ j, ρ3.2.2.2.1 1761 j = if 67 = j then ρ.2.1 60033 else ρ.2.2.2.1 1761 j := fun j => ad_l (X := X) (p := 67) (t := .arg 60033) rfl (m6 _ List.mem_cons_self) j
  have hk : evk 67 (ρ.2.1 60033).toInt = true := by
    have h := m2.2 _ List.mem_cons_self
    rw [← y3]
    exact h
  have h0 : ρ.2.2.2.1 1761 65 = 0 := by
    have h := hA 65
    rw [if_neg (by decide)] at h
    rw [← h]
    exact of_decide_eq_true (m2.2 _ (List.mem_cons_of_mem _ List.mem_cons_self))
  have ea : ρ3.1 2848 = (sd X ρ (.op2 .ior (.arg 2848) (.int 2048))).1 := congrArg Prod.fst (m5 (2848, .op2 .ior (.arg 2848) (.int 2048)) (List.mem_cons_of_mem _ List.mem_cons_self))
  have eL : ρ3.1 60578 = ρ.1 60578 := (m4.1 60578 (by decide) (by decide)).1.trans (k4.1 60578 (by decide) (by decide)).1.symm
  have mo : sc X ρ3 (2, .op2 .iand (.op2 .iushr (.arg 2848) (.int 4)) (.int 1), .arg 60578) = false := by
    show decide (((ρ3.1 2848).toUInt32 >>> ((4 : Int32).toUInt32 &&& (31 : Int32).toUInt32)).toInt32 &&& 1 < ρ3.1 60578) = false
    rw [ea, eL]
    have q := tbv_ok (X := X) (ρ := ρ) (F := []) (a := .op2 .iand (.op2 .iushr (.op2 .ior (.arg 2848) (.int 2048)) (.int 4)) (.int 1)) (b := .op2 .iand (.op2 .iushr (.arg 2848) (.int 4)) (.int 1)) ⟨hF.1, fun f hf => by cases hf⟩ (by decide +kernel)
    rw [sv_int rfl, sv_int rfl] at q
    exact mn_e (Value.int.inj q) (of_decide_eq_true (hF.2 _ (List.mem_cons_of_mem _ (List.mem_cons_of_mem _ (List.mem_cons_of_mem _ (List.mem_cons_of_mem _ (List.mem_cons_of_mem _ (List.mem_cons_of_mem _ (List.mem_cons_of_mem _ (List.mem_cons_of_mem _ (List.mem_cons_self)))))))))))
  exact t_wE2 hv ρ3 m1 ⟨m2.1, fcn (ev_rw (g := ρ.2.2.2.1 1761) (m := 65) (p := 67) (hF.2 _ (List.mem_cons_of_mem _ (List.mem_cons_of_mem _ (List.mem_cons_of_mem _ (List.mem_cons_of_mem _ (List.mem_cons_of_mem _ (List.mem_cons_of_mem _ (List.mem_cons_self)))))))) (by decide) hk hA h0 (by decide +kernel)) (fcn (pd_up (X := X) (p := 67) (c := 2048) (z := [6946, 7458]) (hF.2 _ (List.mem_cons_of_mem _ (List.mem_cons_of_mem _ (List.mem_cons_of_mem _ (List.mem_cons_of_mem _ (List.mem_cons_of_mem _ (List.mem_cons_of_mem _ (List.mem_cons_of_mem _ (List.mem_cons_self))))))))) hA (fun x hx => m5 x (List.mem_cons_of_mem _ hx)) k4 m4 wm_2 wb_2 (by decide +kernel)) (fcn (mo) (fnl)))⟩ m3 m4)))
theorem t_wq67i {X : pX} {ρ0 : sR} (hv : vok X ρ0) : CUTOK X kR zWP c_wn2 8 ρ0 q_wq67i := fun ρ k1 hF hI k4 => by
  have b0 := rl_lf (x := ρ.2.1 60033) (y := 0) (hF.2 _ (List.mem_cons_of_mem _ (List.mem_cons_of_mem _ (List.mem_cons_self))))
  have b1 := rl_lf (x := 4294967295) (y := ρ.2.1 60033) (hF.2 _ (List.mem_cons_of_mem _ (List.mem_cons_of_mem _ (List.mem_cons_of_mem _ (List.mem_cons_self)))))
  have y0 : (0 : Int64).toInt = 0 := by decide +kernel
  have y1 : (4294967295 : Int64).toInt = 4294967295 := by decide +kernel
  rw [y0] at b0
  rw [y1] at b1
  by_cases h : evs 11 (ρ.2.1 60033).toInt = true
  · exact t_wq67ir1 hv ρ k1 ⟨hF.1, fcn (decide_eq_true (show ((1 : Int32)).toInt = (if evs 11 (ρ.2.1 60033).toInt = true then 1 else 0) by rw [if_pos h]; rfl)) (fcn (wn_129 (p := 67) (q := 67) rfl et_67 b0 b1 h) (hF.2))⟩ hI k4
  · exact t_wq67ir0 hv ρ k1 ⟨hF.1, fcn (decide_eq_true (show ((0 : Int32)).toInt = (if evs 11 (ρ.2.1 60033).toInt = true then 1 else 0) by rw [if_neg h]; rfl)) (hF.2)⟩ hI k4
theorem t_wq67 {X : pX} {ρ0 : sR} (hv : vok X ρ0) : CUTOK X kR zWP c_wn2 8 ρ0 q_wq67 := CUT_mono (t_wq67i hv) (fun ρ hF hI => by
  have b0 := rl_lf (x := ρ.2.1 60033) (y := 0) (hF.2 _ (List.mem_cons_of_mem _ (List.mem_cons_of_mem _ (List.mem_cons_self))))
  have b1 := rl_lf (x := 4294967295) (y := ρ.2.1 60033) (hF.2 _ (List.mem_cons_of_mem _ (List.mem_cons_of_mem _ (List.mem_cons_of_mem _ (List.mem_cons_self)))))
  have y0 : (0 : Int64).toInt = 0 := by decide +kernel
  have y1 : (4294967295 : Int64).toInt = 4294967295 := by decide +kernel
  rw [y0] at b0
  rw [y1] at b1
  exact ⟨hF, ik_c (fun hg => decide_eq_true (of_1 (x := ρ.2.2.2.1 1761 47) (of_decide_eq_false (hg _ List.mem_cons_self)))) (ik_c (fun hg => decide_eq_true (of_0 (x := ρ.2.2.2.1 1761 47) (of_decide_eq_true (hg _ List.mem_cons_self)))) (hI))⟩)
theorem e_wp67 : frun kR [] (cpl1 zWP (c_wp2 67) [q_wq67]) (cpl2 zWP (c_wp2 67) [q_wq67]) (cleaf kR zWP (c_wp2 67) [q_wq67]) 300 65536 (isatP ((c_wp2 67).2.2.2.1) (c_wp2 67).2.2.2.2.2.2.2.1) (c_wp2 67).2.2.2.2.2.2.2.1 (sin0 mt_all (c_wp2 67).1.1 8 (c_wp2 67).2.1.1 (foot zWP (c_wp2 67).2.2.1.1)) (sin0 mt_all (c_wp2 67).1.2.1 8 (c_wp2 67).2.1.2 (foot zWP (c_wp2 67).2.2.1.2)) = true := by decide +kernel
theorem s_wp67 {X : pX} : SREL X pF pdfl mt_all kR zWP (c_wp2 67) := SREL_QC kR_x kR_0 (Cs := []) (fun C hC => by cases hC) (d := 8) rfl (c_wp2_f 67) (Q := [q_wq67]) (fun ρ0 hv => fun q hq => by
    simp only [List.mem_cons, List.not_mem_nil, or_false] at hq
    rw [hq]; exact (t_wq67 hv : CUTOK X kR zWP c_wn2 8 ρ0 q_wq67)) (QC_run 300 e_wp67)
theorem et_68 : evt[68]? = some (0, 4294967295, 11) := by decide +kernel
noncomputable def zf98vd_38 : sQ × Bool := ((129, .int 68, .arg 60033), true)
noncomputable def q_wR68 : sCut := ((fr 0 10 53 [] [], [fr 0 5 23 [(4, .int 0)] [], fBot], 7), (fr 0 281 150 [] [], [fr 0 277 91 [(3, .int 0)] [], fBot], 7), [zf98vd_38, zf98vd_34], [zi98vd_2, zi98vd_3])
noncomputable def q_wq68 : sCut := ((fr 0 5 0 [(0, tr 57), (1, .int 68), (2, .arg 60033)] [], [fBot], 8), (fr 0 277 35 [(0, tr 219), (1, .arg 1308), (2, .int 68)] [], [fBot], 8), [zf98vd_4, zf98vd_5, zf98vd_6, zf98vd_7, zf98vd_8, zf98vd_9, zf98vd_10, zf98vd_11], [zi98vd_2, zi98vd_3])
noncomputable def q_wq68i : sCut := ((fr 0 5 0 [(0, tr 57), (1, .int 68), (2, .arg 60033)] [], [fBot], 8), (fr 0 277 35 [(0, tr 219), (1, .arg 1308), (2, .int 68)] [], [fBot], 8), [zf98vd_4, zf98vd_5, zf98vd_6, zf98vd_7, zf98vd_8, zf98vd_9, zf98vd_10, zf98vd_11], [zi98vd_35, zi98vd_36, zi98vd_2, zi98vd_3])
noncomputable def q_wq68ir0 : sCut := ((fr 0 5 0 [(0, tr 57), (1, .int 68), (2, .arg 60033)] [], [fBot], 8), (fr 0 277 35 [(0, tr 219), (1, .arg 1308), (2, .int 68)] [], [fBot], 8), [zf98vd_14, zf98vd_4, zf98vd_5, zf98vd_6, zf98vd_7, zf98vd_8, zf98vd_9, zf98vd_10, zf98vd_11], [zi98vd_35, zi98vd_36, zi98vd_2, zi98vd_3])
theorem k_wq68ir0 : cbody kR [(zWP, c_mp110)] (cpl1 zWP c_wn2 []) (cpl2 zWP c_wn2 []) (cleaf kR zWP c_wn2 []) 1500 true true q_wq68ir0.2.2.1 q_wq68ir0.2.2.2 (cst zWP c_wn2.2.2.1.1 q_wq68ir0.1) (cst zWP c_wn2.2.2.1.2 q_wq68ir0.2.1) = true := by decide +kernel
theorem t_wq68ir0 {X : pX} {ρ0 : sR} (hv : vok X ρ0) : CUTOK X kR zWP c_wn2 8 ρ0 q_wq68ir0 := CUT_run kR_x kR_0 (Cs := [(zWP, c_mp110)]) (fun C hC => by rw [List.mem_singleton.mp hC]; exact s_mp110) c_wn2_f (Q := []) hv (fun q hq => by cases hq) 1500 (b1 := true) (b2 := true) k_wq68ir0
noncomputable def q_wq68ir1 : sCut := ((fr 0 5 0 [(0, tr 57), (1, .int 68), (2, .arg 60033)] [], [fBot], 8), (fr 0 277 35 [(0, tr 219), (1, .arg 1308), (2, .int 68)] [], [fBot], 8), [zf98vd_15, zf98vd_38, zf98vd_4, zf98vd_5, zf98vd_6, zf98vd_7, zf98vd_8, zf98vd_9, zf98vd_10, zf98vd_11], [zi98vd_35, zi98vd_36, zi98vd_2, zi98vd_3])
noncomputable def w_wq68ir1 : List (sCut × List (Nat × sT) × List (Nat × sT × List (sT × sT))) := [(q_wR68, [(60033, .arg 60033), (2848, .op2 .ior (.arg 2848) (.int 2048)), (6850, .arg 6850), (6882, .arg 6882), (6914, .arg 6914), (6946, .int 0), (7362, .arg 7362), (7394, .arg 7394), (7426, .arg 7426), (7458, .int 0), (7874, .arg 7874), (7906, .arg 7906), (7938, .arg 7938), (7970, .arg 7970), (21216, .arg 21216), (21248, .arg 21248), (21280, .arg 21280), (21312, .arg 21312), (6466, .arg 6466), (6498, .arg 6498)], [(1761, .arg 1761, [(.int 68, .arg 60033)])])]
theorem k_wq68ir1 : cbody kR [(zWP, c_mp111)] (cpl1 zWP c_wn2 [q_wR68]) (cpl2 zWP c_wn2 [q_wR68]) (cleafB kR zWP c_wn2 w_wq68ir1) 1500 true true q_wq68ir1.2.2.1 q_wq68ir1.2.2.2 (cst zWP c_wn2.2.2.1.1 q_wq68ir1.1) (cst zWP c_wn2.2.2.1.2 q_wq68ir1.2.1) = true := by decide +kernel
theorem t_wq68ir1 {X : pX} {ρ0 : sR} (hv : vok X ρ0) : CUTOK X kR zWP c_wn2 8 ρ0 q_wq68ir1 := CUTOK_AT (fun ρ k1 hF hI k4 => AT_of (q := q_wq68ir1) rfl rfl (SEM_runB kR_x kR_0 (Cs := [(zWP, c_mp111)]) (fun C hC => by rw [List.mem_singleton.mp hC]; exact s_mp111) c_wn2_f (Q := w_wq68ir1) hv 1500 (b1 := true) (b2 := true) k_wq68ir1 k1 hF hI k4 (fun p hp ρ3 m1 m2 m3 m4 m5 m6 => by
  rw [List.mem_singleton.mp hp] at m2 m3 m5 m6 ⊢
  have y3 : ρ3.2.1 60033 = ρ.2.1 60033 := congrArg Prod.snd (m5 (60033, .arg 60033) List.mem_cons_self)
  have hA : ∀ j, ρ3.2.2.2.1 1761 j = if 68 = j then ρ.2.1 60033 else ρ.2.2.2.1 1761 j := fun j => ad_l (X := X) (p := 68) (t := .arg 60033) rfl (m6 _ List.mem_cons_self) j
  have hk : evk 68 (ρ.2.1 60033).toInt = true := by
    have h := m2.2 _ List.mem_cons_self
    rw [← y3]
    exact h
  have h0 : ρ.2.2.2.1 1761 65 = 0 := by
    have h := hA 65
    rw [if_neg (by decide)] at h
    rw [← h]
    exact of_decide_eq_true (m2.2 _ (List.mem_cons_of_mem _ List.mem_cons_self))
  have ea : ρ3.1 2848 = (sd X ρ (.op2 .ior (.arg 2848) (.int 2048))).1 := congrArg Prod.fst (m5 (2848, .op2 .ior (.arg 2848) (.int 2048)) (List.mem_cons_of_mem _ List.mem_cons_self))
  have eL : ρ3.1 60578 = ρ.1 60578 := (m4.1 60578 (by decide) (by decide)).1.trans (k4.1 60578 (by decide) (by decide)).1.symm
  have mo : sc X ρ3 (2, .op2 .iand (.op2 .iushr (.arg 2848) (.int 4)) (.int 1), .arg 60578) = false := by
    show decide (((ρ3.1 2848).toUInt32 >>> ((4 : Int32).toUInt32 &&& (31 : Int32).toUInt32)).toInt32 &&& 1 < ρ3.1 60578) = false
    rw [ea, eL]
    have q := tbv_ok (X := X) (ρ := ρ) (F := []) (a := .op2 .iand (.op2 .iushr (.op2 .ior (.arg 2848) (.int 2048)) (.int 4)) (.int 1)) (b := .op2 .iand (.op2 .iushr (.arg 2848) (.int 4)) (.int 1)) ⟨hF.1, fun f hf => by cases hf⟩ (by decide +kernel)
    rw [sv_int rfl, sv_int rfl] at q
    exact mn_e (Value.int.inj q) (of_decide_eq_true (hF.2 _ (List.mem_cons_of_mem _ (List.mem_cons_of_mem _ (List.mem_cons_of_mem _ (List.mem_cons_of_mem _ (List.mem_cons_of_mem _ (List.mem_cons_of_mem _ (List.mem_cons_of_mem _ (List.mem_cons_of_mem _ (List.mem_cons_self)))))))))))
  exact t_wE2 hv ρ3 m1 ⟨m2.1, fcn (ev_rw (g := ρ.2.2.2.1 1761) (m := 65) (p := 68) (hF.2 _ (List.mem_cons_of_mem _ (List.mem_cons_of_mem _ (List.mem_cons_of_mem _ (List.mem_cons_of_mem _ (List.mem_cons_of_mem _ (List.mem_cons_of_mem _ (List.mem_cons_self)))))))) (by decide) hk hA h0 (by decide +kernel)) (fcn (pd_up (X := X) (p := 68) (c := 2048) (z := [6946, 7458]) (hF.2 _ (List.mem_cons_of_mem _ (List.mem_cons_of_mem _ (List.mem_cons_of_mem _ (List.mem_cons_of_mem _ (List.mem_cons_of_mem _ (List.mem_cons_of_mem _ (List.mem_cons_of_mem _ (List.mem_cons_self))))))))) hA (fun x hx => m5 x (List.mem_cons_of_mem _ hx)) k4 m4 wm_2 wb_2 (by decide +kernel)) (fcn (mo) (fnl)))⟩ m3 m4)))
theorem t_wq68i {X : pX} {ρ0 : sR} (hv : vok X ρ0) : CUTOK X kR zWP c_wn2 8 ρ0 q_wq68i := fun ρ k1 hF hI k4 => by
  have b0 := rl_lf (x := ρ.2.1 60033) (y := 0) (hF.2 _ (List.mem_cons_of_mem _ (List.mem_cons_of_mem _ (List.mem_cons_self))))
  have b1 := rl_lf (x := 4294967295) (y := ρ.2.1 60033) (hF.2 _ (List.mem_cons_of_mem _ (List.mem_cons_of_mem _ (List.mem_cons_of_mem _ (List.mem_cons_self)))))
  have y0 : (0 : Int64).toInt = 0 := by decide +kernel
  have y1 : (4294967295 : Int64).toInt = 4294967295 := by decide +kernel
  rw [y0] at b0
  rw [y1] at b1
  by_cases h : evs 11 (ρ.2.1 60033).toInt = true
  · exact t_wq68ir1 hv ρ k1 ⟨hF.1, fcn (decide_eq_true (show ((1 : Int32)).toInt = (if evs 11 (ρ.2.1 60033).toInt = true then 1 else 0) by rw [if_pos h]; rfl)) (fcn (wn_129 (p := 68) (q := 68) rfl et_68 b0 b1 h) (hF.2))⟩ hI k4
  · exact t_wq68ir0 hv ρ k1 ⟨hF.1, fcn (decide_eq_true (show ((0 : Int32)).toInt = (if evs 11 (ρ.2.1 60033).toInt = true then 1 else 0) by rw [if_neg h]; rfl)) (hF.2)⟩ hI k4
theorem t_wq68 {X : pX} {ρ0 : sR} (hv : vok X ρ0) : CUTOK X kR zWP c_wn2 8 ρ0 q_wq68 := CUT_mono (t_wq68i hv) (fun ρ hF hI => by
  have b0 := rl_lf (x := ρ.2.1 60033) (y := 0) (hF.2 _ (List.mem_cons_of_mem _ (List.mem_cons_of_mem _ (List.mem_cons_self))))
  have b1 := rl_lf (x := 4294967295) (y := ρ.2.1 60033) (hF.2 _ (List.mem_cons_of_mem _ (List.mem_cons_of_mem _ (List.mem_cons_of_mem _ (List.mem_cons_self)))))
  have y0 : (0 : Int64).toInt = 0 := by decide +kernel
  have y1 : (4294967295 : Int64).toInt = 4294967295 := by decide +kernel
  rw [y0] at b0
  rw [y1] at b1
  exact ⟨hF, ik_c (fun hg => decide_eq_true (of_1 (x := ρ.2.2.2.1 1761 47) (of_decide_eq_false (hg _ List.mem_cons_self)))) (ik_c (fun hg => decide_eq_true (of_0 (x := ρ.2.2.2.1 1761 47) (of_decide_eq_true (hg _ List.mem_cons_self)))) (hI))⟩)
theorem e_wp68 : frun kR [] (cpl1 zWP (c_wp2 68) [q_wq68]) (cpl2 zWP (c_wp2 68) [q_wq68]) (cleaf kR zWP (c_wp2 68) [q_wq68]) 300 65536 (isatP ((c_wp2 68).2.2.2.1) (c_wp2 68).2.2.2.2.2.2.2.1) (c_wp2 68).2.2.2.2.2.2.2.1 (sin0 mt_all (c_wp2 68).1.1 8 (c_wp2 68).2.1.1 (foot zWP (c_wp2 68).2.2.1.1)) (sin0 mt_all (c_wp2 68).1.2.1 8 (c_wp2 68).2.1.2 (foot zWP (c_wp2 68).2.2.1.2)) = true := by decide +kernel
theorem s_wp68 {X : pX} : SREL X pF pdfl mt_all kR zWP (c_wp2 68) := SREL_QC kR_x kR_0 (Cs := []) (fun C hC => by cases hC) (d := 8) rfl (c_wp2_f 68) (Q := [q_wq68]) (fun ρ0 hv => fun q hq => by
    simp only [List.mem_cons, List.not_mem_nil, or_false] at hq
    rw [hq]; exact (t_wq68 hv : CUTOK X kR zWP c_wn2 8 ρ0 q_wq68)) (QC_run 300 e_wp68)
theorem et_69 : evt[69]? = some (0, 4294967295, 11) := by decide +kernel
noncomputable def zf98vd_39 : sQ × Bool := ((129, .int 69, .arg 60033), true)
noncomputable def q_wR69 : sCut := ((fr 0 10 53 [] [], [fr 0 5 23 [(4, .int 0)] [], fBot], 7), (fr 0 281 150 [] [], [fr 0 277 91 [(3, .int 0)] [], fBot], 7), [zf98vd_39, zf98vd_34], [zi98vd_2, zi98vd_3])
noncomputable def q_wq69 : sCut := ((fr 0 5 0 [(0, tr 57), (1, .int 69), (2, .arg 60033)] [], [fBot], 8), (fr 0 277 35 [(0, tr 219), (1, .arg 1308), (2, .int 69)] [], [fBot], 8), [zf98vd_4, zf98vd_5, zf98vd_6, zf98vd_7, zf98vd_8, zf98vd_9, zf98vd_10, zf98vd_11], [zi98vd_2, zi98vd_3])
noncomputable def q_wq69i : sCut := ((fr 0 5 0 [(0, tr 57), (1, .int 69), (2, .arg 60033)] [], [fBot], 8), (fr 0 277 35 [(0, tr 219), (1, .arg 1308), (2, .int 69)] [], [fBot], 8), [zf98vd_4, zf98vd_5, zf98vd_6, zf98vd_7, zf98vd_8, zf98vd_9, zf98vd_10, zf98vd_11], [zi98vd_35, zi98vd_36, zi98vd_2, zi98vd_3])
noncomputable def q_wq69ir0 : sCut := ((fr 0 5 0 [(0, tr 57), (1, .int 69), (2, .arg 60033)] [], [fBot], 8), (fr 0 277 35 [(0, tr 219), (1, .arg 1308), (2, .int 69)] [], [fBot], 8), [zf98vd_14, zf98vd_4, zf98vd_5, zf98vd_6, zf98vd_7, zf98vd_8, zf98vd_9, zf98vd_10, zf98vd_11], [zi98vd_35, zi98vd_36, zi98vd_2, zi98vd_3])
theorem k_wq69ir0 : cbody kR [(zWP, c_mp110)] (cpl1 zWP c_wn2 []) (cpl2 zWP c_wn2 []) (cleaf kR zWP c_wn2 []) 1500 true true q_wq69ir0.2.2.1 q_wq69ir0.2.2.2 (cst zWP c_wn2.2.2.1.1 q_wq69ir0.1) (cst zWP c_wn2.2.2.1.2 q_wq69ir0.2.1) = true := by decide +kernel
theorem t_wq69ir0 {X : pX} {ρ0 : sR} (hv : vok X ρ0) : CUTOK X kR zWP c_wn2 8 ρ0 q_wq69ir0 := CUT_run kR_x kR_0 (Cs := [(zWP, c_mp110)]) (fun C hC => by rw [List.mem_singleton.mp hC]; exact s_mp110) c_wn2_f (Q := []) hv (fun q hq => by cases hq) 1500 (b1 := true) (b2 := true) k_wq69ir0
noncomputable def q_wq69ir1 : sCut := ((fr 0 5 0 [(0, tr 57), (1, .int 69), (2, .arg 60033)] [], [fBot], 8), (fr 0 277 35 [(0, tr 219), (1, .arg 1308), (2, .int 69)] [], [fBot], 8), [zf98vd_15, zf98vd_39, zf98vd_4, zf98vd_5, zf98vd_6, zf98vd_7, zf98vd_8, zf98vd_9, zf98vd_10, zf98vd_11], [zi98vd_35, zi98vd_36, zi98vd_2, zi98vd_3])
noncomputable def w_wq69ir1 : List (sCut × List (Nat × sT) × List (Nat × sT × List (sT × sT))) := [(q_wR69, [(60033, .arg 60033), (2848, .op2 .ior (.arg 2848) (.int 2048)), (6850, .arg 6850), (6882, .arg 6882), (6914, .arg 6914), (6946, .int 0), (7362, .arg 7362), (7394, .arg 7394), (7426, .arg 7426), (7458, .int 0), (7874, .arg 7874), (7906, .arg 7906), (7938, .arg 7938), (7970, .arg 7970), (21216, .arg 21216), (21248, .arg 21248), (21280, .arg 21280), (21312, .arg 21312), (6466, .arg 6466), (6498, .arg 6498)], [(1761, .arg 1761, [(.int 69, .arg 60033)])])]
theorem k_wq69ir1 : cbody kR [(zWP, c_mp111)] (cpl1 zWP c_wn2 [q_wR69]) (cpl2 zWP c_wn2 [q_wR69]) (cleafB kR zWP c_wn2 w_wq69ir1) 1500 true true q_wq69ir1.2.2.1 q_wq69ir1.2.2.2 (cst zWP c_wn2.2.2.1.1 q_wq69ir1.1) (cst zWP c_wn2.2.2.1.2 q_wq69ir1.2.1) = true := by decide +kernel
theorem t_wq69ir1 {X : pX} {ρ0 : sR} (hv : vok X ρ0) : CUTOK X kR zWP c_wn2 8 ρ0 q_wq69ir1 := CUTOK_AT (fun ρ k1 hF hI k4 => AT_of (q := q_wq69ir1) rfl rfl (SEM_runB kR_x kR_0 (Cs := [(zWP, c_mp111)]) (fun C hC => by rw [List.mem_singleton.mp hC]; exact s_mp111) c_wn2_f (Q := w_wq69ir1) hv 1500 (b1 := true) (b2 := true) k_wq69ir1 k1 hF hI k4 (fun p hp ρ3 m1 m2 m3 m4 m5 m6 => by
  rw [List.mem_singleton.mp hp] at m2 m3 m5 m6 ⊢
  have y3 : ρ3.2.1 60033 = ρ.2.1 60033 := congrArg Prod.snd (m5 (60033, .arg 60033) List.mem_cons_self)
  have hA : ∀ j, ρ3.2.2.2.1 1761 j = if 69 = j then ρ.2.1 60033 else ρ.2.2.2.1 1761 j := fun j => ad_l (X := X) (p := 69) (t := .arg 60033) rfl (m6 _ List.mem_cons_self) j
  have hk : evk 69 (ρ.2.1 60033).toInt = true := by
    have h := m2.2 _ List.mem_cons_self
    rw [← y3]
    exact h
  have h0 : ρ.2.2.2.1 1761 65 = 0 := by
    have h := hA 65
    rw [if_neg (by decide)] at h
    rw [← h]
    exact of_decide_eq_true (m2.2 _ (List.mem_cons_of_mem _ List.mem_cons_self))
  have ea : ρ3.1 2848 = (sd X ρ (.op2 .ior (.arg 2848) (.int 2048))).1 := congrArg Prod.fst (m5 (2848, .op2 .ior (.arg 2848) (.int 2048)) (List.mem_cons_of_mem _ List.mem_cons_self))
  have eL : ρ3.1 60578 = ρ.1 60578 := (m4.1 60578 (by decide) (by decide)).1.trans (k4.1 60578 (by decide) (by decide)).1.symm
  have mo : sc X ρ3 (2, .op2 .iand (.op2 .iushr (.arg 2848) (.int 4)) (.int 1), .arg 60578) = false := by
    show decide (((ρ3.1 2848).toUInt32 >>> ((4 : Int32).toUInt32 &&& (31 : Int32).toUInt32)).toInt32 &&& 1 < ρ3.1 60578) = false
    rw [ea, eL]
    have q := tbv_ok (X := X) (ρ := ρ) (F := []) (a := .op2 .iand (.op2 .iushr (.op2 .ior (.arg 2848) (.int 2048)) (.int 4)) (.int 1)) (b := .op2 .iand (.op2 .iushr (.arg 2848) (.int 4)) (.int 1)) ⟨hF.1, fun f hf => by cases hf⟩ (by decide +kernel)
    rw [sv_int rfl, sv_int rfl] at q
    exact mn_e (Value.int.inj q) (of_decide_eq_true (hF.2 _ (List.mem_cons_of_mem _ (List.mem_cons_of_mem _ (List.mem_cons_of_mem _ (List.mem_cons_of_mem _ (List.mem_cons_of_mem _ (List.mem_cons_of_mem _ (List.mem_cons_of_mem _ (List.mem_cons_of_mem _ (List.mem_cons_self)))))))))))
  exact t_wE2 hv ρ3 m1 ⟨m2.1, fcn (ev_rw (g := ρ.2.2.2.1 1761) (m := 65) (p := 69) (hF.2 _ (List.mem_cons_of_mem _ (List.mem_cons_of_mem _ (List.mem_cons_of_mem _ (List.mem_cons_of_mem _ (List.mem_cons_of_mem _ (List.mem_cons_of_mem _ (List.mem_cons_self)))))))) (by decide) hk hA h0 (by decide +kernel)) (fcn (pd_up (X := X) (p := 69) (c := 2048) (z := [6946, 7458]) (hF.2 _ (List.mem_cons_of_mem _ (List.mem_cons_of_mem _ (List.mem_cons_of_mem _ (List.mem_cons_of_mem _ (List.mem_cons_of_mem _ (List.mem_cons_of_mem _ (List.mem_cons_of_mem _ (List.mem_cons_self))))))))) hA (fun x hx => m5 x (List.mem_cons_of_mem _ hx)) k4 m4 wm_2 wb_2 (by decide +kernel)) (fcn (mo) (fnl)))⟩ m3 m4)))
theorem t_wq69i {X : pX} {ρ0 : sR} (hv : vok X ρ0) : CUTOK X kR zWP c_wn2 8 ρ0 q_wq69i := fun ρ k1 hF hI k4 => by
  have b0 := rl_lf (x := ρ.2.1 60033) (y := 0) (hF.2 _ (List.mem_cons_of_mem _ (List.mem_cons_of_mem _ (List.mem_cons_self))))
  have b1 := rl_lf (x := 4294967295) (y := ρ.2.1 60033) (hF.2 _ (List.mem_cons_of_mem _ (List.mem_cons_of_mem _ (List.mem_cons_of_mem _ (List.mem_cons_self)))))
  have y0 : (0 : Int64).toInt = 0 := by decide +kernel
  have y1 : (4294967295 : Int64).toInt = 4294967295 := by decide +kernel
  rw [y0] at b0
  rw [y1] at b1
  by_cases h : evs 11 (ρ.2.1 60033).toInt = true
  · exact t_wq69ir1 hv ρ k1 ⟨hF.1, fcn (decide_eq_true (show ((1 : Int32)).toInt = (if evs 11 (ρ.2.1 60033).toInt = true then 1 else 0) by rw [if_pos h]; rfl)) (fcn (wn_129 (p := 69) (q := 69) rfl et_69 b0 b1 h) (hF.2))⟩ hI k4
  · exact t_wq69ir0 hv ρ k1 ⟨hF.1, fcn (decide_eq_true (show ((0 : Int32)).toInt = (if evs 11 (ρ.2.1 60033).toInt = true then 1 else 0) by rw [if_neg h]; rfl)) (hF.2)⟩ hI k4
theorem t_wq69 {X : pX} {ρ0 : sR} (hv : vok X ρ0) : CUTOK X kR zWP c_wn2 8 ρ0 q_wq69 := CUT_mono (t_wq69i hv) (fun ρ hF hI => by
  have b0 := rl_lf (x := ρ.2.1 60033) (y := 0) (hF.2 _ (List.mem_cons_of_mem _ (List.mem_cons_of_mem _ (List.mem_cons_self))))
  have b1 := rl_lf (x := 4294967295) (y := ρ.2.1 60033) (hF.2 _ (List.mem_cons_of_mem _ (List.mem_cons_of_mem _ (List.mem_cons_of_mem _ (List.mem_cons_self)))))
  have y0 : (0 : Int64).toInt = 0 := by decide +kernel
  have y1 : (4294967295 : Int64).toInt = 4294967295 := by decide +kernel
  rw [y0] at b0
  rw [y1] at b1
  exact ⟨hF, ik_c (fun hg => decide_eq_true (of_1 (x := ρ.2.2.2.1 1761 47) (of_decide_eq_false (hg _ List.mem_cons_self)))) (ik_c (fun hg => decide_eq_true (of_0 (x := ρ.2.2.2.1 1761 47) (of_decide_eq_true (hg _ List.mem_cons_self)))) (hI))⟩)
theorem e_wp69 : frun kR [] (cpl1 zWP (c_wp2 69) [q_wq69]) (cpl2 zWP (c_wp2 69) [q_wq69]) (cleaf kR zWP (c_wp2 69) [q_wq69]) 300 65536 (isatP ((c_wp2 69).2.2.2.1) (c_wp2 69).2.2.2.2.2.2.2.1) (c_wp2 69).2.2.2.2.2.2.2.1 (sin0 mt_all (c_wp2 69).1.1 8 (c_wp2 69).2.1.1 (foot zWP (c_wp2 69).2.2.1.1)) (sin0 mt_all (c_wp2 69).1.2.1 8 (c_wp2 69).2.1.2 (foot zWP (c_wp2 69).2.2.1.2)) = true := by decide +kernel
theorem s_wp69 {X : pX} : SREL X pF pdfl mt_all kR zWP (c_wp2 69) := SREL_QC kR_x kR_0 (Cs := []) (fun C hC => by cases hC) (d := 8) rfl (c_wp2_f 69) (Q := [q_wq69]) (fun ρ0 hv => fun q hq => by
    simp only [List.mem_cons, List.not_mem_nil, or_false] at hq
    rw [hq]; exact (t_wq69 hv : CUTOK X kR zWP c_wn2 8 ρ0 q_wq69)) (QC_run 300 e_wp69)
