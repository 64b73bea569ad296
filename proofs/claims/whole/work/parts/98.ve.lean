set_option maxRecDepth 20000
theorem et_91 : evt[91]? = some (0, 4294967295, 12) := by decide +kernel
noncomputable def zf98ve_0 : sQ × Bool := ((129, .int 91, .arg 60033), true)
noncomputable def zf98ve_1 : sQ × Bool := ((6, .elem (.arg 1761) (.int 90), .long 0), true)
noncomputable def zi98ve_2 : sFs × sQ × Bool := ([((0, .arg 1698, .int 0), false), ((0, .arg 1762, .int 0), true)], (0, .arg 8386, .int 1), true)
noncomputable def zi98ve_3 : sFs × sQ × Bool := ([((0, .arg 1698, .int 0), false), ((0, .arg 1762, .int 0), false)], (0, .arg 8386, .int 0), true)
noncomputable def q_wR91 : sCut := ((fr 0 10 53 [] [], [fr 0 5 23 [(4, .int 0)] [], fBot], 7), (fr 0 281 150 [] [], [fr 0 277 91 [(3, .int 0)] [], fBot], 7), [zf98ve_0, zf98ve_1], [zi98ve_2, zi98ve_3])
noncomputable def zf98ve_4 : sQ × Bool := ((0, .arg 19328, .int 4), true)
noncomputable def zf98ve_5 : sQ × Bool := ((6, .op2 .lor (.op2 .lor (.op2 .lor (.op2 .lor (.op2 .lshl (.op1 .i2l (.elem (.arg 2212) (.int 0))) (.int 0)) (.long 0)) (.op2 .lshl (.op1 .i2l (.elem (.arg 2212) (.int 1))) (.int 8))) (.op2 .lshl (.op1 .i2l (.elem (.arg 2212) (.int 2))) (.int 16))) (.op2 .lshl (.op1 .i2l (.elem (.arg 2212) (.int 3))) (.int 24)), .arg 60033), true)
noncomputable def zf98ve_6 : sQ × Bool := ((8, .arg 60033, .long 0), false)
noncomputable def zf98ve_7 : sQ × Bool := ((8, .long 4294967295, .arg 60033), false)
noncomputable def zf98ve_8 : sQ × Bool := ((101, .elem (.arg 1761) (.int 0), .int 0), true)
noncomputable def zf98ve_9 : sQ × Bool := ((137, .add (.elem (.arg 1761) (.int 0)) (.add (.arg 2848) (.add (.elem (.arg 24512) (.int 0)) (.add (.elem (.arg 2404) (.int 0)) (.add (.elem (.arg 24544) (.int 0)) (.add (.elem (.arg 2436) (.int 0)) (.add (.arg 5728) (.add (.arg 5760) (.add (.arg 5792) (.add (.arg 5824) (.add (.arg 5856) (.add (.arg 5888) (.add (.arg 5920) (.add (.arg 5952) (.add (.arg 2082) (.add (.arg 2114) (.add (.arg 2146) (.add (.arg 2178) (.add (.arg 6850) (.add (.arg 6882) (.add (.arg 6914) (.add (.arg 6946) (.add (.arg 2210) (.add (.arg 2242) (.add (.arg 2274) (.add (.arg 2306) (.add (.arg 7362) (.add (.arg 7394) (.add (.arg 7426) (.add (.arg 7458) (.add (.arg 2338) (.add (.arg 2370) (.add (.arg 2402) (.add (.arg 2434) (.add (.arg 7874) (.add (.arg 7906) (.add (.arg 7938) (.add (.arg 7970) (.add (.arg 6240) (.add (.arg 6272) (.add (.arg 6304) (.add (.arg 6336) (.add (.arg 21216) (.add (.arg 21248) (.add (.arg 21280) (.add (.arg 21312) (.add (.arg 1570) (.add (.arg 1602) (.add (.arg 6466) (.arg 6498))))))))))))))))))))))))))))))))))))))))))))))))), .int 0), true)
noncomputable def zf98ve_10 : sQ × Bool := ((0, .op2 .iand (.op2 .iushr (.arg 2848) (.int 4)) (.int 1), .arg 60578), true)
noncomputable def zf98ve_11 : sQ × Bool := ((2, .op2 .iand (.op2 .iushr (.arg 2848) (.int 4)) (.int 1), .arg 60578), false)
noncomputable def q_wq91 : sCut := ((fr 0 5 0 [(0, tr 57), (1, .int 91), (2, .arg 60033)] [], [fBot], 8), (fr 0 277 35 [(0, tr 219), (1, .arg 1308), (2, .int 91)] [], [fBot], 8), [zf98ve_4, zf98ve_5, zf98ve_6, zf98ve_7, zf98ve_8, zf98ve_9, zf98ve_10, zf98ve_11], [zi98ve_2, zi98ve_3])
noncomputable def zi98ve_12 : sFs × sQ × Bool := ([((6, .op2 .land (.elem (.arg 1761) (.int 71)) (.long 2147483648), .long 0), false)], (6, .op2 .land (.op2 .lshr (.elem (.arg 1761) (.int 71)) (.int 31)) (.long 1), .long 1), true)
noncomputable def zi98ve_13 : sFs × sQ × Bool := ([((6, .op2 .land (.elem (.arg 1761) (.int 71)) (.long 2147483648), .long 0), true)], (6, .op2 .land (.op2 .lshr (.elem (.arg 1761) (.int 71)) (.int 31)) (.long 1), .long 0), true)
noncomputable def q_wq91i : sCut := ((fr 0 5 0 [(0, tr 57), (1, .int 91), (2, .arg 60033)] [], [fBot], 8), (fr 0 277 35 [(0, tr 219), (1, .arg 1308), (2, .int 91)] [], [fBot], 8), [zf98ve_4, zf98ve_5, zf98ve_6, zf98ve_7, zf98ve_8, zf98ve_9, zf98ve_10, zf98ve_11], [zi98ve_12, zi98ve_13, zi98ve_2, zi98ve_3])
noncomputable def zf98ve_14 : sQ × Bool := ((131, .add (.int 12) (.arg 60033), .int 0), true)
noncomputable def q_wq91ir0 : sCut := ((fr 0 5 0 [(0, tr 57), (1, .int 91), (2, .arg 60033)] [], [fBot], 8), (fr 0 277 35 [(0, tr 219), (1, .arg 1308), (2, .int 91)] [], [fBot], 8), [zf98ve_14, zf98ve_4, zf98ve_5, zf98ve_6, zf98ve_7, zf98ve_8, zf98ve_9, zf98ve_10, zf98ve_11], [zi98ve_12, zi98ve_13, zi98ve_2, zi98ve_3])
theorem k_wq91ir0 : cbody kR [(zWP, c_mp120)] (cpl1 zWP c_wn2 []) (cpl2 zWP c_wn2 []) (cleaf kR zWP c_wn2 []) 1500 true true q_wq91ir0.2.2.1 q_wq91ir0.2.2.2 (cst zWP c_wn2.2.2.1.1 q_wq91ir0.1) (cst zWP c_wn2.2.2.1.2 q_wq91ir0.2.1) = true := by decide +kernel
theorem t_wq91ir0 {X : pX} {ρ0 : sR} (hv : vok X ρ0) : CUTOK X kR zWP c_wn2 8 ρ0 q_wq91ir0 := CUT_run kR_x kR_0 (Cs := [(zWP, c_mp120)]) (fun C hC => by rw [List.mem_singleton.mp hC]; exact s_mp120) c_wn2_f (Q := []) hv (fun q hq => by cases hq) 1500 (b1 := true) (b2 := true) k_wq91ir0
noncomputable def zf98ve_15 : sQ × Bool := ((131, .add (.int 12) (.arg 60033), .int 1), true)
noncomputable def q_wq91ir1 : sCut := ((fr 0 5 0 [(0, tr 57), (1, .int 91), (2, .arg 60033)] [], [fBot], 8), (fr 0 277 35 [(0, tr 219), (1, .arg 1308), (2, .int 91)] [], [fBot], 8), [zf98ve_15, zf98ve_0, zf98ve_4, zf98ve_5, zf98ve_6, zf98ve_7, zf98ve_8, zf98ve_9, zf98ve_10, zf98ve_11], [zi98ve_12, zi98ve_13, zi98ve_2, zi98ve_3])
noncomputable def w_wq91ir1 : List (sCut × List (Nat × sT) × List (Nat × sT × List (sT × sT))) := [(q_wR91, [(60033, .arg 60033), (2848, .op2 .ior (.arg 2848) (.int 4096)), (6850, .arg 6850), (6882, .arg 6882), (6914, .arg 6914), (6946, .arg 6946), (7362, .arg 7362), (7394, .arg 7394), (7426, .arg 7426), (7458, .arg 7458), (7874, .int 0), (7906, .arg 7906), (7938, .arg 7938), (7970, .arg 7970), (21216, .int 0), (21248, .arg 21248), (21280, .arg 21280), (21312, .arg 21312), (6466, .arg 6466), (6498, .arg 6498)], [(1761, .arg 1761, [(.int 91, .arg 60033)])])]
theorem k_wq91ir1 : cbody kR [(zWP, c_mp121)] (cpl1 zWP c_wn2 [q_wR91]) (cpl2 zWP c_wn2 [q_wR91]) (cleafB kR zWP c_wn2 w_wq91ir1) 1500 true true q_wq91ir1.2.2.1 q_wq91ir1.2.2.2 (cst zWP c_wn2.2.2.1.1 q_wq91ir1.1) (cst zWP c_wn2.2.2.1.2 q_wq91ir1.2.1) = true := by decide +kernel
theorem t_wq91ir1 {X : pX} {ρ0 : sR} (hv : vok X ρ0) : CUTOK X kR zWP c_wn2 8 ρ0 q_wq91ir1 := CUTOK_AT (fun ρ k1 hF hI k4 => AT_of (q := q_wq91ir1) rfl rfl (SEM_runB kR_x kR_0 (Cs := [(zWP, c_mp121)]) (fun C hC => by rw [List.mem_singleton.mp hC]; exact s_mp121) c_wn2_f (Q := w_wq91ir1) hv 1500 (b1 := true) (b2 := true) k_wq91ir1 k1 hF hI k4 (fun p hp ρ3 m1 m2 m3 m4 m5 m6 => by
  rw [List.mem_singleton.mp hp] at m2 m3 m5 m6 ⊢
  have y3 : ρ3.2.1 60033 = ρ.2.1 60033 := congrArg Prod.snd (m5 (60033, .arg 60033) List.mem_cons_self)
  have hA : ∀ j, ρ3.2.2.2.1 1761 j = if 91 = j then ρ.2.1 60033 else ρ.2.2.2.1 1761 j := fun j => ad_l (X := X) (p := 91) (t := .arg 60033) rfl (m6 _ List.mem_cons_self) j
  have hk : evk 91 (ρ.2.1 60033).toInt = true := by
    have h := m2.2 _ List.mem_cons_self
    rw [← y3]
    exact h
  have h0 : ρ.2.2.2.1 1761 90 = 0 := by
    have h := hA 90
    rw [if_neg (by decide)] at h
    rw [← h]
    exact of_decide_eq_true (m2.2 _ (List.mem_cons_of_mem _ List.mem_cons_self))
  have ea : ρ3.1 2848 = (sd X ρ (.op2 .ior (.arg 2848) (.int 4096))).1 := congrArg Prod.fst (m5 (2848, .op2 .ior (.arg 2848) (.int 4096)) (List.mem_cons_of_mem _ List.mem_cons_self))
  have eL : ρ3.1 60578 = ρ.1 60578 := (m4.1 60578 (by decide) (by decide)).1.trans (k4.1 60578 (by decide) (by decide)).1.symm
  have mo : sc X ρ3 (2, .op2 .iand (.op2 .iushr (.arg 2848) (.int 4)) (.int 1), .arg 60578) = false := by
    show decide (((ρ3.1 2848).toUInt32 >>> ((4 : Int32).toUInt32 &&& (31 : Int32).toUInt32)).toInt32 &&& 1 < ρ3.1 60578) = false
    rw [ea, eL]
    have q := tbv_ok (X := X) (ρ := ρ) (F := []) (a := .op2 .iand (.op2 .iushr (.op2 .ior (.arg 2848) (.int 4096)) (.int 4)) (.int 1)) (b := .op2 .iand (.op2 .iushr (.arg 2848) (.int 4)) (.int 1)) ⟨hF.1, fun f hf => by cases hf⟩ (by decide +kernel)
    rw [sv_int rfl, sv_int rfl] at q
    exact mn_e (Value.int.inj q) (of_decide_eq_true (hF.2 _ (List.mem_cons_of_mem _ (List.mem_cons_of_mem _ (List.mem_cons_of_mem _ (List.mem_cons_of_mem _ (List.mem_cons_of_mem _ (List.mem_cons_of_mem _ (List.mem_cons_of_mem _ (List.mem_cons_of_mem _ (List.mem_cons_self)))))))))))
  exact t_wE2 hv ρ3 m1 ⟨m2.1, fcn (ev_rw (g := ρ.2.2.2.1 1761) (m := 90) (p := 91) (hF.2 _ (List.mem_cons_of_mem _ (List.mem_cons_of_mem _ (List.mem_cons_of_mem _ (List.mem_cons_of_mem _ (List.mem_cons_of_mem _ (List.mem_cons_of_mem _ (List.mem_cons_self)))))))) (by decide) hk hA h0 (by decide +kernel)) (fcn (pd_up (X := X) (p := 91) (c := 4096) (z := [7874, 21216]) (hF.2 _ (List.mem_cons_of_mem _ (List.mem_cons_of_mem _ (List.mem_cons_of_mem _ (List.mem_cons_of_mem _ (List.mem_cons_of_mem _ (List.mem_cons_of_mem _ (List.mem_cons_of_mem _ (List.mem_cons_self))))))))) hA (fun x hx => m5 x (List.mem_cons_of_mem _ hx)) k4 m4 wm_2 wb_2 (by decide +kernel)) (fcn (mo) (fnl)))⟩ m3 m4)))
theorem t_wq91i {X : pX} {ρ0 : sR} (hv : vok X ρ0) : CUTOK X kR zWP c_wn2 8 ρ0 q_wq91i := fun ρ k1 hF hI k4 => by
  have b0 := rl_lf (x := ρ.2.1 60033) (y := 0) (hF.2 _ (List.mem_cons_of_mem _ (List.mem_cons_of_mem _ (List.mem_cons_self))))
  have b1 := rl_lf (x := 4294967295) (y := ρ.2.1 60033) (hF.2 _ (List.mem_cons_of_mem _ (List.mem_cons_of_mem _ (List.mem_cons_of_mem _ (List.mem_cons_self)))))
  have y0 : (0 : Int64).toInt = 0 := by decide +kernel
  have y1 : (4294967295 : Int64).toInt = 4294967295 := by decide +kernel
  rw [y0] at b0
  rw [y1] at b1
  by_cases h : evs 12 (ρ.2.1 60033).toInt = true
  · exact t_wq91ir1 hv ρ k1 ⟨hF.1, fcn (decide_eq_true (show ((1 : Int32)).toInt = (if evs 12 (ρ.2.1 60033).toInt = true then 1 else 0) by rw [if_pos h]; rfl)) (fcn (wn_129 (p := 91) (q := 91) rfl et_91 b0 b1 h) (hF.2))⟩ hI k4
  · exact t_wq91ir0 hv ρ k1 ⟨hF.1, fcn (decide_eq_true (show ((0 : Int32)).toInt = (if evs 12 (ρ.2.1 60033).toInt = true then 1 else 0) by rw [if_neg h]; rfl)) (hF.2)⟩ hI k4
theorem t_wq91 {X : pX} {ρ0 : sR} (hv : vok X ρ0) : CUTOK X kR zWP c_wn2 8 ρ0 q_wq91 := CUT_mono (t_wq91i hv) (fun ρ hF hI => by
  have b0 := rl_lf (x := ρ.2.1 60033) (y := 0) (hF.2 _ (List.mem_cons_of_mem _ (List.mem_cons_of_mem _ (List.mem_cons_self))))
  have b1 := rl_lf (x := 4294967295) (y := ρ.2.1 60033) (hF.2 _ (List.mem_cons_of_mem _ (List.mem_cons_of_mem _ (List.mem_cons_of_mem _ (List.mem_cons_self)))))
  have y0 : (0 : Int64).toInt = 0 := by decide +kernel
  have y1 : (4294967295 : Int64).toInt = 4294967295 := by decide +kernel
  rw [y0] at b0
  rw [y1] at b1
  exact ⟨hF, ik_c (fun hg => decide_eq_true (of_1 (x := ρ.2.2.2.1 1761 71) (of_decide_eq_false (hg _ List.mem_cons_self)))) (ik_c (fun hg => decide_eq_true (of_0 (x := ρ.2.2.2.1 1761 71) (of_decide_eq_true (hg _ List.mem_cons_self)))) (hI))⟩)
theorem e_wp91 : frun kR [] (cpl1 zWP (c_wp2 91) [q_wq91]) (cpl2 zWP (c_wp2 91) [q_wq91]) (cleaf kR zWP (c_wp2 91) [q_wq91]) 300 65536 (isatP ((c_wp2 91).2.2.2.1) (c_wp2 91).2.2.2.2.2.2.2.1) (c_wp2 91).2.2.2.2.2.2.2.1 (sin0 mt_all (c_wp2 91).1.1 8 (c_wp2 91).2.1.1 (foot zWP (c_wp2 91).2.2.1.1)) (sin0 mt_all (c_wp2 91).1.2.1 8 (c_wp2 91).2.1.2 (foot zWP (c_wp2 91).2.2.1.2)) = true := by decide +kernel
theorem s_wp91 {X : pX} : SREL X pF pdfl mt_all kR zWP (c_wp2 91) := SREL_QC kR_x kR_0 (Cs := []) (fun C hC => by cases hC) (d := 8) rfl (c_wp2_f 91) (Q := [q_wq91]) (fun ρ0 hv => fun q hq => by
    simp only [List.mem_cons, List.not_mem_nil, or_false] at hq
    rw [hq]; exact (t_wq91 hv : CUTOK X kR zWP c_wn2 8 ρ0 q_wq91)) (QC_run 300 e_wp91)
theorem et_92 : evt[92]? = some (0, 4294967295, 12) := by decide +kernel
noncomputable def zf98ve_16 : sQ × Bool := ((129, .int 92, .arg 60033), true)
noncomputable def q_wR92 : sCut := ((fr 0 10 53 [] [], [fr 0 5 23 [(4, .int 0)] [], fBot], 7), (fr 0 281 150 [] [], [fr 0 277 91 [(3, .int 0)] [], fBot], 7), [zf98ve_16, zf98ve_1], [zi98ve_2, zi98ve_3])
noncomputable def q_wq92 : sCut := ((fr 0 5 0 [(0, tr 57), (1, .int 92), (2, .arg 60033)] [], [fBot], 8), (fr 0 277 35 [(0, tr 219), (1, .arg 1308), (2, .int 92)] [], [fBot], 8), [zf98ve_4, zf98ve_5, zf98ve_6, zf98ve_7, zf98ve_8, zf98ve_9, zf98ve_10, zf98ve_11], [zi98ve_2, zi98ve_3])
noncomputable def q_wq92i : sCut := ((fr 0 5 0 [(0, tr 57), (1, .int 92), (2, .arg 60033)] [], [fBot], 8), (fr 0 277 35 [(0, tr 219), (1, .arg 1308), (2, .int 92)] [], [fBot], 8), [zf98ve_4, zf98ve_5, zf98ve_6, zf98ve_7, zf98ve_8, zf98ve_9, zf98ve_10, zf98ve_11], [zi98ve_12, zi98ve_13, zi98ve_2, zi98ve_3])
noncomputable def q_wq92ir0 : sCut := ((fr 0 5 0 [(0, tr 57), (1, .int 92), (2, .arg 60033)] [], [fBot], 8), (fr 0 277 35 [(0, tr 219), (1, .arg 1308), (2, .int 92)] [], [fBot], 8), [zf98ve_14, zf98ve_4, zf98ve_5, zf98ve_6, zf98ve_7, zf98ve_8, zf98ve_9, zf98ve_10, zf98ve_11], [zi98ve_12, zi98ve_13, zi98ve_2, zi98ve_3])
theorem k_wq92ir0 : cbody kR [(zWP, c_mp120)] (cpl1 zWP c_wn2 []) (cpl2 zWP c_wn2 []) (cleaf kR zWP c_wn2 []) 1500 true true q_wq92ir0.2.2.1 q_wq92ir0.2.2.2 (cst zWP c_wn2.2.2.1.1 q_wq92ir0.1) (cst zWP c_wn2.2.2.1.2 q_wq92ir0.2.1) = true := by decide +kernel
theorem t_wq92ir0 {X : pX} {ρ0 : sR} (hv : vok X ρ0) : CUTOK X kR zWP c_wn2 8 ρ0 q_wq92ir0 := CUT_run kR_x kR_0 (Cs := [(zWP, c_mp120)]) (fun C hC => by rw [List.mem_singleton.mp hC]; exact s_mp120) c_wn2_f (Q := []) hv (fun q hq => by cases hq) 1500 (b1 := true) (b2 := true) k_wq92ir0
noncomputable def q_wq92ir1 : sCut := ((fr 0 5 0 [(0, tr 57), (1, .int 92), (2, .arg 60033)] [], [fBot], 8), (fr 0 277 35 [(0, tr 219), (1, .arg 1308), (2, .int 92)] [], [fBot], 8), [zf98ve_15, zf98ve_16, zf98ve_4, zf98ve_5, zf98ve_6, zf98ve_7, zf98ve_8, zf98ve_9, zf98ve_10, zf98ve_11], [zi98ve_12, zi98ve_13, zi98ve_2, zi98ve_3])
noncomputable def w_wq92ir1 : List (sCut × List (Nat × sT) × List (Nat × sT × List (sT × sT))) := [(q_wR92, [(60033, .arg 60033), (2848, .op2 .ior (.arg 2848) (.int 4096)), (6850, .arg 6850), (6882, .arg 6882), (6914, .arg 6914), (6946, .arg 6946), (7362, .arg 7362), (7394, .arg 7394), (7426, .arg 7426), (7458, .arg 7458), (7874, .int 0), (7906, .arg 7906), (7938, .arg 7938), (7970, .arg 7970), (21216, .int 0), (21248, .arg 21248), (21280, .arg 21280), (21312, .arg 21312), (6466, .arg 6466), (6498, .arg 6498)], [(1761, .arg 1761, [(.int 92, .arg 60033)])])]
theorem k_wq92ir1 : cbody kR [(zWP, c_mp121)] (cpl1 zWP c_wn2 [q_wR92]) (cpl2 zWP c_wn2 [q_wR92]) (cleafB kR zWP c_wn2 w_wq92ir1) 1500 true true q_wq92ir1.2.2.1 q_wq92ir1.2.2.2 (cst zWP c_wn2.2.2.1.1 q_wq92ir1.1) (cst zWP c_wn2.2.2.1.2 q_wq92ir1.2.1) = true := by decide +kernel
theorem t_wq92ir1 {X : pX} {ρ0 : sR} (hv : vok X ρ0) : CUTOK X kR zWP c_wn2 8 ρ0 q_wq92ir1 := CUTOK_AT (fun ρ k1 hF hI k4 => AT_of (q := q_wq92ir1) rfl rfl (SEM_runB kR_x kR_0 (Cs := [(zWP, c_mp121)]) (fun C hC => by rw [List.mem_singleton.mp hC]; exact s_mp121) c_wn2_f (Q := w_wq92ir1) hv 1500 (b1 := true) (b2 := true) k_wq92ir1 k1 hF hI k4 (fun p hp ρ3 m1 m2 m3 m4 m5 m6 => by
  rw [List.mem_singleton.mp hp] at m2 m3 m5 m6 ⊢
  have y3 : ρ3.2.1 60033 = ρ.2.1 60033 := congrArg Prod.snd (m5 (60033, .arg 60033) List.mem_cons_self)
  have hA : ∀ j, ρ3.2.2.2.1 1761 j = if 92 = j then ρ.2.1 60033 else ρ.2.2.2.1 1761 j := fun j => ad_l (X := X) (p := 92) (t := .arg 60033) rfl (m6 _ List.mem_cons_self) j
  have hk : evk 92 (ρ.2.1 60033).toInt = true := by
    have h := m2.2 _ List.mem_cons_self
    rw [← y3]
    exact h
  have h0 : ρ.2.2.2.1 1761 90 = 0 := by
    have h := hA 90
    rw [if_neg (by decide)] at h
    rw [← h]
    exact of_decide_eq_true (m2.2 _ (List.mem_cons_of_mem _ List.mem_cons_self))
  have ea : ρ3.1 2848 = (sd X ρ (.op2 .ior (.arg 2848) (.int 4096))).1 := congrArg Prod.fst (m5 (2848, .op2 .ior (.arg 2848) (.int 4096)) (List.mem_cons_of_mem _ List.mem_cons_self))
  have eL : ρ3.1 60578 = ρ.1 60578 := (m4.1 60578 (by decide) (by decide)).1.trans (k4.1 60578 (by decide) (by decide)).1.symm
  have mo : sc X ρ3 (2, .op2 .iand (.op2 .iushr (.arg 2848) (.int 4)) (.int 1), .arg 60578) = false := by
    show decide (((ρ3.1 2848).toUInt32 >>> ((4 : Int32).toUInt32 &&& (31 : Int32).toUInt32)).toInt32 &&& 1 < ρ3.1 60578) = false
    rw [ea, eL]
    have q := tbv_ok (X := X) (ρ := ρ) (F := []) (a := .op2 .iand (.op2 .iushr (.op2 .ior (.arg 2848) (.int 4096)) (.int 4)) (.int 1)) (b := .op2 .iand (.op2 .iushr (.arg 2848) (.int 4)) (.int 1)) ⟨hF.1, fun f hf => by cases hf⟩ (by decide +kernel)
    rw [sv_int rfl, sv_int rfl] at q
    exact mn_e (Value.int.inj q) (of_decide_eq_true (hF.2 _ (List.mem_cons_of_mem _ (List.mem_cons_of_mem _ (List.mem_cons_of_mem _ (List.mem_cons_of_mem _ (List.mem_cons_of_mem _ (List.mem_cons_of_mem _ (List.mem_cons_of_mem _ (List.mem_cons_of_mem _ (List.mem_cons_self)))))))))))
  exact t_wE2 hv ρ3 m1 ⟨m2.1, fcn (ev_rw (g := ρ.2.2.2.1 1761) (m := 90) (p := 92) (hF.2 _ (List.mem_cons_of_mem _ (List.mem_cons_of_mem _ (List.mem_cons_of_mem _ (List.mem_cons_of_mem _ (List.mem_cons_of_mem _ (List.mem_cons_of_mem _ (List.mem_cons_self)))))))) (by decide) hk hA h0 (by decide +kernel)) (fcn (pd_up (X := X) (p := 92) (c := 4096) (z := [7874, 21216]) (hF.2 _ (List.mem_cons_of_mem _ (List.mem_cons_of_mem _ (List.mem_cons_of_mem _ (List.mem_cons_of_mem _ (List.mem_cons_of_mem _ (List.mem_cons_of_mem _ (List.mem_cons_of_mem _ (List.mem_cons_self))))))))) hA (fun x hx => m5 x (List.mem_cons_of_mem _ hx)) k4 m4 wm_2 wb_2 (by decide +kernel)) (fcn (mo) (fnl)))⟩ m3 m4)))
theorem t_wq92i {X : pX} {ρ0 : sR} (hv : vok X ρ0) : CUTOK X kR zWP c_wn2 8 ρ0 q_wq92i := fun ρ k1 hF hI k4 => by
  have b0 := rl_lf (x := ρ.2.1 60033) (y := 0) (hF.2 _ (List.mem_cons_of_mem _ (List.mem_cons_of_mem _ (List.mem_cons_self))))
  have b1 := rl_lf (x := 4294967295) (y := ρ.2.1 60033) (hF.2 _ (List.mem_cons_of_mem _ (List.mem_cons_of_mem _ (List.mem_cons_of_mem _ (List.mem_cons_self)))))
  have y0 : (0 : Int64).toInt = 0 := by decide +kernel
  have y1 : (4294967295 : Int64).toInt = 4294967295 := by decide +kernel
  rw [y0] at b0
  rw [y1] at b1
  by_cases h : evs 12 (ρ.2.1 60033).toInt = true
  · exact t_wq92ir1 hv ρ k1 ⟨hF.1, fcn (decide_eq_true (show ((1 : Int32)).toInt = (if evs 12 (ρ.2.1 60033).toInt = true then 1 else 0) by rw [if_pos h]; rfl)) (fcn (wn_129 (p := 92) (q := 92) rfl et_92 b0 b1 h) (hF.2))⟩ hI k4
  · exact t_wq92ir0 hv ρ k1 ⟨hF.1, fcn (decide_eq_true (show ((0 : Int32)).toInt = (if evs 12 (ρ.2.1 60033).toInt = true then 1 else 0) by rw [if_neg h]; rfl)) (hF.2)⟩ hI k4
theorem t_wq92 {X : pX} {ρ0 : sR} (hv : vok X ρ0) : CUTOK X kR zWP c_wn2 8 ρ0 q_wq92 := CUT_mono (t_wq92i hv) (fun ρ hF hI => by
  have b0 := rl_lf (x := ρ.2.1 60033) (y := 0) (hF.2 _ (List.mem_cons_of_mem _ (List.mem_cons_of_mem _ (List.mem_cons_self))))
  have b1 := rl_lf (x := 4294967295) (y := ρ.2.1 60033) (hF.2 _ (List.mem_cons_of_mem _ (List.mem_cons_of_mem _ (List.mem_cons_of_mem _ (List.mem_cons_self)))))
  have y0 : (0 : Int64).toInt = 0 := by decide +kernel
  have y1 : (4294967295 : Int64).toInt = 4294967295 := by decide +kernel
  rw [y0] at b0
  rw [y1] at b1
  exact ⟨hF, ik_c (fun hg => decide_eq_true (of_1 (x := ρ.2.2.2.1 1761 71) (of_decide_eq_false (hg _ List.mem_cons_self)))) (ik_c (fun hg => decide_eq_true (of_0 (x := ρ.2.2.2.1 1761 71) (of_decide_eq_true (hg _ List.mem_cons_self)))) (hI))⟩)
theorem e_wp92 : frun kR [] (cpl1 zWP (c_wp2 92) [q_wq92]) (cpl2 zWP (c_wp2 92) [q_wq92]) (cleaf kR zWP (c_wp2 92) [q_wq92]) 300 65536 (isatP ((c_wp2 92).2.2.2.1) (c_wp2 92).2.2.2.2.2.2.2.1) (c_wp2 92).2.2.2.2.2.2.2.1 (sin0 mt_all (c_wp2 92).1.1 8 (c_wp2 92).2.1.1 (foot zWP (c_wp2 92).2.2.1.1)) (sin0 mt_all (c_wp2 92).1.2.1 8 (c_wp2 92).2.1.2 (foot zWP (c_wp2 92).2.2.1.2)) = true := by decide +kernel
theorem s_wp92 {X : pX} : SREL X pF pdfl mt_all kR zWP (c_wp2 92) := SREL_QC kR_x kR_0 (Cs := []) (fun C hC => by cases hC) (d := 8) rfl (c_wp2_f 92) (Q := [q_wq92]) (fun ρ0 hv => fun q hq => by
    simp only [List.mem_cons, List.not_mem_nil, or_false] at hq
    rw [hq]; exact (t_wq92 hv : CUTOK X kR zWP c_wn2 8 ρ0 q_wq92)) (QC_run 300 e_wp92)
theorem et_93 : evt[93]? = some (0, 4294967295, 12) := by decide +kernel
noncomputable def zf98ve_17 : sQ × Bool := ((129, .int 93, .arg 60033), true)
noncomputable def q_wR93 : sCut := ((fr 0 10 53 [] [], [fr 0 5 23 [(4, .int 0)] [], fBot], 7), (fr 0 281 150 [] [], [fr 0 277 91 [(3, .int 0)] [], fBot], 7), [zf98ve_17, zf98ve_1], [zi98ve_2, zi98ve_3])
noncomputable def q_wq93 : sCut := ((fr 0 5 0 [(0, tr 57), (1, .int 93), (2, .arg 60033)] [], [fBot], 8), (fr 0 277 35 [(0, tr 219), (1, .arg 1308), (2, .int 93)] [], [fBot], 8), [zf98ve_4, zf98ve_5, zf98ve_6, zf98ve_7, zf98ve_8, zf98ve_9, zf98ve_10, zf98ve_11], [zi98ve_2, zi98ve_3])
noncomputable def q_wq93i : sCut := ((fr 0 5 0 [(0, tr 57), (1, .int 93), (2, .arg 60033)] [], [fBot], 8), (fr 0 277 35 [(0, tr 219), (1, .arg 1308), (2, .int 93)] [], [fBot], 8), [zf98ve_4, zf98ve_5, zf98ve_6, zf98ve_7, zf98ve_8, zf98ve_9, zf98ve_10, zf98ve_11], [zi98ve_12, zi98ve_13, zi98ve_2, zi98ve_3])
noncomputable def q_wq93ir0 : sCut := ((fr 0 5 0 [(0, tr 57), (1, .int 93), (2, .arg 60033)] [], [fBot], 8), (fr 0 277 35 [(0, tr 219), (1, .arg 1308), (2, .int 93)] [], [fBot], 8), [zf98ve_14, zf98ve_4, zf98ve_5, zf98ve_6, zf98ve_7, zf98ve_8, zf98ve_9, zf98ve_10, zf98ve_11], [zi98ve_12, zi98ve_13, zi98ve_2, zi98ve_3])
theorem k_wq93ir0 : cbody kR [(zWP, c_mp120)] (cpl1 zWP c_wn2 []) (cpl2 zWP c_wn2 []) (cleaf kR zWP c_wn2 []) 1500 true true q_wq93ir0.2.2.1 q_wq93ir0.2.2.2 (cst zWP c_wn2.2.2.1.1 q_wq93ir0.1) (cst zWP c_wn2.2.2.1.2 q_wq93ir0.2.1) = true := by decide +kernel
theorem t_wq93ir0 {X : pX} {ρ0 : sR} (hv : vok X ρ0) : CUTOK X kR zWP c_wn2 8 ρ0 q_wq93ir0 := CUT_run kR_x kR_0 (Cs := [(zWP, c_mp120)]) (fun C hC => by rw [List.mem_singleton.mp hC]; exact s_mp120) c_wn2_f (Q := []) hv (fun q hq => by cases hq) 1500 (b1 := true) (b2 := true) k_wq93ir0
noncomputable def q_wq93ir1 : sCut := ((fr 0 5 0 [(0, tr 57), (1, .int 93), (2, .arg 60033)] [], [fBot], 8), (fr 0 277 35 [(0, tr 219), (1, .arg 1308), (2, .int 93)] [], [fBot], 8), [zf98ve_15, zf98ve_17, zf98ve_4, zf98ve_5, zf98ve_6, zf98ve_7, zf98ve_8, zf98ve_9, zf98ve_10, zf98ve_11], [zi98ve_12, zi98ve_13, zi98ve_2, zi98ve_3])
noncomputable def w_wq93ir1 : List (sCut × List (Nat × sT) × List (Nat × sT × List (sT × sT))) := [(q_wR93, [(60033, .arg 60033), (2848, .op2 .ior (.arg 2848) (.int 4096)), (6850, .arg 6850), (6882, .arg 6882), (6914, .arg 6914), (6946, .arg 6946), (7362, .arg 7362), (7394, .arg 7394), (7426, .arg 7426), (7458, .arg 7458), (7874, .int 0), (7906, .arg 7906), (7938, .arg 7938), (7970, .arg 7970), (21216, .int 0), (21248, .arg 21248), (21280, .arg 21280), (21312, .arg 21312), (6466, .arg 6466), (6498, .arg 6498)], [(1761, .arg 1761, [(.int 93, .arg 60033)])])]
theorem k_wq93ir1 : cbody kR [(zWP, c_mp121)] (cpl1 zWP c_wn2 [q_wR93]) (cpl2 zWP c_wn2 [q_wR93]) (cleafB kR zWP c_wn2 w_wq93ir1) 1500 true true q_wq93ir1.2.2.1 q_wq93ir1.2.2.2 (cst zWP c_wn2.2.2.1.1 q_wq93ir1.1) (cst zWP c_wn2.2.2.1.2 q_wq93ir1.2.1) = true := by decide +kernel
theorem t_wq93ir1 {X : pX} {ρ0 : sR} (hv : vok X ρ0) : CUTOK X kR zWP c_wn2 8 ρ0 q_wq93ir1 := CUTOK_AT (fun ρ k1 hF hI k4 => AT_of (q := q_wq93ir1) rfl rfl (SEM_runB kR_x kR_0 (Cs := [(zWP, c_mp121)]) (fun C hC => by rw [List.mem_singleton.mp hC]; exact s_mp121) c_wn2_f (Q := w_wq93ir1) hv 1500 (b1 := true) (b2 := true) k_wq93ir1 k1 hF hI k4 (fun p hp ρ3 m1 m2 m3 m4 m5 m6 => by
  rw [List.mem_singleton.mp hp] at m2 m3 m5 m6 ⊢
  have y3 : ρ3.2.1 60033 = ρ.2.1 60033 := congrArg Prod.snd (m5 (60033, .arg 60033) List.mem_cons_self)
  have hA : ∀ j, ρ3.2.2.2.1 1761 j = if 93 = j then ρ.2.1 60033 else ρ.2.2.2.1 1761 j := fun j => ad_l (X := X) (p := 93) (t := .arg 60033) rfl (m6 _ List.mem_cons_self) j
  have hk : evk 93 (ρ.2.1 60033).toInt = true := by
    have h := m2.2 _ List.mem_cons_self
    rw [← y3]
    exact h
  have h0 : ρ.2.2.2.1 1761 90 = 0 := by
    have h := hA 90
    rw [if_neg (by decide)] at h
    rw [← h]
    exact of_decide_eq_true (m2.2 _ (List.mem_cons_of_mem _ List.mem_cons_self))
  have ea : ρ3.1 2848 = (sd X ρ (.op2 .ior (.arg 2848) (.int 4096))).1 := congrArg Prod.fst (m5 (2848, .op2 .ior (.arg 2848) (.int 4096)) (List.mem_cons_of_mem _ List.mem_cons_self))
  have eL : ρ3.1 60578 = ρ.1 60578 := (m4.1 60578 (by decide) (by decide)).1.trans (k4.1 60578 (by decide) (by decide)).1.symm
  have mo : sc X ρ3 (2, .op2 .iand (.op2 .iushr (.arg 2848) (.int 4)) (.int 1), .arg 60578) = false := by
    show decide (((ρ3.1 2848).toUInt32 >>> ((4 : Int32).toUInt32 &&& (31 : Int32).toUInt32)).toInt32 &&& 1 < ρ3.1 60578) = false
    rw [ea, eL]
    have q := tbv_ok (X := X) (ρ := ρ) (F := []) (a := .op2 .iand (.op2 .iushr (.op2 .ior (.arg 2848) (.int 4096)) (.int 4)) (.int 1)) (b := .op2 .iand (.op2 .iushr (.arg 2848) (.int 4)) (.int 1)) ⟨hF.1, fun f hf => by cases hf⟩ (by decide +kernel)
    rw [sv_int rfl, sv_int rfl] at q
    exact mn_e (Value.int.inj q) (of_decide_eq_true (hF.2 _ (List.mem_cons_of_mem _ (List.mem_cons_of_mem _ (List.mem_cons_of_mem _ (List.mem_cons_of_mem _ (List.mem_cons_of_mem _ (List.mem_cons_of_mem _ (List.mem_cons_of_mem _ (List.mem_cons_of_mem _ (List.mem_cons_self)))))))))))
  exact t_wE2 hv ρ3 m1 ⟨m2.1, fcn (ev_rw (g := ρ.2.2.2.1 1761) (m := 90) (p := 93) (hF.2 _ (List.mem_cons_of_mem _ (List.mem_cons_of_mem _ (List.mem_cons_of_mem _ (List.mem_cons_of_mem _ (List.mem_cons_of_mem _ (List.mem_cons_of_mem _ (List.mem_cons_self)))))))) (by decide) hk hA h0 (by decide +kernel)) (fcn (pd_up (X := X) (p := 93) (c := 4096) (z := [7874, 21216]) (hF.2 _ (List.mem_cons_of_mem _ (List.mem_cons_of_mem _ (List.mem_cons_of_mem _ (List.mem_cons_of_mem _ (List.mem_cons_of_mem _ (List.mem_cons_of_mem _ (List.mem_cons_of_mem _ (List.mem_cons_self))))))))) hA (fun x hx => m5 x (List.mem_cons_of_mem _ hx)) k4 m4 wm_2 wb_2 (by decide +kernel)) (fcn (mo) (fnl)))⟩ m3 m4)))
theorem t_wq93i {X : pX} {ρ0 : sR} (hv : vok X ρ0) : CUTOK X kR zWP c_wn2 8 ρ0 q_wq93i := fun ρ k1 hF hI k4 => by
  have b0 := rl_lf (x := ρ.2.1 60033) (y := 0) (hF.2 _ (List.mem_cons_of_mem _ (List.mem_cons_of_mem _ (List.mem_cons_self))))
  have b1 := rl_lf (x := 4294967295) (y := ρ.2.1 60033) (hF.2 _ (List.mem_cons_of_mem _ (List.mem_cons_of_mem _ (List.mem_cons_of_mem _ (List.mem_cons_self)))))
  have y0 : (0 : Int64).toInt = 0 := by decide +kernel
  have y1 : (4294967295 : Int64).toInt = 4294967295 := by decide +kernel
  rw [y0] at b0
  rw [y1] at b1
  by_cases h : evs 12 (ρ.2.1 60033).toInt = true
  · exact t_wq93ir1 hv ρ k1 ⟨hF.1, fcn (decide_eq_true (show ((1 : Int32)).toInt = (if evs 12 (ρ.2.1 60033).toInt = true then 1 else 0) by rw [if_pos h]; rfl)) (fcn (wn_129 (p := 93) (q := 93) rfl et_93 b0 b1 h) (hF.2))⟩ hI k4
  · exact t_wq93ir0 hv ρ k1 ⟨hF.1, fcn (decide_eq_true (show ((0 : Int32)).toInt = (if evs 12 (ρ.2.1 60033).toInt = true then 1 else 0) by rw [if_neg h]; rfl)) (hF.2)⟩ hI k4
theorem t_wq93 {X : pX} {ρ0 : sR} (hv : vok X ρ0) : CUTOK X kR zWP c_wn2 8 ρ0 q_wq93 := CUT_mono (t_wq93i hv) (fun ρ hF hI => by
  have b0 := rl_lf (x := ρ.2.1 60033) (y := 0) (hF.2 _ (List.mem_cons_of_mem _ (List.mem_cons_of_mem _ (List.mem_cons_self))))
  have b1 := rl_lf (x := 4294967295) (y := ρ.2.1 60033) (hF.2 _ (List.mem_cons_of_mem _ (List.mem_cons_of_mem _ (List.mem_cons_of_mem _ (List.mem_cons_self)))))
  have y0 : (0 : Int64).toInt = 0 := by decide +kernel
  have y1 : (4294967295 : Int64).toInt = 4294967295 := by decide +kernel
  rw [y0] at b0
  rw [y1] at b1
  exact ⟨hF, ik_c (fun hg => decide_eq_true (of_1 (x := ρ.2.2.2.1 1761 71) (of_decide_eq_false (hg _ List.mem_cons_self)))) (ik_c (fun hg => decide_eq_true (of_0 (x := ρ.2.2.2.1 1761 71) (of_decide_eq_true (hg _ List.mem_cons_self)))) (hI))⟩)
theorem e_wp93 : frun kR [] (cpl1 zWP (c_wp2 93) [q_wq93]) (cpl2 zWP (c_wp2 93) [q_wq93]) (cleaf kR zWP (c_wp2 93) [q_wq93]) 300 65536 (isatP ((c_wp2 93).2.2.2.1) (c_wp2 93).2.2.2.2.2.2.2.1) (c_wp2 93).2.2.2.2.2.2.2.1 (sin0 mt_all (c_wp2 93).1.1 8 (c_wp2 93).2.1.1 (foot zWP (c_wp2 93).2.2.1.1)) (sin0 mt_all (c_wp2 93).1.2.1 8 (c_wp2 93).2.1.2 (foot zWP (c_wp2 93).2.2.1.2)) = true := by decide +kernel
theorem s_wp93 {X : pX} : SREL X pF pdfl mt_all kR zWP (c_wp2 93) := SREL_QC kR_x kR_0 (Cs := []) (fun C hC => by cases hC) (d := 8) rfl (c_wp2_f 93) (Q := [q_wq93]) (fun ρ0 hv => fun q hq => by
    simp only [List.mem_cons, List.not_mem_nil, or_false] at hq
    rw [hq]; exact (t_wq93 hv : CUTOK X kR zWP c_wn2 8 ρ0 q_wq93)) (QC_run 300 e_wp93)
theorem et_94 : evt[94]? = some (0, 4294967295, 12) := by decide +kernel
noncomputable def zf98ve_18 : sQ × Bool := ((129, .int 94, .arg 60033), true)
noncomputable def q_wR94 : sCut := ((fr 0 10 53 [] [], [fr 0 5 23 [(4, .int 0)] [], fBot], 7), (fr 0 281 150 [] [], [fr 0 277 91 [(3, .int 0)] [], fBot], 7), [zf98ve_18, zf98ve_1], [zi98ve_2, zi98ve_3])
noncomputable def q_wq94 : sCut := ((fr 0 5 0 [(0, tr 57), (1, .int 94), (2, .arg 60033)] [], [fBot], 8), (fr 0 277 35 [(0, tr 219), (1, .arg 1308), (2, .int 94)] [], [fBot], 8), [zf98ve_4, zf98ve_5, zf98ve_6, zf98ve_7, zf98ve_8, zf98ve_9, zf98ve_10, zf98ve_11], [zi98ve_2, zi98ve_3])
noncomputable def q_wq94i : sCut := ((fr 0 5 0 [(0, tr 57), (1, .int 94), (2, .arg 60033)] [], [fBot], 8), (fr 0 277 35 [(0, tr 219), (1, .arg 1308), (2, .int 94)] [], [fBot], 8), [zf98ve_4, zf98ve_5, zf98ve_6, zf98ve_7, zf98ve_8, zf98ve_9, zf98ve_10, zf98ve_11], [zi98ve_12, zi98ve_13, zi98ve_2, zi98ve_3])
noncomputable def q_wq94ir0 : sCut := ((fr 0 5 0 [(0, tr 57), (1, .int 94), (2, .arg 60033)] [], [fBot], 8), (fr 0 277 35 [(0, tr 219), (1, .arg 1308), (2, .int 94)] [], [fBot], 8), [zf98ve_14, zf98ve_4, zf98ve_5, zf98ve_6, zf98ve_7, zf98ve_8, zf98ve_9, zf98ve_10, zf98ve_11], [zi98ve_12, zi98ve_13, zi98ve_2, zi98ve_3])
theorem k_wq94ir0 : cbody kR [(zWP, c_mp120)] (cpl1 zWP c_wn2 []) (cpl2 zWP c_wn2 []) (cleaf kR zWP c_wn2 []) 1500 true true q_wq94ir0.2.2.1 q_wq94ir0.2.2.2 (cst zWP c_wn2.2.2.1.1 q_wq94ir0.1) (cst zWP c_wn2.2.2.1.2 q_wq94ir0.2.1) = true := by decide +kernel
theorem t_wq94ir0 {X : pX} {ρ0 : sR} (hv : vok X ρ0) : CUTOK X kR zWP c_wn2 8 ρ0 q_wq94ir0 := CUT_run kR_x kR_0 (Cs := [(zWP, c_mp120)]) (fun C hC => by rw [List.mem_singleton.mp hC]; exact s_mp120) c_wn2_f (Q := []) hv (fun q hq => by cases hq) 1500 (b1 := true) (b2 := true) k_wq94ir0
noncomputable def q_wq94ir1 : sCut := ((fr 0 5 0 [(0, tr 57), (1, .int 94), (2, .arg 60033)] [], [fBot], 8), (fr 0 277 35 [(0, tr 219), (1, .arg 1308), (2, .int 94)] [], [fBot], 8), [zf98ve_15, zf98ve_18, zf98ve_4, zf98ve_5, zf98ve_6, zf98ve_7, zf98ve_8, zf98ve_9, zf98ve_10, zf98ve_11], [zi98ve_12, zi98ve_13, zi98ve_2, zi98ve_3])
noncomputable def w_wq94ir1 : List (sCut × List (Nat × sT) × List (Nat × sT × List (sT × sT))) := [(q_wR94, [(60033, .arg 60033), (2848, .op2 .ior (.arg 2848) (.int 4096)), (6850, .arg 6850), (6882, .arg 6882), (6914, .arg 6914), (6946, .arg 6946), (7362, .arg 7362), (7394, .arg 7394), (7426, .arg 7426), (7458, .arg 7458), (7874, .int 0), (7906, .arg 7906), (7938, .arg 7938), (7970, .arg 7970), (21216, .int 0), (21248, .arg 21248), (21280, .arg 21280), (21312, .arg 21312), (6466, .arg 6466), (6498, .arg 6498)], [(1761, .arg 1761, [(.int 94, .arg 60033)])])]
theorem k_wq94ir1 : cbody kR [(zWP, c_mp121)] (cpl1 zWP c_wn2 [q_wR94]) (cpl2 zWP c_wn2 [q_wR94]) (cleafB kR zWP c_wn2 w_wq94ir1) 1500 true true q_wq94ir1.2.2.1 q_wq94ir1.2.2.2 (cst zWP c_wn2.2.2.1.1 q_wq94ir1.1) (cst zWP c_wn2.2.2.1.2 q_wq94ir1.2.1) = true := by decide +kernel
theorem t_wq94ir1 {X : pX} {ρ0 : sR} (hv : vok X ρ0) : CUTOK X kR zWP c_wn2 8 ρ0 q_wq94ir1 := CUTOK_AT (fun ρ k1 hF hI k4 => AT_of (q := q_wq94ir1) rfl rfl (SEM_runB kR_x kR_0 (Cs := [(zWP, c_mp121)]) (fun C hC => by rw [List.mem_singleton.mp hC]; exact s_mp121) c_wn2_f (Q := w_wq94ir1) hv 1500 (b1 := true) (b2 := true) k_wq94ir1 k1 hF hI k4 (fun p hp ρ3 m1 m2 m3 m4 m5 m6 => by
  rw [List.mem_singleton.mp hp] at m2 m3 m5 m6 ⊢
  have y3 : ρ3.2.1 60033 = ρ.2.1 60033 := congrArg Prod.snd (m5 (60033, .arg 60033) List.mem_cons_self)
  have hA : ∀ j, ρ3.2.2.2.1 1761 j = if 94 = j then ρ.2.1 60033 else ρ.2.2.2.1 1761 j := fun j => ad_l (X := X) (p := 94) (t := .arg 60033) rfl (m6 _ List.mem_cons_self) j
  have hk : evk 94 (ρ.2.1 60033).toInt = true := by
    have h := m2.2 _ List.mem_cons_self
    rw [← y3]
    exact h
  have h0 : ρ.2.2.2.1 1761 90 = 0 := by
    have h := hA 90
    rw [if_neg (by decide)] at h
    rw [← h]
    exact of_decide_eq_true (m2.2 _ (List.mem_cons_of_mem _ List.mem_cons_self))
  have ea : ρ3.1 2848 = (sd X ρ (.op2 .ior (.arg 2848) (.int 4096))).1 := congrArg Prod.fst (m5 (2848, .op2 .ior (.arg 2848) (.int 4096)) (List.mem_cons_of_mem _ List.mem_cons_self))
  have eL : ρ3.1 60578 = ρ.1 60578 := (m4.1 60578 (by decide) (by decide)).1.trans (k4.1 60578 (by decide) (by decide)).1.symm
  have mo : sc X ρ3 (2, .op2 .iand (.op2 .iushr (.arg 2848) (.int 4)) (.int 1), .arg 60578) = false := by
    show decide (((ρ3.1 2848).toUInt32 >>> ((4 : Int32).toUInt32 &&& (31 : Int32).toUInt32)).toInt32 &&& 1 < ρ3.1 60578) = false
    rw [ea, eL]
    have q := tbv_ok (X := X) (ρ := ρ) (F := []) (a := .op2 .iand (.op2 .iushr (.op2 .ior (.arg 2848) (.int 4096)) (.int 4)) (.int 1)) (b := .op2 .iand (.op2 .iushr (.arg 2848) (.int 4)) (.int 1)) ⟨hF.1, fun f hf => by cases hf⟩ (by decide +kernel)
    rw [sv_int rfl, sv_int rfl] at q
    exact mn_e (Value.int.inj q) (of_decide_eq_true (hF.2 _ (List.mem_cons_of_mem _ (List.mem_cons_of_mem _ (List.mem_cons_of_mem _ (List.mem_cons_of_mem _ (List.mem_cons_of_mem _ (List.mem_cons_of_mem _ (List.mem_cons_of_mem _ (List.mem_cons_of_mem _ (List.mem_cons_self)))))))))))
  exact t_wE2 hv ρ3 m1 ⟨m2.1, fcn (ev_rw (g := ρ.2.2.2.1 1761) (m := 90) (p := 94) (hF.2 _ (List.mem_cons_of_mem _ (List.mem_cons_of_mem _ (List.mem_cons_of_mem _ (List.mem_cons_of_mem _ (List.mem_cons_of_mem _ (List.mem_cons_of_mem _ (List.mem_cons_self)))))))) (by decide) hk hA h0 (by decide +kernel)) (fcn (pd_up (X := X) (p := 94) (c := 4096) (z := [7874, 21216]) (hF.2 _ (List.mem_cons_of_mem _ (List.mem_cons_of_mem _ (List.mem_cons_of_mem _ (List.mem_cons_of_mem _ (List.mem_cons_of_mem _ (List.mem_cons_of_mem _ (List.mem_cons_of_mem _ (List.mem_cons_self))))))))) hA (fun x hx => m5 x (List.mem_cons_of_mem _ hx)) k4 m4 wm_2 wb_2 (by decide +kernel)) (fcn (mo) (fnl)))⟩ m3 m4)))
theorem t_wq94i {X : pX} {ρ0 : sR} (hv : vok X ρ0) : CUTOK X kR zWP c_wn2 8 ρ0 q_wq94i := fun ρ k1 hF hI k4 => by
  have b0 := rl_lf (x := ρ.2.1 60033) (y := 0) (hF.2 _ (List.mem_cons_of_mem _ (List.mem_cons_of_mem _ (List.mem_cons_self))))
  have b1 := rl_lf (x := 4294967295) (y := ρ.2.1 60033) (hF.2 _ (List.mem_cons_of_mem _ (List.mem_cons_of_mem _ (List.mem_cons_of_mem _ (List.mem_cons_self)))))
  have y0 : (0 : Int64).toInt = 0 := by decide +kernel
  have y1 : (4294967295 : Int64).toInt = 4294967295 := by decide +kernel
  rw [y0] at b0
  rw [y1] at b1
  by_cases h : evs 12 (ρ.2.1 60033).toInt = true
  · exact t_wq94ir1 hv ρ k1 ⟨hF.1, fcn (decide_eq_true (show ((1 : Int32)).toInt = (if evs 12 (ρ.2.1 60033).toInt = true then 1 else 0) by rw [if_pos h]; rfl)) (fcn (wn_129 (p := 94) (q := 94) rfl et_94 b0 b1 h) (hF.2))⟩ hI k4
  · exact t_wq94ir0 hv ρ k1 ⟨hF.1, fcn (decide_eq_true (show ((0 : Int32)).toInt = (if evs 12 (ρ.2.1 60033).toInt = true then 1 else 0) by rw [if_neg h]; rfl)) (hF.2)⟩ hI k4
theorem t_wq94 {X : pX} {ρ0 : sR} (hv : vok X ρ0) : CUTOK X kR zWP c_wn2 8 ρ0 q_wq94 := CUT_mono (t_wq94i hv) (fun ρ hF hI => by
  have b0 := rl_lf (x := ρ.2.1 60033) (y := 0) (hF.2 _ (List.mem_cons_of_mem _ (List.mem_cons_of_mem _ (List.mem_cons_self))))
  have b1 := rl_lf (x := 4294967295) (y := ρ.2.1 60033) (hF.2 _ (List.mem_cons_of_mem _ (List.mem_cons_of_mem _ (List.mem_cons_of_mem _ (List.mem_cons_self)))))
  have y0 : (0 : Int64).toInt = 0 := by decide +kernel
  have y1 : (4294967295 : Int64).toInt = 4294967295 := by decide +kernel
  rw [y0] at b0
  rw [y1] at b1
  exact ⟨hF, ik_c (fun hg => decide_eq_true (of_1 (x := ρ.2.2.2.1 1761 71) (of_decide_eq_false (hg _ List.mem_cons_self)))) (ik_c (fun hg => decide_eq_true (of_0 (x := ρ.2.2.2.1 1761 71) (of_decide_eq_true (hg _ List.mem_cons_self)))) (hI))⟩)
theorem e_wp94 : frun kR [] (cpl1 zWP (c_wp2 94) [q_wq94]) (cpl2 zWP (c_wp2 94) [q_wq94]) (cleaf kR zWP (c_wp2 94) [q_wq94]) 300 65536 (isatP ((c_wp2 94).2.2.2.1) (c_wp2 94).2.2.2.2.2.2.2.1) (c_wp2 94).2.2.2.2.2.2.2.1 (sin0 mt_all (c_wp2 94).1.1 8 (c_wp2 94).2.1.1 (foot zWP (c_wp2 94).2.2.1.1)) (sin0 mt_all (c_wp2 94).1.2.1 8 (c_wp2 94).2.1.2 (foot zWP (c_wp2 94).2.2.1.2)) = true := by decide +kernel
theorem s_wp94 {X : pX} : SREL X pF pdfl mt_all kR zWP (c_wp2 94) := SREL_QC kR_x kR_0 (Cs := []) (fun C hC => by cases hC) (d := 8) rfl (c_wp2_f 94) (Q := [q_wq94]) (fun ρ0 hv => fun q hq => by
    simp only [List.mem_cons, List.not_mem_nil, or_false] at hq
    rw [hq]; exact (t_wq94 hv : CUTOK X kR zWP c_wn2 8 ρ0 q_wq94)) (QC_run 300 e_wp94)
theorem et_96 : evt[96]? = some (0, 4294967295, 12) := by decide +kernel
noncomputable def zf98ve_19 : sQ × Bool := ((129, .int 96, .arg 60033), true)
noncomputable def zf98ve_20 : sQ × Bool := ((6, .elem (.arg 1761) (.int 95), .long 0), true)
noncomputable def q_wR96 : sCut := ((fr 0 10 53 [] [], [fr 0 5 23 [(4, .int 0)] [], fBot], 7), (fr 0 281 150 [] [], [fr 0 277 91 [(3, .int 0)] [], fBot], 7), [zf98ve_19, zf98ve_20], [zi98ve_2, zi98ve_3])
noncomputable def q_wq96 : sCut := ((fr 0 5 0 [(0, tr 57), (1, .int 96), (2, .arg 60033)] [], [fBot], 8), (fr 0 277 35 [(0, tr 219), (1, .arg 1308), (2, .int 96)] [], [fBot], 8), [zf98ve_4, zf98ve_5, zf98ve_6, zf98ve_7, zf98ve_8, zf98ve_9, zf98ve_10, zf98ve_11], [zi98ve_2, zi98ve_3])
noncomputable def zi98ve_21 : sFs × sQ × Bool := ([((6, .op2 .land (.elem (.arg 1761) (.int 76)) (.long 2147483648), .long 0), false)], (6, .op2 .land (.op2 .lshr (.elem (.arg 1761) (.int 76)) (.int 31)) (.long 1), .long 1), true)
noncomputable def zi98ve_22 : sFs × sQ × Bool := ([((6, .op2 .land (.elem (.arg 1761) (.int 76)) (.long 2147483648), .long 0), true)], (6, .op2 .land (.op2 .lshr (.elem (.arg 1761) (.int 76)) (.int 31)) (.long 1), .long 0), true)
noncomputable def q_wq96i : sCut := ((fr 0 5 0 [(0, tr 57), (1, .int 96), (2, .arg 60033)] [], [fBot], 8), (fr 0 277 35 [(0, tr 219), (1, .arg 1308), (2, .int 96)] [], [fBot], 8), [zf98ve_4, zf98ve_5, zf98ve_6, zf98ve_7, zf98ve_8, zf98ve_9, zf98ve_10, zf98ve_11], [zi98ve_21, zi98ve_22, zi98ve_2, zi98ve_3])
noncomputable def q_wq96ir0 : sCut := ((fr 0 5 0 [(0, tr 57), (1, .int 96), (2, .arg 60033)] [], [fBot], 8), (fr 0 277 35 [(0, tr 219), (1, .arg 1308), (2, .int 96)] [], [fBot], 8), [zf98ve_14, zf98ve_4, zf98ve_5, zf98ve_6, zf98ve_7, zf98ve_8, zf98ve_9, zf98ve_10, zf98ve_11], [zi98ve_21, zi98ve_22, zi98ve_2, zi98ve_3])
theorem k_wq96ir0 : cbody kR [(zWP, c_mp120)] (cpl1 zWP c_wn2 []) (cpl2 zWP c_wn2 []) (cleaf kR zWP c_wn2 []) 1500 true true q_wq96ir0.2.2.1 q_wq96ir0.2.2.2 (cst zWP c_wn2.2.2.1.1 q_wq96ir0.1) (cst zWP c_wn2.2.2.1.2 q_wq96ir0.2.1) = true := by decide +kernel
theorem t_wq96ir0 {X : pX} {ρ0 : sR} (hv : vok X ρ0) : CUTOK X kR zWP c_wn2 8 ρ0 q_wq96ir0 := CUT_run kR_x kR_0 (Cs := [(zWP, c_mp120)]) (fun C hC => by rw [List.mem_singleton.mp hC]; exact s_mp120) c_wn2_f (Q := []) hv (fun q hq => by cases hq) 1500 (b1 := true) (b2 := true) k_wq96ir0
noncomputable def q_wq96ir1 : sCut := ((fr 0 5 0 [(0, tr 57), (1, .int 96), (2, .arg 60033)] [], [fBot], 8), (fr 0 277 35 [(0, tr 219), (1, .arg 1308), (2, .int 96)] [], [fBot], 8), [zf98ve_15, zf98ve_19, zf98ve_4, zf98ve_5, zf98ve_6, zf98ve_7, zf98ve_8, zf98ve_9, zf98ve_10, zf98ve_11], [zi98ve_21, zi98ve_22, zi98ve_2, zi98ve_3])
noncomputable def w_wq96ir1 : List (sCut × List (Nat × sT) × List (Nat × sT × List (sT × sT))) := [(q_wR96, [(60033, .arg 60033), (2848, .op2 .ior (.arg 2848) (.int 8192)), (6850, .arg 6850), (6882, .arg 6882), (6914, .arg 6914), (6946, .arg 6946), (7362, .arg 7362), (7394, .arg 7394), (7426, .arg 7426), (7458, .arg 7458), (7874, .arg 7874), (7906, .int 0), (7938, .arg 7938), (7970, .arg 7970), (21216, .arg 21216), (21248, .int 0), (21280, .arg 21280), (21312, .arg 21312), (6466, .arg 6466), (6498, .arg 6498)], [(1761, .arg 1761, [(.int 96, .arg 60033)])])]
theorem k_wq96ir1 : cbody kR [(zWP, c_mp121)] (cpl1 zWP c_wn2 [q_wR96]) (cpl2 zWP c_wn2 [q_wR96]) (cleafB kR zWP c_wn2 w_wq96ir1) 1500 true true q_wq96ir1.2.2.1 q_wq96ir1.2.2.2 (cst zWP c_wn2.2.2.1.1 q_wq96ir1.1) (cst zWP c_wn2.2.2.1.2 q_wq96ir1.2.1) = true := by decide +kernel
theorem t_wq96ir1 {X : pX} {ρ0 : sR} (hv : vok X ρ0) : CUTOK X kR zWP c_wn2 8 ρ0 q_wq96ir1 := CUTOK_AT (fun ρ k1 hF hI k4 => AT_of (q := q_wq96ir1) rfl rfl (SEM_runB kR_x kR_0 (Cs := [(zWP, c_mp121)]) (fun C hC => by rw [List.mem_singleton.mp hC]; exact s_mp121) c_wn2_f (Q := w_wq96ir1) hv 1500 (b1 := true) (b2 := true) k_wq96ir1 k1 hF hI k4 (fun p hp ρ3 m1 m2 m3 m4 m5 m6 => by
  rw [List.mem_singleton.mp hp] at m2 m3 m5 m6 ⊢
  have y3 : ρ3.2.1 60033 = ρ.2.1 60033 := congrArg Prod.snd (m5 (60033, .arg 60033) List.mem_cons_self)
  have hA : ∀ j, ρ3.2.2.2.1 1761 j = if 96 = j then ρ.2.1 60033 else ρ.2.2.2.1 1761 j := fun j => ad_l (X := X) (p := 96) (t := .arg 60033) rfl (m6 _ List.mem_cons_self) j
  have hk : evk 96 (ρ.2.1 60033).toInt = true := by
    have h := m2.2 _ List.mem_cons_self
    rw [← y3]
    exact h
  have h0 : ρ.2.2.2.1 1761 95 = 0 := by
    have h := hA 95
    rw [if_neg (by decide)] at h
    rw [← h]
    exact of_decide_eq_true (m2.2 _ (List.mem_cons_of_mem _ List.mem_cons_self))
  have ea : ρ3.1 2848 = (sd X ρ (.op2 .ior (.arg 2848) (.int 8192))).1 := congrArg Prod.fst (m5 (2848, .op2 .ior (.arg 2848) (.int 8192)) (List.mem_cons_of_mem _ List.mem_cons_self))
  have eL : ρ3.1 60578 = ρ.1 60578 := (m4.1 60578 (by decide) (by decide)).1.trans (k4.1 60578 (by decide) (by decide)).1.symm
  have mo : sc X ρ3 (2, .op2 .iand (.op2 .iushr (.arg 2848) (.int 4)) (.int 1), .arg 60578) = false := by
    show decide (((ρ3.1 2848).toUInt32 >>> ((4 : Int32).toUInt32 &&& (31 : Int32).toUInt32)).toInt32 &&& 1 < ρ3.1 60578) = false
    rw [ea, eL]
    have q := tbv_ok (X := X) (ρ := ρ) (F := []) (a := .op2 .iand (.op2 .iushr (.op2 .ior (.arg 2848) (.int 8192)) (.int 4)) (.int 1)) (b := .op2 .iand (.op2 .iushr (.arg 2848) (.int 4)) (.int 1)) ⟨hF.1, fun f hf => by cases hf⟩ (by decide +kernel)
    rw [sv_int rfl, sv_int rfl] at q
    exact mn_e (Value.int.inj q) (of_decide_eq_true (hF.2 _ (List.mem_cons_of_mem _ (List.mem_cons_of_mem _ (List.mem_cons_of_mem _ (List.mem_cons_of_mem _ (List.mem_cons_of_mem _ (List.mem_cons_of_mem _ (List.mem_cons_of_mem _ (List.mem_cons_of_mem _ (List.mem_cons_self)))))))))))
  exact t_wE2 hv ρ3 m1 ⟨m2.1, fcn (ev_rw (g := ρ.2.2.2.1 1761) (m := 95) (p := 96) (hF.2 _ (List.mem_cons_of_mem _ (List.mem_cons_of_mem _ (List.mem_cons_of_mem _ (List.mem_cons_of_mem _ (List.mem_cons_of_mem _ (List.mem_cons_of_mem _ (List.mem_cons_self)))))))) (by decide) hk hA h0 (by decide +kernel)) (fcn (pd_up (X := X) (p := 96) (c := 8192) (z := [7906, 21248]) (hF.2 _ (List.mem_cons_of_mem _ (List.mem_cons_of_mem _ (List.mem_cons_of_mem _ (List.mem_cons_of_mem _ (List.mem_cons_of_mem _ (List.mem_cons_of_mem _ (List.mem_cons_of_mem _ (List.mem_cons_self))))))))) hA (fun x hx => m5 x (List.mem_cons_of_mem _ hx)) k4 m4 wm_2 wb_2 (by decide +kernel)) (fcn (mo) (fnl)))⟩ m3 m4)))
theorem t_wq96i {X : pX} {ρ0 : sR} (hv : vok X ρ0) : CUTOK X kR zWP c_wn2 8 ρ0 q_wq96i := fun ρ k1 hF hI k4 => by
  have b0 := rl_lf (x := ρ.2.1 60033) (y := 0) (hF.2 _ (List.mem_cons_of_mem _ (List.mem_cons_of_mem _ (List.mem_cons_self))))
  have b1 := rl_lf (x := 4294967295) (y := ρ.2.1 60033) (hF.2 _ (List.mem_cons_of_mem _ (List.mem_cons_of_mem _ (List.mem_cons_of_mem _ (List.mem_cons_self)))))
  have y0 : (0 : Int64).toInt = 0 := by decide +kernel
  have y1 : (4294967295 : Int64).toInt = 4294967295 := by decide +kernel
  rw [y0] at b0
  rw [y1] at b1
  by_cases h : evs 12 (ρ.2.1 60033).toInt = true
  · exact t_wq96ir1 hv ρ k1 ⟨hF.1, fcn (decide_eq_true (show ((1 : Int32)).toInt = (if evs 12 (ρ.2.1 60033).toInt = true then 1 else 0) by rw [if_pos h]; rfl)) (fcn (wn_129 (p := 96) (q := 96) rfl et_96 b0 b1 h) (hF.2))⟩ hI k4
  · exact t_wq96ir0 hv ρ k1 ⟨hF.1, fcn (decide_eq_true (show ((0 : Int32)).toInt = (if evs 12 (ρ.2.1 60033).toInt = true then 1 else 0) by rw [if_neg h]; rfl)) (hF.2)⟩ hI k4
theorem t_wq96 {X : pX} {ρ0 : sR} (hv : vok X ρ0) : CUTOK X kR zWP c_wn2 8 ρ0 q_wq96 := CUT_mono (t_wq96i hv) (fun ρ hF hI => by
  have b0 := rl_lf (x := ρ.2.1 60033) (y := 0) (hF.2 _ (List.mem_cons_of_mem _ (List.mem_cons_of_mem _ (List.mem_cons_self))))
  have b1 := rl_lf (x := 4294967295) (y := ρ.2.1 60033) (hF.2 _ (List.mem_cons_of_mem _ (List.mem_cons_of_mem _ (List.mem_cons_of_mem _ (List.mem_cons_self)))))
  have y0 : (0 : Int64).toInt = 0 := by decide +kernel
  have y1 : (4294967295 : Int64).toInt = 4294967295 := by decide +kernel
  rw [y0] at b0
  rw [y1] at b1
  exact ⟨hF, ik_c (fun hg => decide_eq_true (of_1 (x := ρ.2.2.2.1 1761 76) (of_decide_eq_false (hg _ List.mem_cons_self)))) (ik_c (fun hg => decide_eq_true (of_0 (x := ρ.2.2.2.1 1761 76) (of_decide_eq_true (hg _ List.mem_cons_self)))) (hI))⟩)
theorem e_wp96 : frun kR [] (cpl1 zWP (c_wp2 96) [q_wq96]) (cpl2 zWP (c_wp2 96) [q_wq96]) (cleaf kR zWP (c_wp2 96) [q_wq96]) 300 65536 (isatP ((c_wp2 96).2.2.2.1) (c_wp2 96).2.2.2.2.2.2.2.1) (c_wp2 96).2.2.2.2.2.2.2.1 (sin0 mt_all (c_wp2 96).1.1 8 (c_wp2 96).2.1.1 (foot zWP (c_wp2 96).2.2.1.1)) (sin0 mt_all (c_wp2 96).1.2.1 8 (c_wp2 96).2.1.2 (foot zWP (c_wp2 96).2.2.1.2)) = true := by decide +kernel
theorem s_wp96 {X : pX} : SREL X pF pdfl mt_all kR zWP (c_wp2 96) := SREL_QC kR_x kR_0 (Cs := []) (fun C hC => by cases hC) (d := 8) rfl (c_wp2_f 96) (Q := [q_wq96]) (fun ρ0 hv => fun q hq => by
    simp only [List.mem_cons, List.not_mem_nil, or_false] at hq
    rw [hq]; exact (t_wq96 hv : CUTOK X kR zWP c_wn2 8 ρ0 q_wq96)) (QC_run 300 e_wp96)
theorem et_97 : evt[97]? = some (0, 4294967295, 12) := by decide +kernel
noncomputable def zf98ve_23 : sQ × Bool := ((129, .int 97, .arg 60033), true)
noncomputable def q_wR97 : sCut := ((fr 0 10 53 [] [], [fr 0 5 23 [(4, .int 0)] [], fBot], 7), (fr 0 281 150 [] [], [fr 0 277 91 [(3, .int 0)] [], fBot], 7), [zf98ve_23, zf98ve_20], [zi98ve_2, zi98ve_3])
noncomputable def q_wq97 : sCut := ((fr 0 5 0 [(0, tr 57), (1, .int 97), (2, .arg 60033)] [], [fBot], 8), (fr 0 277 35 [(0, tr 219), (1, .arg 1308), (2, .int 97)] [], [fBot], 8), [zf98ve_4, zf98ve_5, zf98ve_6, zf98ve_7, zf98ve_8, zf98ve_9, zf98ve_10, zf98ve_11], [zi98ve_2, zi98ve_3])
noncomputable def q_wq97i : sCut := ((fr 0 5 0 [(0, tr 57), (1, .int 97), (2, .arg 60033)] [], [fBot], 8), (fr 0 277 35 [(0, tr 219), (1, .arg 1308), (2, .int 97)] [], [fBot], 8), [zf98ve_4, zf98ve_5, zf98ve_6, zf98ve_7, zf98ve_8, zf98ve_9, zf98ve_10, zf98ve_11], [zi98ve_21, zi98ve_22, zi98ve_2, zi98ve_3])
noncomputable def q_wq97ir0 : sCut := ((fr 0 5 0 [(0, tr 57), (1, .int 97), (2, .arg 60033)] [], [fBot], 8), (fr 0 277 35 [(0, tr 219), (1, .arg 1308), (2, .int 97)] [], [fBot], 8), [zf98ve_14, zf98ve_4, zf98ve_5, zf98ve_6, zf98ve_7, zf98ve_8, zf98ve_9, zf98ve_10, zf98ve_11], [zi98ve_21, zi98ve_22, zi98ve_2, zi98ve_3])
theorem k_wq97ir0 : cbody kR [(zWP, c_mp120)] (cpl1 zWP c_wn2 []) (cpl2 zWP c_wn2 []) (cleaf kR zWP c_wn2 []) 1500 true true q_wq97ir0.2.2.1 q_wq97ir0.2.2.2 (cst zWP c_wn2.2.2.1.1 q_wq97ir0.1) (cst zWP c_wn2.2.2.1.2 q_wq97ir0.2.1) = true := by decide +kernel
theorem t_wq97ir0 {X : pX} {ρ0 : sR} (hv : vok X ρ0) : CUTOK X kR zWP c_wn2 8 ρ0 q_wq97ir0 := CUT_run kR_x kR_0 (Cs := [(zWP, c_mp120)]) (fun C hC => by rw [List.mem_singleton.mp hC]; exact s_mp120) c_wn2_f (Q := []) hv (fun q hq => by cases hq) 1500 (b1 := true) (b2 := true) k_wq97ir0
noncomputable def q_wq97ir1 : sCut := ((fr 0 5 0 [(0, tr 57), (1, .int 97), (2, .arg 60033)] [], [fBot], 8), (fr 0 277 35 [(0, tr 219), (1, .arg 1308), (2, .int 97)] [], [fBot], 8), [zf98ve_15, zf98ve_23, zf98ve_4, zf98ve_5, zf98ve_6, zf98ve_7, zf98ve_8, zf98ve_9, zf98ve_10, zf98ve_11], [zi98ve_21, zi98ve_22, zi98ve_2, zi98ve_3])
noncomputable def w_wq97ir1 : List (sCut × List (Nat × sT) × List (Nat × sT × List (sT × sT))) := [(q_wR97, [(60033, .arg 60033), (2848, .op2 .ior (.arg 2848) (.int 8192)), (6850, .arg 6850), (6882, .arg 6882), (6914, .arg 6914), (6946, .arg 6946), (7362, .arg 7362), (7394, .arg 7394), (7426, .arg 7426), (7458, .arg 7458), (7874, .arg 7874), (7906, .int 0), (7938, .arg 7938), (7970, .arg 7970), (21216, .arg 21216), (21248, .int 0), (21280, .arg 21280), (21312, .arg 21312), (6466, .arg 6466), (6498, .arg 6498)], [(1761, .arg 1761, [(.int 97, .arg 60033)])])]
theorem k_wq97ir1 : cbody kR [(zWP, c_mp121)] (cpl1 zWP c_wn2 [q_wR97]) (cpl2 zWP c_wn2 [q_wR97]) (cleafB kR zWP c_wn2 w_wq97ir1) 1500 true true q_wq97ir1.2.2.1 q_wq97ir1.2.2.2 (cst zWP c_wn2.2.2.1.1 q_wq97ir1.1) (cst zWP c_wn2.2.2.1.2 q_wq97ir1.2.1) = true := by decide +kernel
theorem t_wq97ir1 {X : pX} {ρ0 : sR} (hv : vok X ρ0) : CUTOK X kR zWP c_wn2 8 ρ0 q_wq97ir1 := CUTOK_AT (fun ρ k1 hF hI k4 => AT_of (q := q_wq97ir1) rfl rfl (SEM_runB kR_x kR_0 (Cs := [(zWP, c_mp121)]) (fun C hC => by rw [List.mem_singleton.mp hC]; exact s_mp121) c_wn2_f (Q := w_wq97ir1) hv 1500 (b1 := true) (b2 := true) k_wq97ir1 k1 hF hI k4 (fun p hp ρ3 m1 m2 m3 m4 m5 m6 => by
  rw [List.mem_singleton.mp hp] at m2 m3 m5 m6 ⊢
  have y3 : ρ3.2.1 60033 = ρ.2.1 60033 := congrArg Prod.snd (m5 (60033, .arg 60033) List.mem_cons_self)
  have hA : ∀ j, ρ3.2.2.2.1 1761 j = if 97 = j then ρ.2.1 60033 else ρ.2.2.2.1 1761 j := fun j => ad_l (X := X) (p := 97) (t := .arg 60033) rfl (m6 _ List.mem_cons_self) j
  have hk : evk 97 (ρ.2.1 60033).toInt = true := by
    have h := m2.2 _ List.mem_cons_self
    rw [← y3]
    exact h
  have h0 : ρ.2.2.2.1 1761 95 = 0 := by
    have h := hA 95
    rw [if_neg (by decide)] at h
    rw [← h]
    exact of_decide_eq_true (m2.2 _ (List.mem_cons_of_mem _ List.mem_cons_self))
  have ea : ρ3.1 2848 = (sd X ρ (.op2 .ior (.arg 2848) (.int 8192))).1 := congrArg Prod.fst (m5 (2848, .op2 .ior (.arg 2848) (.int 8192)) (List.mem_cons_of_mem _ List.mem_cons_self))
  have eL : ρ3.1 60578 = ρ.1 60578 := (m4.1 60578 (by decide) (by decide)).1.trans (k4.1 60578 (by decide) (by decide)).1.symm
  have mo : sc X ρ3 (2, .op2 .iand (.op2 .iushr (.arg 2848) (.int 4)) (.int 1), .arg 60578) = false := by
    show decide (((ρ3.1 2848).toUInt32 >>> ((4 : Int32).toUInt32 &&& (31 : Int32).toUInt32)).toInt32 &&& 1 < ρ3.1 60578) = false
    rw [ea, eL]
    have q := tbv_ok (X := X) (ρ := ρ) (F := []) (a := .op2 .iand (.op2 .iushr (.op2 .ior (.arg 2848) (.int 8192)) (.int 4)) (.int 1)) (b := .op2 .iand (.op2 .iushr (.arg 2848) (.int 4)) (.int 1)) ⟨hF.1, fun f hf => by cases hf⟩ (by decide +kernel)
    rw [sv_int rfl, sv_int rfl] at q
    exact mn_e (Value.int.inj q) (of_decide_eq_true (hF.2 _ (List.mem_cons_of_mem _ (List.mem_cons_of_mem _ (List.mem_cons_of_mem _ (List.mem_cons_of_mem _ (List.mem_cons_of_mem _ (List.mem_cons_of_mem _ (List.mem_cons_of_mem _ (List.mem_cons_of_mem _ (List.mem_cons_self)))))))))))
  exact t_wE2 hv ρ3 m1 ⟨m2.1, fcn (ev_rw (g := ρ.2.2.2.1 1761) (m := 95) (p := 97) (hF.2 _ (List.mem_cons_of_mem _ (List.mem_cons_of_mem _ (List.mem_cons_of_mem _ (List.mem_cons_of_mem _ (List.mem_cons_of_mem _ (List.mem_cons_of_mem _ (List.mem_cons_self)))))))) (by decide) hk hA h0 (by decide +kernel)) (fcn (pd_up (X := X) (p := 97) (c := 8192) (z := [7906, 21248]) (hF.2 _ (List.mem_cons_of_mem _ (List.mem_cons_of_mem _ (List.mem_cons_of_mem _ (List.mem_cons_of_mem _ (List.mem_cons_of_mem _ (List.mem_cons_of_mem _ (List.mem_cons_of_mem _ (List.mem_cons_self))))))))) hA (fun x hx => m5 x (List.mem_cons_of_mem _ hx)) k4 m4 wm_2 wb_2 (by decide +kernel)) (fcn (mo) (fnl)))⟩ m3 m4)))
theorem t_wq97i {X : pX} {ρ0 : sR} (hv : vok X ρ0) : CUTOK X kR zWP c_wn2 8 ρ0 q_wq97i := fun ρ k1 hF hI k4 => by
  have b0 := rl_lf (x := ρ.2.1 60033) (y := 0) (hF.2 _ (List.mem_cons_of_mem _ (List.mem_cons_of_mem _ (List.mem_cons_self))))
  have b1 := rl_lf (x := 4294967295) (y := ρ.2.1 60033) (hF.2 _ (List.mem_cons_of_mem _ (List.mem_cons_of_mem _ (List.mem_cons_of_mem _ (List.mem_cons_self)))))
  have y0 : (0 : Int64).toInt = 0 := by decide +kernel
  have y1 : (4294967295 : Int64).toInt = 4294967295 := by decide +kernel
  rw [y0] at b0
  rw [y1] at b1
  by_cases h : evs 12 (ρ.2.1 60033).toInt = true
  · exact t_wq97ir1 hv ρ k1 ⟨hF.1, fcn (decide_eq_true (show ((1 : Int32)).toInt = (if evs 12 (ρ.2.1 60033).toInt = true then 1 else 0) by rw [if_pos h]; rfl)) (fcn (wn_129 (p := 97) (q := 97) rfl et_97 b0 b1 h) (hF.2))⟩ hI k4
  · exact t_wq97ir0 hv ρ k1 ⟨hF.1, fcn (decide_eq_true (show ((0 : Int32)).toInt = (if evs 12 (ρ.2.1 60033).toInt = true then 1 else 0) by rw [if_neg h]; rfl)) (hF.2)⟩ hI k4
theorem t_wq97 {X : pX} {ρ0 : sR} (hv : vok X ρ0) : CUTOK X kR zWP c_wn2 8 ρ0 q_wq97 := CUT_mono (t_wq97i hv) (fun ρ hF hI => by
  have b0 := rl_lf (x := ρ.2.1 60033) (y := 0) (hF.2 _ (List.mem_cons_of_mem _ (List.mem_cons_of_mem _ (List.mem_cons_self))))
  have b1 := rl_lf (x := 4294967295) (y := ρ.2.1 60033) (hF.2 _ (List.mem_cons_of_mem _ (List.mem_cons_of_mem _ (List.mem_cons_of_mem _ (List.mem_cons_self)))))
  have y0 : (0 : Int64).toInt = 0 := by decide +kernel
  have y1 : (4294967295 : Int64).toInt = 4294967295 := by decide +kernel
  rw [y0] at b0
  rw [y1] at b1
  exact ⟨hF, ik_c (fun hg => decide_eq_true (of_1 (x := ρ.2.2.2.1 1761 76) (of_decide_eq_false (hg _ List.mem_cons_self)))) (ik_c (fun hg => decide_eq_true (of_0 (x := ρ.2.2.2.1 1761 76) (of_decide_eq_true (hg _ List.mem_cons_self)))) (hI))⟩)
theorem e_wp97 : frun kR [] (cpl1 zWP (c_wp2 97) [q_wq97]) (cpl2 zWP (c_wp2 97) [q_wq97]) (cleaf kR zWP (c_wp2 97) [q_wq97]) 300 65536 (isatP ((c_wp2 97).2.2.2.1) (c_wp2 97).2.2.2.2.2.2.2.1) (c_wp2 97).2.2.2.2.2.2.2.1 (sin0 mt_all (c_wp2 97).1.1 8 (c_wp2 97).2.1.1 (foot zWP (c_wp2 97).2.2.1.1)) (sin0 mt_all (c_wp2 97).1.2.1 8 (c_wp2 97).2.1.2 (foot zWP (c_wp2 97).2.2.1.2)) = true := by decide +kernel
theorem s_wp97 {X : pX} : SREL X pF pdfl mt_all kR zWP (c_wp2 97) := SREL_QC kR_x kR_0 (Cs := []) (fun C hC => by cases hC) (d := 8) rfl (c_wp2_f 97) (Q := [q_wq97]) (fun ρ0 hv => fun q hq => by
    simp only [List.mem_cons, List.not_mem_nil, or_false] at hq
    rw [hq]; exact (t_wq97 hv : CUTOK X kR zWP c_wn2 8 ρ0 q_wq97)) (QC_run 300 e_wp97)
theorem et_98 : evt[98]? = some (0, 4294967295, 12) := by decide +kernel
noncomputable def zf98ve_24 : sQ × Bool := ((129, .int 98, .arg 60033), true)
noncomputable def q_wR98 : sCut := ((fr 0 10 53 [] [], [fr 0 5 23 [(4, .int 0)] [], fBot], 7), (fr 0 281 150 [] [], [fr 0 277 91 [(3, .int 0)] [], fBot], 7), [zf98ve_24, zf98ve_20], [zi98ve_2, zi98ve_3])
noncomputable def q_wq98 : sCut := ((fr 0 5 0 [(0, tr 57), (1, .int 98), (2, .arg 60033)] [], [fBot], 8), (fr 0 277 35 [(0, tr 219), (1, .arg 1308), (2, .int 98)] [], [fBot], 8), [zf98ve_4, zf98ve_5, zf98ve_6, zf98ve_7, zf98ve_8, zf98ve_9, zf98ve_10, zf98ve_11], [zi98ve_2, zi98ve_3])
noncomputable def q_wq98i : sCut := ((fr 0 5 0 [(0, tr 57), (1, .int 98), (2, .arg 60033)] [], [fBot], 8), (fr 0 277 35 [(0, tr 219), (1, .arg 1308), (2, .int 98)] [], [fBot], 8), [zf98ve_4, zf98ve_5, zf98ve_6, zf98ve_7, zf98ve_8, zf98ve_9, zf98ve_10, zf98ve_11], [zi98ve_21, zi98ve_22, zi98ve_2, zi98ve_3])
noncomputable def q_wq98ir0 : sCut := ((fr 0 5 0 [(0, tr 57), (1, .int 98), (2, .arg 60033)] [], [fBot], 8), (fr 0 277 35 [(0, tr 219), (1, .arg 1308), (2, .int 98)] [], [fBot], 8), [zf98ve_14, zf98ve_4, zf98ve_5, zf98ve_6, zf98ve_7, zf98ve_8, zf98ve_9, zf98ve_10, zf98ve_11], [zi98ve_21, zi98ve_22, zi98ve_2, zi98ve_3])
theorem k_wq98ir0 : cbody kR [(zWP, c_mp120)] (cpl1 zWP c_wn2 []) (cpl2 zWP c_wn2 []) (cleaf kR zWP c_wn2 []) 1500 true true q_wq98ir0.2.2.1 q_wq98ir0.2.2.2 (cst zWP c_wn2.2.2.1.1 q_wq98ir0.1) (cst zWP c_wn2.2.2.1.2 q_wq98ir0.2.1) = true := by decide +kernel
theorem t_wq98ir0 {X : pX} {ρ0 : sR} (hv : vok X ρ0) : CUTOK X kR zWP c_wn2 8 ρ0 q_wq98ir0 := CUT_run kR_x kR_0 (Cs := [(zWP, c_mp120)]) (fun C hC => by rw [List.mem_singleton.mp hC]; exact s_mp120) c_wn2_f (Q := []) hv (fun q hq => by cases hq) 1500 (b1 := true) (b2 := true) k_wq98ir0
noncomputable def q_wq98ir1 : sCut := ((fr 0 5 0 [(0, tr 57), (1, .int 98), (2, .arg 60033)] [], [fBot], 8), (fr 0 277 35 [(0, tr 219), (1, .arg 1308), (2, .int 98)] [], [fBot], 8), [zf98ve_15, zf98ve_24, zf98ve_4, zf98ve_5, zf98ve_6, zf98ve_7, zf98ve_8, zf98ve_9, zf98ve_10, zf98ve_11], [zi98ve_21, zi98ve_22, zi98ve_2, zi98ve_3])
noncomputable def w_wq98ir1 : List (sCut × List (Nat × sT) × List (Nat × sT × List (sT × sT))) := [(q_wR98, [(60033, .arg 60033), (2848, .op2 .ior (.arg 2848) (.int 8192)), (6850, .arg 6850), (6882, .arg 6882), (6914, .arg 6914), (6946, .arg 6946), (7362, .arg 7362), (7394, .arg 7394), (7426, .arg 7426), (7458, .arg 7458), (7874, .arg 7874), (7906, .int 0), (7938, .arg 7938), (7970, .arg 7970), (21216, .arg 21216), (21248, .int 0), (21280, .arg 21280), (21312, .arg 21312), (6466, .arg 6466), (6498, .arg 6498)], [(1761, .arg 1761, [(.int 98, .arg 60033)])])]
theorem k_wq98ir1 : cbody kR [(zWP, c_mp121)] (cpl1 zWP c_wn2 [q_wR98]) (cpl2 zWP c_wn2 [q_wR98]) (cleafB kR zWP c_wn2 w_wq98ir1) 1500 true true q_wq98ir1.2.2.1 q_wq98ir1.2.2.2 (cst zWP c_wn2.2.2.1.1 q_wq98ir1.1) (cst zWP c_wn2.2.2.1.2 q_wq98ir1.2.1) = true := by decide +kernel
theorem t_wq98ir1 {X : pX} {ρ0 : sR} (hv : vok X ρ0) : CUTOK X kR zWP c_wn2 8 ρ0 q_wq98ir1 := CUTOK_AT (fun ρ k1 hF hI k4 => AT_of (q := q_wq98ir1) rfl rfl (SEM_runB kR_x kR_0 (Cs := [(zWP, c_mp121)]) (fun C hC => by rw [List.mem_singleton.mp hC]; exact s_mp121) c_wn2_f (Q := w_wq98ir1) hv 1500 (b1 := true) (b2 := true) k_wq98ir1 k1 hF hI k4 (fun p hp ρ3 m1 m2 m3 m4 m5 m6 => by
  rw [List.mem_singleton.mp hp] at m2 m3 m5 m6 ⊢
  have y3 : ρ3.2.1 60033 = ρ.2.1 60033 := congrArg Prod.snd (m5 (60033, .arg 60033) List.mem_cons_self)
  have hA : ∀ j, ρ3.2.2.2.1 1761 j = if 98 = j then ρ.2.1 60033 else ρ.2.2.2.1 1761 j := fun j => ad_l (X := X) (p := 98) (t := .arg 60033) rfl (m6 _ List.mem_cons_self) j
  have hk : evk 98 (ρ.2.1 60033).toInt = true := by
    have h := m2.2 _ List.mem_cons_self
    rw [← y3]
    exact h
  have h0 : ρ.2.2.2.1 1761 95 = 0 := by
    have h := hA 95
    rw [if_neg (by decide)] at h
    rw [← h]
    exact of_decide_eq_true (m2.2 _ (List.mem_cons_of_mem _ List.mem_cons_self))
  have ea : ρ3.1 2848 = (sd X ρ (.op2 .ior (.arg 2848) (.int 8192))).1 := congrArg Prod.fst (m5 (2848, .op2 .ior (.arg 2848) (.int 8192)) (List.mem_cons_of_mem _ List.mem_cons_self))
  have eL : ρ3.1 60578 = ρ.1 60578 := (m4.1 60578 (by decide) (by decide)).1.trans (k4.1 60578 (by decide) (by decide)).1.symm
  have mo : sc X ρ3 (2, .op2 .iand (.op2 .iushr (.arg 2848) (.int 4)) (.int 1), .arg 60578) = false := by
    show decide (((ρ3.1 2848).toUInt32 >>> ((4 : Int32).toUInt32 &&& (31 : Int32).toUInt32)).toInt32 &&& 1 < ρ3.1 60578) = false
    rw [ea, eL]
    have q := tbv_ok (X := X) (ρ := ρ) (F := []) (a := .op2 .iand (.op2 .iushr (.op2 .ior (.arg 2848) (.int 8192)) (.int 4)) (.int 1)) (b := .op2 .iand (.op2 .iushr (.arg 2848) (.int 4)) (.int 1)) ⟨hF.1, fun f hf => by cases hf⟩ (by decide +kernel)
    rw [sv_int rfl, sv_int rfl] at q
    exact mn_e (Value.int.inj q) (of_decide_eq_true (hF.2 _ (List.mem_cons_of_mem _ (List.mem_cons_of_mem _ (List.mem_cons_of_mem _ (List.mem_cons_of_mem _ (List.mem_cons_of_mem _ (List.mem_cons_of_mem _ (List.mem_cons_of_mem _ (List.mem_cons_of_mem _ (List.mem_cons_self)))))))))))
  exact t_wE2 hv ρ3 m1 ⟨m2.1, fcn (ev_rw (g := ρ.2.2.2.1 1761) (m := 95) (p := 98) (hF.2 _ (List.mem_cons_of_mem _ (List.mem_cons_of_mem _ (List.mem_cons_of_mem _ (List.mem_cons_of_mem _ (List.mem_cons_of_mem _ (List.mem_cons_of_mem _ (List.mem_cons_self)))))))) (by decide) hk hA h0 (by decide +kernel)) (fcn (pd_up (X := X) (p := 98) (c := 8192) (z := [7906, 21248]) (hF.2 _ (List.mem_cons_of_mem _ (List.mem_cons_of_mem _ (List.mem_cons_of_mem _ (List.mem_cons_of_mem _ (List.mem_cons_of_mem _ (List.mem_cons_of_mem _ (List.mem_cons_of_mem _ (List.mem_cons_self))))))))) hA (fun x hx => m5 x (List.mem_cons_of_mem _ hx)) k4 m4 wm_2 wb_2 (by decide +kernel)) (fcn (mo) (fnl)))⟩ m3 m4)))
theorem t_wq98i {X : pX} {ρ0 : sR} (hv : vok X ρ0) : CUTOK X kR zWP c_wn2 8 ρ0 q_wq98i := fun ρ k1 hF hI k4 => by
  have b0 := rl_lf (x := ρ.2.1 60033) (y := 0) (hF.2 _ (List.mem_cons_of_mem _ (List.mem_cons_of_mem _ (List.mem_cons_self))))
  have b1 := rl_lf (x := 4294967295) (y := ρ.2.1 60033) (hF.2 _ (List.mem_cons_of_mem _ (List.mem_cons_of_mem _ (List.mem_cons_of_mem _ (List.mem_cons_self)))))
  have y0 : (0 : Int64).toInt = 0 := by decide +kernel
  have y1 : (4294967295 : Int64).toInt = 4294967295 := by decide +kernel
  rw [y0] at b0
  rw [y1] at b1
  by_cases h : evs 12 (ρ.2.1 60033).toInt = true
  · exact t_wq98ir1 hv ρ k1 ⟨hF.1, fcn (decide_eq_true (show ((1 : Int32)).toInt = (if evs 12 (ρ.2.1 60033).toInt = true then 1 else 0) by rw [if_pos h]; rfl)) (fcn (wn_129 (p := 98) (q := 98) rfl et_98 b0 b1 h) (hF.2))⟩ hI k4
  · exact t_wq98ir0 hv ρ k1 ⟨hF.1, fcn (decide_eq_true (show ((0 : Int32)).toInt = (if evs 12 (ρ.2.1 60033).toInt = true then 1 else 0) by rw [if_neg h]; rfl)) (hF.2)⟩ hI k4
theorem t_wq98 {X : pX} {ρ0 : sR} (hv : vok X ρ0) : CUTOK X kR zWP c_wn2 8 ρ0 q_wq98 := CUT_mono (t_wq98i hv) (fun ρ hF hI => by
  have b0 := rl_lf (x := ρ.2.1 60033) (y := 0) (hF.2 _ (List.mem_cons_of_mem _ (List.mem_cons_of_mem _ (List.mem_cons_self))))
  have b1 := rl_lf (x := 4294967295) (y := ρ.2.1 60033) (hF.2 _ (List.mem_cons_of_mem _ (List.mem_cons_of_mem _ (List.mem_cons_of_mem _ (List.mem_cons_self)))))
  have y0 : (0 : Int64).toInt = 0 := by decide +kernel
  have y1 : (4294967295 : Int64).toInt = 4294967295 := by decide +kernel
  rw [y0] at b0
  rw [y1] at b1
  exact ⟨hF, ik_c (fun hg => decide_eq_true (of_1 (x := ρ.2.2.2.1 1761 76) (of_decide_eq_false (hg _ List.mem_cons_self)))) (ik_c (fun hg => decide_eq_true (of_0 (x := ρ.2.2.2.1 1761 76) (of_decide_eq_true (hg _ List.mem_cons_self)))) (hI))⟩)
theorem e_wp98 : frun kR [] (cpl1 zWP (c_wp2 98) [q_wq98]) (cpl2 zWP (c_wp2 98) [q_wq98]) (cleaf kR zWP (c_wp2 98) [q_wq98]) 300 65536 (isatP ((c_wp2 98).2.2.2.1) (c_wp2 98).2.2.2.2.2.2.2.1) (c_wp2 98).2.2.2.2.2.2.2.1 (sin0 mt_all (c_wp2 98).1.1 8 (c_wp2 98).2.1.1 (foot zWP (c_wp2 98).2.2.1.1)) (sin0 mt_all (c_wp2 98).1.2.1 8 (c_wp2 98).2.1.2 (foot zWP (c_wp2 98).2.2.1.2)) = true := by decide +kernel
theorem s_wp98 {X : pX} : SREL X pF pdfl mt_all kR zWP (c_wp2 98) := SREL_QC kR_x kR_0 (Cs := []) (fun C hC => by cases hC) (d := 8) rfl (c_wp2_f 98) (Q := [q_wq98]) (fun ρ0 hv => fun q hq => by
    simp only [List.mem_cons, List.not_mem_nil, or_false] at hq
    rw [hq]; exact (t_wq98 hv : CUTOK X kR zWP c_wn2 8 ρ0 q_wq98)) (QC_run 300 e_wp98)
theorem et_99 : evt[99]? = some (0, 4294967295, 12) := by decide +kernel
noncomputable def zf98ve_25 : sQ × Bool := ((129, .int 99, .arg 60033), true)
noncomputable def q_wR99 : sCut := ((fr 0 10 53 [] [], [fr 0 5 23 [(4, .int 0)] [], fBot], 7), (fr 0 281 150 [] [], [fr 0 277 91 [(3, .int 0)] [], fBot], 7), [zf98ve_25, zf98ve_20], [zi98ve_2, zi98ve_3])
noncomputable def q_wq99 : sCut := ((fr 0 5 0 [(0, tr 57), (1, .int 99), (2, .arg 60033)] [], [fBot], 8), (fr 0 277 35 [(0, tr 219), (1, .arg 1308), (2, .int 99)] [], [fBot], 8), [zf98ve_4, zf98ve_5, zf98ve_6, zf98ve_7, zf98ve_8, zf98ve_9, zf98ve_10, zf98ve_11], [zi98ve_2, zi98ve_3])
noncomputable def q_wq99i : sCut := ((fr 0 5 0 [(0, tr 57), (1, .int 99), (2, .arg 60033)] [], [fBot], 8), (fr 0 277 35 [(0, tr 219), (1, .arg 1308), (2, .int 99)] [], [fBot], 8), [zf98ve_4, zf98ve_5, zf98ve_6, zf98ve_7, zf98ve_8, zf98ve_9, zf98ve_10, zf98ve_11], [zi98ve_21, zi98ve_22, zi98ve_2, zi98ve_3])
noncomputable def q_wq99ir0 : sCut := ((fr 0 5 0 [(0, tr 57), (1, .int 99), (2, .arg 60033)] [], [fBot], 8), (fr 0 277 35 [(0, tr 219), (1, .arg 1308), (2, .int 99)] [], [fBot], 8), [zf98ve_14, zf98ve_4, zf98ve_5, zf98ve_6, zf98ve_7, zf98ve_8, zf98ve_9, zf98ve_10, zf98ve_11], [zi98ve_21, zi98ve_22, zi98ve_2, zi98ve_3])
theorem k_wq99ir0 : cbody kR [(zWP, c_mp120)] (cpl1 zWP c_wn2 []) (cpl2 zWP c_wn2 []) (cleaf kR zWP c_wn2 []) 1500 true true q_wq99ir0.2.2.1 q_wq99ir0.2.2.2 (cst zWP c_wn2.2.2.1.1 q_wq99ir0.1) (cst zWP c_wn2.2.2.1.2 q_wq99ir0.2.1) = true := by decide +kernel
theorem t_wq99ir0 {X : pX} {ρ0 : sR} (hv : vok X ρ0) : CUTOK X kR zWP c_wn2 8 ρ0 q_wq99ir0 := CUT_run kR_x kR_0 (Cs := [(zWP, c_mp120)]) (fun C hC => by rw [List.mem_singleton.mp hC]; exact s_mp120) c_wn2_f (Q := []) hv (fun q hq => by cases hq) 1500 (b1 := true) (b2 := true) k_wq99ir0
noncomputable def q_wq99ir1 : sCut := ((fr 0 5 0 [(0, tr 57), (1, .int 99), (2, .arg 60033)] [], [fBot], 8), (fr 0 277 35 [(0, tr 219), (1, .arg 1308), (2, .int 99)] [], [fBot], 8), [zf98ve_15, zf98ve_25, zf98ve_4, zf98ve_5, zf98ve_6, zf98ve_7, zf98ve_8, zf98ve_9, zf98ve_10, zf98ve_11], [zi98ve_21, zi98ve_22, zi98ve_2, zi98ve_3])
noncomputable def w_wq99ir1 : List (sCut × List (Nat × sT) × List (Nat × sT × List (sT × sT))) := [(q_wR99, [(60033, .arg 60033), (2848, .op2 .ior (.arg 2848) (.int 8192)), (6850, .arg 6850), (6882, .arg 6882), (6914, .arg 6914), (6946, .arg 6946), (7362, .arg 7362), (7394, .arg 7394), (7426, .arg 7426), (7458, .arg 7458), (7874, .arg 7874), (7906, .int 0), (7938, .arg 7938), (7970, .arg 7970), (21216, .arg 21216), (21248, .int 0), (21280, .arg 21280), (21312, .arg 21312), (6466, .arg 6466), (6498, .arg 6498)], [(1761, .arg 1761, [(.int 99, .arg 60033)])])]
theorem k_wq99ir1 : cbody kR [(zWP, c_mp121)] (cpl1 zWP c_wn2 [q_wR99]) (cpl2 zWP c_wn2 [q_wR99]) (cleafB kR zWP c_wn2 w_wq99ir1) 1500 true true q_wq99ir1.2.2.1 q_wq99ir1.2.2.2 (cst zWP c_wn2.2.2.1.1 q_wq99ir1.1) (cst zWP c_wn2.2.2.1.2 q_wq99ir1.2.1) = true := by decide +kernel
theorem t_wq99ir1 {X : pX} {ρ0 : sR} (hv : vok X ρ0) : CUTOK X kR zWP c_wn2 8 ρ0 q_wq99ir1 := CUTOK_AT (fun ρ k1 hF hI k4 => AT_of (q := q_wq99ir1) rfl rfl (SEM_runB kR_x kR_0 (Cs := [(zWP, c_mp121)]) (fun C hC => by rw [List.mem_singleton.mp hC]; exact s_mp121) c_wn2_f (Q := w_wq99ir1) hv 1500 (b1 := true) (b2 := true) k_wq99ir1 k1 hF hI k4 (fun p hp ρ3 m1 m2 m3 m4 m5 m6 => by
  rw [List.mem_singleton.mp hp] at m2 m3 m5 m6 ⊢
  have y3 : ρ3.2.1 60033 = ρ.2.1 60033 := congrArg Prod.snd (m5 (60033, .arg 60033) List.mem_cons_self)
  have hA : ∀ j, ρ3.2.2.2.1 1761 j = if 99 = j then ρ.2.1 60033 else ρ.2.2.2.1 1761 j := fun j => ad_l (X := X) (p := 99) (t := .arg 60033) rfl (m6 _ List.mem_cons_self) j
  have hk : evk 99 (ρ.2.1 60033).toInt = true := by
    have h := m2.2 _ List.mem_cons_self
    rw [← y3]
    exact h
  have h0 : ρ.2.2.2.1 1761 95 = 0 := by
    have h := hA 95
    rw [if_neg (by decide)] at h
    rw [← h]
    exact of_decide_eq_true (m2.2 _ (List.mem_cons_of_mem _ List.mem_cons_self))
  have ea : ρ3.1 2848 = (sd X ρ (.op2 .ior (.arg 2848) (.int 8192))).1 := congrArg Prod.fst (m5 (2848, .op2 .ior (.arg 2848) (.int 8192)) (List.mem_cons_of_mem _ List.mem_cons_self))
  have eL : ρ3.1 60578 = ρ.1 60578 := (m4.1 60578 (by decide) (by decide)).1.trans (k4.1 60578 (by decide) (by decide)).1.symm
  have mo : sc X ρ3 (2, .op2 .iand (.op2 .iushr (.arg 2848) (.int 4)) (.int 1), .arg 60578) = false := by
    show decide (((ρ3.1 2848).toUInt32 >>> ((4 : Int32).toUInt32 &&& (31 : Int32).toUInt32)).toInt32 &&& 1 < ρ3.1 60578) = false
    rw [ea, eL]
    have q := tbv_ok (X := X) (ρ := ρ) (F := []) (a := .op2 .iand (.op2 .iushr (.op2 .ior (.arg 2848) (.int 8192)) (.int 4)) (.int 1)) (b := .op2 .iand (.op2 .iushr (.arg 2848) (.int 4)) (.int 1)) ⟨hF.1, fun f hf => by cases hf⟩ (by decide +kernel)
    rw [sv_int rfl, sv_int rfl] at q
    exact mn_e (Value.int.inj q) (of_decide_eq_true (hF.2 _ (List.mem_cons_of_mem _ (List.mem_cons_of_mem _ (List.mem_cons_of_mem _ (List.mem_cons_of_mem _ (List.mem_cons_of_mem _ (List.mem_cons_of_mem _ (List.mem_cons_of_mem _ (List.mem_cons_of_mem _ (List.mem_cons_self)))))))))))
  exact t_wE2 hv ρ3 m1 ⟨m2.1, fcn (ev_rw (g := ρ.2.2.2.1 1761) (m := 95) (p := 99) (hF.2 _ (List.mem_cons_of_mem _ (List.mem_cons_of_mem _ (List.mem_cons_of_mem _ (List.mem_cons_of_mem _ (List.mem_cons_of_mem _ (List.mem_cons_of_mem _ (List.mem_cons_self)))))))) (by decide) hk hA h0 (by decide +kernel)) (fcn (pd_up (X := X) (p := 99) (c := 8192) (z := [7906, 21248]) (hF.2 _ (List.mem_cons_of_mem _ (List.mem_cons_of_mem _ (List.mem_cons_of_mem _ (List.mem_cons_of_mem _ (List.mem_cons_of_mem _ (List.mem_cons_of_mem _ (List.mem_cons_of_mem _ (List.mem_cons_self))))))))) hA (fun x hx => m5 x (List.mem_cons_of_mem _ hx)) k4 m4 wm_2 wb_2 (by decide +kernel)) (fcn (mo) (fnl)))⟩ m3 m4)))
theorem t_wq99i {X : pX} {ρ0 : sR} (hv : vok X ρ0) : CUTOK X kR zWP c_wn2 8 ρ0 q_wq99i := fun ρ k1 hF hI k4 => by
  have b0 := rl_lf (x := ρ.2.1 60033) (y := 0) (hF.2 _ (List.mem_cons_of_mem _ (List.mem_cons_of_mem _ (List.mem_cons_self))))
  have b1 := rl_lf (x := 4294967295) (y := ρ.2.1 60033) (hF.2 _ (List.mem_cons_of_mem _ (List.mem_cons_of_mem _ (List.mem_cons_of_mem _ (List.mem_cons_self)))))
  have y0 : (0 : Int64).toInt = 0 := by decide +kernel
  have y1 : (4294967295 : Int64).toInt = 4294967295 := by decide +kernel
  rw [y0] at b0
  rw [y1] at b1
  by_cases h : evs 12 (ρ.2.1 60033).toInt = true
  · exact t_wq99ir1 hv ρ k1 ⟨hF.1, fcn (decide_eq_true (show ((1 : Int32)).toInt = (if evs 12 (ρ.2.1 60033).toInt = true then 1 else 0) by rw [if_pos h]; rfl)) (fcn (wn_129 (p := 99) (q := 99) rfl et_99 b0 b1 h) (hF.2))⟩ hI k4
  · exact t_wq99ir0 hv ρ k1 ⟨hF.1, fcn (decide_eq_true (show ((0 : Int32)).toInt = (if evs 12 (ρ.2.1 60033).toInt = true then 1 else 0) by rw [if_neg h]; rfl)) (hF.2)⟩ hI k4
theorem t_wq99 {X : pX} {ρ0 : sR} (hv : vok X ρ0) : CUTOK X kR zWP c_wn2 8 ρ0 q_wq99 := CUT_mono (t_wq99i hv) (fun ρ hF hI => by
  have b0 := rl_lf (x := ρ.2.1 60033) (y := 0) (hF.2 _ (List.mem_cons_of_mem _ (List.mem_cons_of_mem _ (List.mem_cons_self))))
  have b1 := rl_lf (x := 4294967295) (y := ρ.2.1 60033) (hF.2 _ (List.mem_cons_of_mem _ (List.mem_cons_of_mem _ (List.mem_cons_of_mem _ (List.mem_cons_self)))))
  have y0 : (0 : Int64).toInt = 0 := by decide +kernel
  have y1 : (4294967295 : Int64).toInt = 4294967295 := by decide +kernel
  rw [y0] at b0
  rw [y1] at b1
  exact ⟨hF, ik_c (fun hg => decide_eq_true (of_1 (x := ρ.2.2.2.1 1761 76) (of_decide_eq_false (hg _ List.mem_cons_self)))) (ik_c (fun hg => decide_eq_true (of_0 (x := ρ.2.2.2.1 1761 76) (of_decide_eq_true (hg _ List.mem_cons_self)))) (hI))⟩)
theorem e_wp99 : frun kR [] (cpl1 zWP (c_wp2 99) [q_wq99]) (cpl2 zWP (c_wp2 99) [q_wq99]) (cleaf kR zWP (c_wp2 99) [q_wq99]) 300 65536 (isatP ((c_wp2 99).2.2.2.1) (c_wp2 99).2.2.2.2.2.2.2.1) (c_wp2 99).2.2.2.2.2.2.2.1 (sin0 mt_all (c_wp2 99).1.1 8 (c_wp2 99).2.1.1 (foot zWP (c_wp2 99).2.2.1.1)) (sin0 mt_all (c_wp2 99).1.2.1 8 (c_wp2 99).2.1.2 (foot zWP (c_wp2 99).2.2.1.2)) = true := by decide +kernel
theorem s_wp99 {X : pX} : SREL X pF pdfl mt_all kR zWP (c_wp2 99) := SREL_QC kR_x kR_0 (Cs := []) (fun C hC => by cases hC) (d := 8) rfl (c_wp2_f 99) (Q := [q_wq99]) (fun ρ0 hv => fun q hq => by
    simp only [List.mem_cons, List.not_mem_nil, or_false] at hq
    rw [hq]; exact (t_wq99 hv : CUTOK X kR zWP c_wn2 8 ρ0 q_wq99)) (QC_run 300 e_wp99)
theorem et_101 : evt[101]? = some (0, 4294967295, 12) := by decide +kernel
noncomputable def zf98ve_26 : sQ × Bool := ((129, .int 101, .arg 60033), true)
noncomputable def zf98ve_27 : sQ × Bool := ((6, .elem (.arg 1761) (.int 100), .long 0), true)
noncomputable def q_wR101 : sCut := ((fr 0 10 53 [] [], [fr 0 5 23 [(4, .int 0)] [], fBot], 7), (fr 0 281 150 [] [], [fr 0 277 91 [(3, .int 0)] [], fBot], 7), [zf98ve_26, zf98ve_27], [zi98ve_2, zi98ve_3])
noncomputable def q_wq101 : sCut := ((fr 0 5 0 [(0, tr 57), (1, .int 101), (2, .arg 60033)] [], [fBot], 8), (fr 0 277 35 [(0, tr 219), (1, .arg 1308), (2, .int 101)] [], [fBot], 8), [zf98ve_4, zf98ve_5, zf98ve_6, zf98ve_7, zf98ve_8, zf98ve_9, zf98ve_10, zf98ve_11], [zi98ve_2, zi98ve_3])
noncomputable def zi98ve_28 : sFs × sQ × Bool := ([((6, .op2 .land (.elem (.arg 1761) (.int 81)) (.long 2147483648), .long 0), false)], (6, .op2 .land (.op2 .lshr (.elem (.arg 1761) (.int 81)) (.int 31)) (.long 1), .long 1), true)
noncomputable def zi98ve_29 : sFs × sQ × Bool := ([((6, .op2 .land (.elem (.arg 1761) (.int 81)) (.long 2147483648), .long 0), true)], (6, .op2 .land (.op2 .lshr (.elem (.arg 1761) (.int 81)) (.int 31)) (.long 1), .long 0), true)
noncomputable def q_wq101i : sCut := ((fr 0 5 0 [(0, tr 57), (1, .int 101), (2, .arg 60033)] [], [fBot], 8), (fr 0 277 35 [(0, tr 219), (1, .arg 1308), (2, .int 101)] [], [fBot], 8), [zf98ve_4, zf98ve_5, zf98ve_6, zf98ve_7, zf98ve_8, zf98ve_9, zf98ve_10, zf98ve_11], [zi98ve_28, zi98ve_29, zi98ve_2, zi98ve_3])
noncomputable def q_wq101ir0 : sCut := ((fr 0 5 0 [(0, tr 57), (1, .int 101), (2, .arg 60033)] [], [fBot], 8), (fr 0 277 35 [(0, tr 219), (1, .arg 1308), (2, .int 101)] [], [fBot], 8), [zf98ve_14, zf98ve_4, zf98ve_5, zf98ve_6, zf98ve_7, zf98ve_8, zf98ve_9, zf98ve_10, zf98ve_11], [zi98ve_28, zi98ve_29, zi98ve_2, zi98ve_3])
theorem k_wq101ir0 : cbody kR [(zWP, c_mp120)] (cpl1 zWP c_wn2 []) (cpl2 zWP c_wn2 []) (cleaf kR zWP c_wn2 []) 1500 true true q_wq101ir0.2.2.1 q_wq101ir0.2.2.2 (cst zWP c_wn2.2.2.1.1 q_wq101ir0.1) (cst zWP c_wn2.2.2.1.2 q_wq101ir0.2.1) = true := by decide +kernel
theorem t_wq101ir0 {X : pX} {ρ0 : sR} (hv : vok X ρ0) : CUTOK X kR zWP c_wn2 8 ρ0 q_wq101ir0 := CUT_run kR_x kR_0 (Cs := [(zWP, c_mp120)]) (fun C hC => by rw [List.mem_singleton.mp hC]; exact s_mp120) c_wn2_f (Q := []) hv (fun q hq => by cases hq) 1500 (b1 := true) (b2 := true) k_wq101ir0
noncomputable def q_wq101ir1 : sCut := ((fr 0 5 0 [(0, tr 57), (1, .int 101), (2, .arg 60033)] [], [fBot], 8), (fr 0 277 35 [(0, tr 219), (1, .arg 1308), (2, .int 101)] [], [fBot], 8), [zf98ve_15, zf98ve_26, zf98ve_4, zf98ve_5, zf98ve_6, zf98ve_7, zf98ve_8, zf98ve_9, zf98ve_10, zf98ve_11], [zi98ve_28, zi98ve_29, zi98ve_2, zi98ve_3])
noncomputable def w_wq101ir1 : List (sCut × List (Nat × sT) × List (Nat × sT × List (sT × sT))) := [(q_wR101, [(60033, .arg 60033), (2848, .op2 .ior (.arg 2848) (.int 16384)), (6850, .arg 6850), (6882, .arg 6882), (6914, .arg 6914), (6946, .arg 6946), (7362, .arg 7362), (7394, .arg 7394), (7426, .arg 7426), (7458, .arg 7458), (7874, .arg 7874), (7906, .arg 7906), (7938, .int 0), (7970, .arg 7970), (21216, .arg 21216), (21248, .arg 21248), (21280, .int 0), (21312, .arg 21312), (6466, .arg 6466), (6498, .arg 6498)], [(1761, .arg 1761, [(.int 101, .arg 60033)])])]
theorem k_wq101ir1 : cbody kR [(zWP, c_mp121)] (cpl1 zWP c_wn2 [q_wR101]) (cpl2 zWP c_wn2 [q_wR101]) (cleafB kR zWP c_wn2 w_wq101ir1) 1500 true true q_wq101ir1.2.2.1 q_wq101ir1.2.2.2 (cst zWP c_wn2.2.2.1.1 q_wq101ir1.1) (cst zWP c_wn2.2.2.1.2 q_wq101ir1.2.1) = true := by decide +kernel
theorem t_wq101ir1 {X : pX} {ρ0 : sR} (hv : vok X ρ0) : CUTOK X kR zWP c_wn2 8 ρ0 q_wq101ir1 := CUTOK_AT (fun ρ k1 hF hI k4 => AT_of (q := q_wq101ir1) rfl rfl (SEM_runB kR_x kR_0 (Cs := [(zWP, c_mp121)]) (fun C hC => by rw [List.mem_singleton.mp hC]; exact s_mp121) c_wn2_f (Q := w_wq101ir1) hv 1500 (b1 := true) (b2 := true) k_wq101ir1 k1 hF hI k4 (fun p hp ρ3 m1 m2 m3 m4 m5 m6 => by
  rw [List.mem_singleton.mp hp] at m2 m3 m5 m6 ⊢
  have y3 : ρ3.2.1 60033 = ρ.2.1 60033 := congrArg Prod.snd (m5 (60033, .arg 60033) List.mem_cons_self)
  have hA : ∀ j, ρ3.2.2.2.1 1761 j = if 101 = j then ρ.2.1 60033 else ρ.2.2.2.1 1761 j := fun j => ad_l (X := X) (p := 101) (t := .arg 60033) rfl (m6 _ List.mem_cons_self) j
  have hk : evk 101 (ρ.2.1 60033).toInt = true := by
    have h := m2.2 _ List.mem_cons_self
    rw [← y3]
    exact h
  have h0 : ρ.2.2.2.1 1761 100 = 0 := by
    have h := hA 100
    rw [if_neg (by decide)] at h
    rw [← h]
    exact of_decide_eq_true (m2.2 _ (List.mem_cons_of_mem _ List.mem_cons_self))
  have ea : ρ3.1 2848 = (sd X ρ (.op2 .ior (.arg 2848) (.int 16384))).1 := congrArg Prod.fst (m5 (2848, .op2 .ior (.arg 2848) (.int 16384)) (List.mem_cons_of_mem _ List.mem_cons_self))
  have eL : ρ3.1 60578 = ρ.1 60578 := (m4.1 60578 (by decide) (by decide)).1.trans (k4.1 60578 (by decide) (by decide)).1.symm
  have mo : sc X ρ3 (2, .op2 .iand (.op2 .iushr (.arg 2848) (.int 4)) (.int 1), .arg 60578) = false := by
    show decide (((ρ3.1 2848).toUInt32 >>> ((4 : Int32).toUInt32 &&& (31 : Int32).toUInt32)).toInt32 &&& 1 < ρ3.1 60578) = false
    rw [ea, eL]
    have q := tbv_ok (X := X) (ρ := ρ) (F := []) (a := .op2 .iand (.op2 .iushr (.op2 .ior (.arg 2848) (.int 16384)) (.int 4)) (.int 1)) (b := .op2 .iand (.op2 .iushr (.arg 2848) (.int 4)) (.int 1)) ⟨hF.1, fun f hf => by cases hf⟩ (by decide +kernel)
    rw [sv_int rfl, sv_int rfl] at q
    exact mn_e (Value.int.inj q) (of_decide_eq_true (hF.2 _ (List.mem_cons_of_mem _ (List.mem_cons_of_mem _ (List.mem_cons_of_mem _ (List.mem_cons_of_mem _ (List.mem_cons_of_mem _ (List.mem_cons_of_mem _ (List.mem_cons_of_mem _ (List.mem_cons_of_mem _ (List.mem_cons_self)))))))))))
  exact t_wE2 hv ρ3 m1 ⟨m2.1, fcn (ev_rw (g := ρ.2.2.2.1 1761) (m := 100) (p := 101) (hF.2 _ (List.mem_cons_of_mem _ (List.mem_cons_of_mem _ (List.mem_cons_of_mem _ (List.mem_cons_of_mem _ (List.mem_cons_of_mem _ (List.mem_cons_of_mem _ (List.mem_cons_self)))))))) (by decide) hk hA h0 (by decide +kernel)) (fcn (pd_up (X := X) (p := 101) (c := 16384) (z := [7938, 21280]) (hF.2 _ (List.mem_cons_of_mem _ (List.mem_cons_of_mem _ (List.mem_cons_of_mem _ (List.mem_cons_of_mem _ (List.mem_cons_of_mem _ (List.mem_cons_of_mem _ (List.mem_cons_of_mem _ (List.mem_cons_self))))))))) hA (fun x hx => m5 x (List.mem_cons_of_mem _ hx)) k4 m4 wm_2 wb_2 (by decide +kernel)) (fcn (mo) (fnl)))⟩ m3 m4)))
theorem t_wq101i {X : pX} {ρ0 : sR} (hv : vok X ρ0) : CUTOK X kR zWP c_wn2 8 ρ0 q_wq101i := fun ρ k1 hF hI k4 => by
  have b0 := rl_lf (x := ρ.2.1 60033) (y := 0) (hF.2 _ (List.mem_cons_of_mem _ (List.mem_cons_of_mem _ (List.mem_cons_self))))
  have b1 := rl_lf (x := 4294967295) (y := ρ.2.1 60033) (hF.2 _ (List.mem_cons_of_mem _ (List.mem_cons_of_mem _ (List.mem_cons_of_mem _ (List.mem_cons_self)))))
  have y0 : (0 : Int64).toInt = 0 := by decide +kernel
  have y1 : (4294967295 : Int64).toInt = 4294967295 := by decide +kernel
  rw [y0] at b0
  rw [y1] at b1
  by_cases h : evs 12 (ρ.2.1 60033).toInt = true
  · exact t_wq101ir1 hv ρ k1 ⟨hF.1, fcn (decide_eq_true (show ((1 : Int32)).toInt = (if evs 12 (ρ.2.1 60033).toInt = true then 1 else 0) by rw [if_pos h]; rfl)) (fcn (wn_129 (p := 101) (q := 101) rfl et_101 b0 b1 h) (hF.2))⟩ hI k4
  · exact t_wq101ir0 hv ρ k1 ⟨hF.1, fcn (decide_eq_true (show ((0 : Int32)).toInt = (if evs 12 (ρ.2.1 60033).toInt = true then 1 else 0) by rw [if_neg h]; rfl)) (hF.2)⟩ hI k4
theorem t_wq101 {X : pX} {ρ0 : sR} (hv : vok X ρ0) : CUTOK X kR zWP c_wn2 8 ρ0 q_wq101 := CUT_mono (t_wq101i hv) (fun ρ hF hI => by
  have b0 := rl_lf (x := ρ.2.1 60033) (y := 0) (hF.2 _ (List.mem_cons_of_mem _ (List.mem_cons_of_mem _ (List.mem_cons_self))))
  have b1 := rl_lf (x := 4294967295) (y := ρ.2.1 60033) (hF.2 _ (List.mem_cons_of_mem _ (List.mem_cons_of_mem _ (List.mem_cons_of_mem _ (List.mem_cons_self)))))
  have y0 : (0 : Int64).toInt = 0 := by decide +kernel
  have y1 : (4294967295 : Int64).toInt = 4294967295 := by decide +kernel
  rw [y0] at b0
  rw [y1] at b1
  exact ⟨hF, ik_c (fun hg => decide_eq_true (of_1 (x := ρ.2.2.2.1 1761 81) (of_decide_eq_false (hg _ List.mem_cons_self)))) (ik_c (fun hg => decide_eq_true (of_0 (x := ρ.2.2.2.1 1761 81) (of_decide_eq_true (hg _ List.mem_cons_self)))) (hI))⟩)
theorem e_wp101 : frun kR [] (cpl1 zWP (c_wp2 101) [q_wq101]) (cpl2 zWP (c_wp2 101) [q_wq101]) (cleaf kR zWP (c_wp2 101) [q_wq101]) 300 65536 (isatP ((c_wp2 101).2.2.2.1) (c_wp2 101).2.2.2.2.2.2.2.1) (c_wp2 101).2.2.2.2.2.2.2.1 (sin0 mt_all (c_wp2 101).1.1 8 (c_wp2 101).2.1.1 (foot zWP (c_wp2 101).2.2.1.1)) (sin0 mt_all (c_wp2 101).1.2.1 8 (c_wp2 101).2.1.2 (foot zWP (c_wp2 101).2.2.1.2)) = true := by decide +kernel
theorem s_wp101 {X : pX} : SREL X pF pdfl mt_all kR zWP (c_wp2 101) := SREL_QC kR_x kR_0 (Cs := []) (fun C hC => by cases hC) (d := 8) rfl (c_wp2_f 101) (Q := [q_wq101]) (fun ρ0 hv => fun q hq => by
    simp only [List.mem_cons, List.not_mem_nil, or_false] at hq
    rw [hq]; exact (t_wq101 hv : CUTOK X kR zWP c_wn2 8 ρ0 q_wq101)) (QC_run 300 e_wp101)
theorem et_102 : evt[102]? = some (0, 4294967295, 12) := by decide +kernel
noncomputable def zf98ve_30 : sQ × Bool := ((129, .int 102, .arg 60033), true)
noncomputable def q_wR102 : sCut := ((fr 0 10 53 [] [], [fr 0 5 23 [(4, .int 0)] [], fBot], 7), (fr 0 281 150 [] [], [fr 0 277 91 [(3, .int 0)] [], fBot], 7), [zf98ve_30, zf98ve_27], [zi98ve_2, zi98ve_3])
noncomputable def q_wq102 : sCut := ((fr 0 5 0 [(0, tr 57), (1, .int 102), (2, .arg 60033)] [], [fBot], 8), (fr 0 277 35 [(0, tr 219), (1, .arg 1308), (2, .int 102)] [], [fBot], 8), [zf98ve_4, zf98ve_5, zf98ve_6, zf98ve_7, zf98ve_8, zf98ve_9, zf98ve_10, zf98ve_11], [zi98ve_2, zi98ve_3])
noncomputable def q_wq102i : sCut := ((fr 0 5 0 [(0, tr 57), (1, .int 102), (2, .arg 60033)] [], [fBot], 8), (fr 0 277 35 [(0, tr 219), (1, .arg 1308), (2, .int 102)] [], [fBot], 8), [zf98ve_4, zf98ve_5, zf98ve_6, zf98ve_7, zf98ve_8, zf98ve_9, zf98ve_10, zf98ve_11], [zi98ve_28, zi98ve_29, zi98ve_2, zi98ve_3])
noncomputable def q_wq102ir0 : sCut := ((fr 0 5 0 [(0, tr 57), (1, .int 102), (2, .arg 60033)] [], [fBot], 8), (fr 0 277 35 [(0, tr 219), (1, .arg 1308), (2, .int 102)] [], [fBot], 8), [zf98ve_14, zf98ve_4, zf98ve_5, zf98ve_6, zf98ve_7, zf98ve_8, zf98ve_9, zf98ve_10, zf98ve_11], [zi98ve_28, zi98ve_29, zi98ve_2, zi98ve_3])
theorem k_wq102ir0 : cbody kR [(zWP, c_mp120)] (cpl1 zWP c_wn2 []) (cpl2 zWP c_wn2 []) (cleaf kR zWP c_wn2 []) 1500 true true q_wq102ir0.2.2.1 q_wq102ir0.2.2.2 (cst zWP c_wn2.2.2.1.1 q_wq102ir0.1) (cst zWP c_wn2.2.2.1.2 q_wq102ir0.2.1) = true := by decide +kernel
theorem t_wq102ir0 {X : pX} {ρ0 : sR} (hv : vok X ρ0) : CUTOK X kR zWP c_wn2 8 ρ0 q_wq102ir0 := CUT_run kR_x kR_0 (Cs := [(zWP, c_mp120)]) (fun C hC => by rw [List.mem_singleton.mp hC]; exact s_mp120) c_wn2_f (Q := []) hv (fun q hq => by cases hq) 1500 (b1 := true) (b2 := true) k_wq102ir0
noncomputable def q_wq102ir1 : sCut := ((fr 0 5 0 [(0, tr 57), (1, .int 102), (2, .arg 60033)] [], [fBot], 8), (fr 0 277 35 [(0, tr 219), (1, .arg 1308), (2, .int 102)] [], [fBot], 8), [zf98ve_15, zf98ve_30, zf98ve_4, zf98ve_5, zf98ve_6, zf98ve_7, zf98ve_8, zf98ve_9, zf98ve_10, zf98ve_11], [zi98ve_28, zi98ve_29, zi98ve_2, zi98ve_3])
noncomputable def w_wq102ir1 : List (sCut × List (Nat × sT) × List (Nat × sT × List (sT × sT))) := [(q_wR102, [(60033, .arg 60033), (2848, .op2 .ior (.arg 2848) (.int 16384)), (6850, .arg 6850), (6882, .arg 6882), (6914, .arg 6914), (6946, .arg 6946), (7362, .arg 7362), (7394, .arg 7394), (7426, .arg 7426), (7458, .arg 7458), (7874, .arg 7874), (7906, .arg 7906), (7938, .int 0), (7970, .arg 7970), (21216, .arg 21216), (21248, .arg 21248), (21280, .int 0), (21312, .arg 21312), (6466, .arg 6466), (6498, .arg 6498)], [(1761, .arg 1761, [(.int 102, .arg 60033)])])]
theorem k_wq102ir1 : cbody kR [(zWP, c_mp121)] (cpl1 zWP c_wn2 [q_wR102]) (cpl2 zWP c_wn2 [q_wR102]) (cleafB kR zWP c_wn2 w_wq102ir1) 1500 true true q_wq102ir1.2.2.1 q_wq102ir1.2.2.2 (cst zWP c_wn2.2.2.1.1 q_wq102ir1.1) (cst zWP c_wn2.2.2.1.2 q_wq102ir1.2.1) = true := by decide +kernel
theorem t_wq102ir1 {X : pX} {ρ0 : sR} (hv : vok X ρ0) : CUTOK X kR zWP c_wn2 8 ρ0 q_wq102ir1 := CUTOK_AT (fun ρ k1 hF hI k4 => AT_of (q := q_wq102ir1) rfl rfl (SEM_runB kR_x kR_0 (Cs := [(zWP, c_mp121)]) (fun C hC => by rw [List.mem_singleton.mp hC]; exact s_mp121) c_wn2_f (Q := w_wq102ir1) hv 1500 (b1 := true) (b2 := true) k_wq102ir1 k1 hF hI k4 (fun p hp ρ3 m1 m2 m3 m4 m5 m6 => by
  rw [List.mem_singleton.mp hp] at m2 m3 m5 m6 ⊢
  have y3 : ρ3.2.1 60033 = ρ.2.1 60033 := congrArg Prod.snd (m5 (60033, .arg 60033) List.mem_cons_self)
  have hA : ∀ j, ρ3.2.2.2.1 1761 j = if 102 = j then ρ.2.1 60033 else ρ.2.2.2.1 1761 j := fun j => ad_l (X := X) (p := 102) (t := .arg 60033) rfl (m6 _ List.mem_cons_self) j
  have hk : evk 102 (ρ.2.1 60033).toInt = true := by
    have h := m2.2 _ List.mem_cons_self
    rw [← y3]
    exact h
  have h0 : ρ.2.2.2.1 1761 100 = 0 := by
    have h := hA 100
    rw [if_neg (by decide)] at h
    rw [← h]
    exact of_decide_eq_true (m2.2 _ (List.mem_cons_of_mem _ List.mem_cons_self))
  have ea : ρ3.1 2848 = (sd X ρ (.op2 .ior (.arg 2848) (.int 16384))).1 := congrArg Prod.fst (m5 (2848, .op2 .ior (.arg 2848) (.int 16384)) (List.mem_cons_of_mem _ List.mem_cons_self))
  have eL : ρ3.1 60578 = ρ.1 60578 := (m4.1 60578 (by decide) (by decide)).1.trans (k4.1 60578 (by decide) (by decide)).1.symm
  have mo : sc X ρ3 (2, .op2 .iand (.op2 .iushr (.arg 2848) (.int 4)) (.int 1), .arg 60578) = false := by
    show decide (((ρ3.1 2848).toUInt32 >>> ((4 : Int32).toUInt32 &&& (31 : Int32).toUInt32)).toInt32 &&& 1 < ρ3.1 60578) = false
    rw [ea, eL]
    have q := tbv_ok (X := X) (ρ := ρ) (F := []) (a := .op2 .iand (.op2 .iushr (.op2 .ior (.arg 2848) (.int 16384)) (.int 4)) (.int 1)) (b := .op2 .iand (.op2 .iushr (.arg 2848) (.int 4)) (.int 1)) ⟨hF.1, fun f hf => by cases hf⟩ (by decide +kernel)
    rw [sv_int rfl, sv_int rfl] at q
    exact mn_e (Value.int.inj q) (of_decide_eq_true (hF.2 _ (List.mem_cons_of_mem _ (List.mem_cons_of_mem _ (List.mem_cons_of_mem _ (List.mem_cons_of_mem _ (List.mem_cons_of_mem _ (List.mem_cons_of_mem _ (List.mem_cons_of_mem _ (List.mem_cons_of_mem _ (List.mem_cons_self)))))))))))
  exact t_wE2 hv ρ3 m1 ⟨m2.1, fcn (ev_rw (g := ρ.2.2.2.1 1761) (m := 100) (p := 102) (hF.2 _ (List.mem_cons_of_mem _ (List.mem_cons_of_mem _ (List.mem_cons_of_mem _ (List.mem_cons_of_mem _ (List.mem_cons_of_mem _ (List.mem_cons_of_mem _ (List.mem_cons_self)))))))) (by decide) hk hA h0 (by decide +kernel)) (fcn (pd_up (X := X) (p := 102) (c := 16384) (z := [7938, 21280]) (hF.2 _ (List.mem_cons_of_mem _ (List.mem_cons_of_mem _ (List.mem_cons_of_mem _ (List.mem_cons_of_mem _ (List.mem_cons_of_mem _ (List.mem_cons_of_mem _ (List.mem_cons_of_mem _ (List.mem_cons_self))))))))) hA (fun x hx => m5 x (List.mem_cons_of_mem _ hx)) k4 m4 wm_2 wb_2 (by decide +kernel)) (fcn (mo) (fnl)))⟩ m3 m4)))
theorem t_wq102i {X : pX} {ρ0 : sR} (hv : vok X ρ0) : CUTOK X kR zWP c_wn2 8 ρ0 q_wq102i := fun ρ k1 hF hI k4 => by
  have b0 := rl_lf (x := ρ.2.1 60033) (y := 0) (hF.2 _ (List.mem_cons_of_mem _ (List.mem_cons_of_mem _ (List.mem_cons_self))))
  have b1 := rl_lf (x := 4294967295) (y := ρ.2.1 60033) (hF.2 _ (List.mem_cons_of_mem _ (List.mem_cons_of_mem _ (List.mem_cons_of_mem _ (List.mem_cons_self)))))
  have y0 : (0 : Int64).toInt = 0 := by decide +kernel
  have y1 : (4294967295 : Int64).toInt = 4294967295 := by decide +kernel
  rw [y0] at b0
  rw [y1] at b1
  by_cases h : evs 12 (ρ.2.1 60033).toInt = true
  · exact t_wq102ir1 hv ρ k1 ⟨hF.1, fcn (decide_eq_true (show ((1 : Int32)).toInt = (if evs 12 (ρ.2.1 60033).toInt = true then 1 else 0) by rw [if_pos h]; rfl)) (fcn (wn_129 (p := 102) (q := 102) rfl et_102 b0 b1 h) (hF.2))⟩ hI k4
  · exact t_wq102ir0 hv ρ k1 ⟨hF.1, fcn (decide_eq_true (show ((0 : Int32)).toInt = (if evs 12 (ρ.2.1 60033).toInt = true then 1 else 0) by rw [if_neg h]; rfl)) (hF.2)⟩ hI k4
theorem t_wq102 {X : pX} {ρ0 : sR} (hv : vok X ρ0) : CUTOK X kR zWP c_wn2 8 ρ0 q_wq102 := CUT_mono (t_wq102i hv) (fun ρ hF hI => by
  have b0 := rl_lf (x := ρ.2.1 60033) (y := 0) (hF.2 _ (List.mem_cons_of_mem _ (List.mem_cons_of_mem _ (List.mem_cons_self))))
  have b1 := rl_lf (x := 4294967295) (y := ρ.2.1 60033) (hF.2 _ (List.mem_cons_of_mem _ (List.mem_cons_of_mem _ (List.mem_cons_of_mem _ (List.mem_cons_self)))))
  have y0 : (0 : Int64).toInt = 0 := by decide +kernel
  have y1 : (4294967295 : Int64).toInt = 4294967295 := by decide +kernel
  rw [y0] at b0
  rw [y1] at b1
  exact ⟨hF, ik_c (fun hg => decide_eq_true (of_1 (x := ρ.2.2.2.1 1761 81) (of_decide_eq_false (hg _ List.mem_cons_self)))) (ik_c (fun hg => decide_eq_true (of_0 (x := ρ.2.2.2.1 1761 81) (of_decide_eq_true (hg _ List.mem_cons_self)))) (hI))⟩)
theorem e_wp102 : frun kR [] (cpl1 zWP (c_wp2 102) [q_wq102]) (cpl2 zWP (c_wp2 102) [q_wq102]) (cleaf kR zWP (c_wp2 102) [q_wq102]) 300 65536 (isatP ((c_wp2 102).2.2.2.1) (c_wp2 102).2.2.2.2.2.2.2.1) (c_wp2 102).2.2.2.2.2.2.2.1 (sin0 mt_all (c_wp2 102).1.1 8 (c_wp2 102).2.1.1 (foot zWP (c_wp2 102).2.2.1.1)) (sin0 mt_all (c_wp2 102).1.2.1 8 (c_wp2 102).2.1.2 (foot zWP (c_wp2 102).2.2.1.2)) = true := by decide +kernel
theorem s_wp102 {X : pX} : SREL X pF pdfl mt_all kR zWP (c_wp2 102) := SREL_QC kR_x kR_0 (Cs := []) (fun C hC => by cases hC) (d := 8) rfl (c_wp2_f 102) (Q := [q_wq102]) (fun ρ0 hv => fun q hq => by
    simp only [List.mem_cons, List.not_mem_nil, or_false] at hq
    rw [hq]; exact (t_wq102 hv : CUTOK X kR zWP c_wn2 8 ρ0 q_wq102)) (QC_run 300 e_wp102)
theorem et_103 : evt[103]? = some (0, 4294967295, 12) := by decide +kernel
noncomputable def zf98ve_31 : sQ × Bool := ((129, .int 103, .arg 60033), true)
noncomputable def q_wR103 : sCut := ((fr 0 10 53 [] [], [fr 0 5 23 [(4, .int 0)] [], fBot], 7), (fr 0 281 150 [] [], [fr 0 277 91 [(3, .int 0)] [], fBot], 7), [zf98ve_31, zf98ve_27], [zi98ve_2, zi98ve_3])
noncomputable def q_wq103 : sCut := ((fr 0 5 0 [(0, tr 57), (1, .int 103), (2, .arg 60033)] [], [fBot], 8), (fr 0 277 35 [(0, tr 219), (1, .arg 1308), (2, .int 103)] [], [fBot], 8), [zf98ve_4, zf98ve_5, zf98ve_6, zf98ve_7, zf98ve_8, zf98ve_9, zf98ve_10, zf98ve_11], [zi98ve_2, zi98ve_3])
noncomputable def q_wq103i : sCut := ((fr 0 5 0 [(0, tr 57), (1, .int 103), (2, .arg 60033)] [], [fBot], 8), (fr 0 277 35 [(0, tr 219), (1, .arg 1308), (2, .int 103)] [], [fBot], 8), [zf98ve_4, zf98ve_5, zf98ve_6, zf98ve_7, zf98ve_8, zf98ve_9, zf98ve_10, zf98ve_11], [zi98ve_28, zi98ve_29, zi98ve_2, zi98ve_3])
noncomputable def q_wq103ir0 : sCut := ((fr 0 5 0 [(0, tr 57), (1, .int 103), (2, .arg 60033)] [], [fBot], 8), (fr 0 277 35 [(0, tr 219), (1, .arg 1308), (2, .int 103)] [], [fBot], 8), [zf98ve_14, zf98ve_4, zf98ve_5, zf98ve_6, zf98ve_7, zf98ve_8, zf98ve_9, zf98ve_10, zf98ve_11], [zi98ve_28, zi98ve_29, zi98ve_2, zi98ve_3])
theorem k_wq103ir0 : cbody kR [(zWP, c_mp120)] (cpl1 zWP c_wn2 []) (cpl2 zWP c_wn2 []) (cleaf kR zWP c_wn2 []) 1500 true true q_wq103ir0.2.2.1 q_wq103ir0.2.2.2 (cst zWP c_wn2.2.2.1.1 q_wq103ir0.1) (cst zWP c_wn2.2.2.1.2 q_wq103ir0.2.1) = true := by decide +kernel
theorem t_wq103ir0 {X : pX} {ρ0 : sR} (hv : vok X ρ0) : CUTOK X kR zWP c_wn2 8 ρ0 q_wq103ir0 := CUT_run kR_x kR_0 (Cs := [(zWP, c_mp120)]) (fun C hC => by rw [List.mem_singleton.mp hC]; exact s_mp120) c_wn2_f (Q := []) hv (fun q hq => by cases hq) 1500 (b1 := true) (b2 := true) k_wq103ir0
noncomputable def q_wq103ir1 : sCut := ((fr 0 5 0 [(0, tr 57), (1, .int 103), (2, .arg 60033)] [], [fBot], 8), (fr 0 277 35 [(0, tr 219), (1, .arg 1308), (2, .int 103)] [], [fBot], 8), [zf98ve_15, zf98ve_31, zf98ve_4, zf98ve_5, zf98ve_6, zf98ve_7, zf98ve_8, zf98ve_9, zf98ve_10, zf98ve_11], [zi98ve_28, zi98ve_29, zi98ve_2, zi98ve_3])
noncomputable def w_wq103ir1 : List (sCut × List (Nat × sT) × List (Nat × sT × List (sT × sT))) := [(q_wR103, [(60033, .arg 60033), (2848, .op2 .ior (.arg 2848) (.int 16384)), (6850, .arg 6850), (6882, .arg 6882), (6914, .arg 6914), (6946, .arg 6946), (7362, .arg 7362), (7394, .arg 7394), (7426, .arg 7426), (7458, .arg 7458), (7874, .arg 7874), (7906, .arg 7906), (7938, .int 0), (7970, .arg 7970), (21216, .arg 21216), (21248, .arg 21248), (21280, .int 0), (21312, .arg 21312), (6466, .arg 6466), (6498, .arg 6498)], [(1761, .arg 1761, [(.int 103, .arg 60033)])])]
theorem k_wq103ir1 : cbody kR [(zWP, c_mp121)] (cpl1 zWP c_wn2 [q_wR103]) (cpl2 zWP c_wn2 [q_wR103]) (cleafB kR zWP c_wn2 w_wq103ir1) 1500 true true q_wq103ir1.2.2.1 q_wq103ir1.2.2.2 (cst zWP c_wn2.2.2.1.1 q_wq103ir1.1) (cst zWP c_wn2.2.2.1.2 q_wq103ir1.2.1) = true := by decide +kernel
theorem t_wq103ir1 {X : pX} {ρ0 : sR} (hv : vok X ρ0) : CUTOK X kR zWP c_wn2 8 ρ0 q_wq103ir1 := CUTOK_AT (fun ρ k1 hF hI k4 => AT_of (q := q_wq103ir1) rfl rfl (SEM_runB kR_x kR_0 (Cs := [(zWP, c_mp121)]) (fun C hC => by rw [List.mem_singleton.mp hC]; exact s_mp121) c_wn2_f (Q := w_wq103ir1) hv 1500 (b1 := true) (b2 := true) k_wq103ir1 k1 hF hI k4 (fun p hp ρ3 m1 m2 m3 m4 m5 m6 => by
  rw [List.mem_singleton.mp hp] at m2 m3 m5 m6 ⊢
  have y3 : ρ3.2.1 60033 = ρ.2.1 60033 := congrArg Prod.snd (m5 (60033, .arg 60033) List.mem_cons_self)
  have hA : ∀ j, ρ3.2.2.2.1 1761 j = if 103 = j then ρ.2.1 60033 else ρ.2.2.2.1 1761 j := fun j => ad_l (X := X) (p := 103) (t := .arg 60033) rfl (m6 _ List.mem_cons_self) j
  have hk : evk 103 (ρ.2.1 60033).toInt = true := by
    have h := m2.2 _ List.mem_cons_self
    rw [← y3]
    exact h
  have h0 : ρ.2.2.2.1 1761 100 = 0 := by
    have h := hA 100
    rw [if_neg (by decide)] at h
    rw [← h]
    exact of_decide_eq_true (m2.2 _ (List.mem_cons_of_mem _ List.mem_cons_self))
  have ea : ρ3.1 2848 = (sd X ρ (.op2 .ior (.arg 2848) (.int 16384))).1 := congrArg Prod.fst (m5 (2848, .op2 .ior (.arg 2848) (.int 16384)) (List.mem_cons_of_mem _ List.mem_cons_self))
  have eL : ρ3.1 60578 = ρ.1 60578 := (m4.1 60578 (by decide) (by decide)).1.trans (k4.1 60578 (by decide) (by decide)).1.symm
  have mo : sc X ρ3 (2, .op2 .iand (.op2 .iushr (.arg 2848) (.int 4)) (.int 1), .arg 60578) = false := by
    show decide (((ρ3.1 2848).toUInt32 >>> ((4 : Int32).toUInt32 &&& (31 : Int32).toUInt32)).toInt32 &&& 1 < ρ3.1 60578) = false
    rw [ea, eL]
    have q := tbv_ok (X := X) (ρ := ρ) (F := []) (a := .op2 .iand (.op2 .iushr (.op2 .ior (.arg 2848) (.int 16384)) (.int 4)) (.int 1)) (b := .op2 .iand (.op2 .iushr (.arg 2848) (.int 4)) (.int 1)) ⟨hF.1, fun f hf => by cases hf⟩ (by decide +kernel)
    rw [sv_int rfl, sv_int rfl] at q
    exact mn_e (Value.int.inj q) (of_decide_eq_true (hF.2 _ (List.mem_cons_of_mem _ (List.mem_cons_of_mem _ (List.mem_cons_of_mem _ (List.mem_cons_of_mem _ (List.mem_cons_of_mem _ (List.mem_cons_of_mem _ (List.mem_cons_of_mem _ (List.mem_cons_of_mem _ (List.mem_cons_self)))))))))))
  exact t_wE2 hv ρ3 m1 ⟨m2.1, fcn (ev_rw (g := ρ.2.2.2.1 1761) (m := 100) (p := 103) (hF.2 _ (List.mem_cons_of_mem _ (List.mem_cons_of_mem _ (List.mem_cons_of_mem _ (List.mem_cons_of_mem _ (List.mem_cons_of_mem _ (List.mem_cons_of_mem _ (List.mem_cons_self)))))))) (by decide) hk hA h0 (by decide +kernel)) (fcn (pd_up (X := X) (p := 103) (c := 16384) (z := [7938, 21280]) (hF.2 _ (List.mem_cons_of_mem _ (List.mem_cons_of_mem _ (List.mem_cons_of_mem _ (List.mem_cons_of_mem _ (List.mem_cons_of_mem _ (List.mem_cons_of_mem _ (List.mem_cons_of_mem _ (List.mem_cons_self))))))))) hA (fun x hx => m5 x (List.mem_cons_of_mem _ hx)) k4 m4 wm_2 wb_2 (by decide +kernel)) (fcn (mo) (fnl)))⟩ m3 m4)))
theorem t_wq103i {X : pX} {ρ0 : sR} (hv : vok X ρ0) : CUTOK X kR zWP c_wn2 8 ρ0 q_wq103i := fun ρ k1 hF hI k4 => by
  have b0 := rl_lf (x := ρ.2.1 60033) (y := 0) (hF.2 _ (List.mem_cons_of_mem _ (List.mem_cons_of_mem _ (List.mem_cons_self))))
  have b1 := rl_lf (x := 4294967295) (y := ρ.2.1 60033) (hF.2 _ (List.mem_cons_of_mem _ (List.mem_cons_of_mem _ (List.mem_cons_of_mem _ (List.mem_cons_self)))))
  have y0 : (0 : Int64).toInt = 0 := by decide +kernel
  have y1 : (4294967295 : Int64).toInt = 4294967295 := by decide +kernel
  rw [y0] at b0
  rw [y1] at b1
  by_cases h : evs 12 (ρ.2.1 60033).toInt = true
  · exact t_wq103ir1 hv ρ k1 ⟨hF.1, fcn (decide_eq_true (show ((1 : Int32)).toInt = (if evs 12 (ρ.2.1 60033).toInt = true then 1 else 0) by rw [if_pos h]; rfl)) (fcn (wn_129 (p := 103) (q := 103) rfl et_103 b0 b1 h) (hF.2))⟩ hI k4
  · exact t_wq103ir0 hv ρ k1 ⟨hF.1, fcn (decide_eq_true (show ((0 : Int32)).toInt = (if evs 12 (ρ.2.1 60033).toInt = true then 1 else 0) by rw [if_neg h]; rfl)) (hF.2)⟩ hI k4
theorem t_wq103 {X : pX} {ρ0 : sR} (hv : vok X ρ0) : CUTOK X kR zWP c_wn2 8 ρ0 q_wq103 := CUT_mono (t_wq103i hv) (fun ρ hF hI => by
  have b0 := rl_lf (x := ρ.2.1 60033) (y := 0) (hF.2 _ (List.mem_cons_of_mem _ (List.mem_cons_of_mem _ (List.mem_cons_self))))
  have b1 := rl_lf (x := 4294967295) (y := ρ.2.1 60033) (hF.2 _ (List.mem_cons_of_mem _ (List.mem_cons_of_mem _ (List.mem_cons_of_mem _ (List.mem_cons_self)))))
  have y0 : (0 : Int64).toInt = 0 := by decide +kernel
  have y1 : (4294967295 : Int64).toInt = 4294967295 := by decide +kernel
  rw [y0] at b0
  rw [y1] at b1
  exact ⟨hF, ik_c (fun hg => decide_eq_true (of_1 (x := ρ.2.2.2.1 1761 81) (of_decide_eq_false (hg _ List.mem_cons_self)))) (ik_c (fun hg => decide_eq_true (of_0 (x := ρ.2.2.2.1 1761 81) (of_decide_eq_true (hg _ List.mem_cons_self)))) (hI))⟩)
theorem e_wp103 : frun kR [] (cpl1 zWP (c_wp2 103) [q_wq103]) (cpl2 zWP (c_wp2 103) [q_wq103]) (cleaf kR zWP (c_wp2 103) [q_wq103]) 300 65536 (isatP ((c_wp2 103).2.2.2.1) (c_wp2 103).2.2.2.2.2.2.2.1) (c_wp2 103).2.2.2.2.2.2.2.1 (sin0 mt_all (c_wp2 103).1.1 8 (c_wp2 103).2.1.1 (foot zWP (c_wp2 103).2.2.1.1)) (sin0 mt_all (c_wp2 103).1.2.1 8 (c_wp2 103).2.1.2 (foot zWP (c_wp2 103).2.2.1.2)) = true := by decide +kernel
theorem s_wp103 {X : pX} : SREL X pF pdfl mt_all kR zWP (c_wp2 103) := SREL_QC kR_x kR_0 (Cs := []) (fun C hC => by cases hC) (d := 8) rfl (c_wp2_f 103) (Q := [q_wq103]) (fun ρ0 hv => fun q hq => by
    simp only [List.mem_cons, List.not_mem_nil, or_false] at hq
    rw [hq]; exact (t_wq103 hv : CUTOK X kR zWP c_wn2 8 ρ0 q_wq103)) (QC_run 300 e_wp103)
theorem et_104 : evt[104]? = some (0, 4294967295, 12) := by decide +kernel
noncomputable def zf98ve_32 : sQ × Bool := ((129, .int 104, .arg 60033), true)
noncomputable def q_wR104 : sCut := ((fr 0 10 53 [] [], [fr 0 5 23 [(4, .int 0)] [], fBot], 7), (fr 0 281 150 [] [], [fr 0 277 91 [(3, .int 0)] [], fBot], 7), [zf98ve_32, zf98ve_27], [zi98ve_2, zi98ve_3])
noncomputable def q_wq104 : sCut := ((fr 0 5 0 [(0, tr 57), (1, .int 104), (2, .arg 60033)] [], [fBot], 8), (fr 0 277 35 [(0, tr 219), (1, .arg 1308), (2, .int 104)] [], [fBot], 8), [zf98ve_4, zf98ve_5, zf98ve_6, zf98ve_7, zf98ve_8, zf98ve_9, zf98ve_10, zf98ve_11], [zi98ve_2, zi98ve_3])
noncomputable def q_wq104i : sCut := ((fr 0 5 0 [(0, tr 57), (1, .int 104), (2, .arg 60033)] [], [fBot], 8), (fr 0 277 35 [(0, tr 219), (1, .arg 1308), (2, .int 104)] [], [fBot], 8), [zf98ve_4, zf98ve_5, zf98ve_6, zf98ve_7, zf98ve_8, zf98ve_9, zf98ve_10, zf98ve_11], [zi98ve_28, zi98ve_29, zi98ve_2, zi98ve_3])
noncomputable def q_wq104ir0 : sCut := ((fr 0 5 0 [(0, tr 57), (1, .int 104), (2, .arg 60033)] [], [fBot], 8), (fr 0 277 35 [(0, tr 219), (1, .arg 1308), (2, .int 104)] [], [fBot], 8), [zf98ve_14, zf98ve_4, zf98ve_5, zf98ve_6, zf98ve_7, zf98ve_8, zf98ve_9, zf98ve_10, zf98ve_11], [zi98ve_28, zi98ve_29, zi98ve_2, zi98ve_3])
theorem k_wq104ir0 : cbody kR [(zWP, c_mp120)] (cpl1 zWP c_wn2 []) (cpl2 zWP c_wn2 []) (cleaf kR zWP c_wn2 []) 1500 true true q_wq104ir0.2.2.1 q_wq104ir0.2.2.2 (cst zWP c_wn2.2.2.1.1 q_wq104ir0.1) (cst zWP c_wn2.2.2.1.2 q_wq104ir0.2.1) = true := by decide +kernel
theorem t_wq104ir0 {X : pX} {ρ0 : sR} (hv : vok X ρ0) : CUTOK X kR zWP c_wn2 8 ρ0 q_wq104ir0 := CUT_run kR_x kR_0 (Cs := [(zWP, c_mp120)]) (fun C hC => by rw [List.mem_singleton.mp hC]; exact s_mp120) c_wn2_f (Q := []) hv (fun q hq => by cases hq) 1500 (b1 := true) (b2 := true) k_wq104ir0
noncomputable def q_wq104ir1 : sCut := ((fr 0 5 0 [(0, tr 57), (1, .int 104), (2, .arg 60033)] [], [fBot], 8), (fr 0 277 35 [(0, tr 219), (1, .arg 1308), (2, .int 104)] [], [fBot], 8), [zf98ve_15, zf98ve_32, zf98ve_4, zf98ve_5, zf98ve_6, zf98ve_7, zf98ve_8, zf98ve_9, zf98ve_10, zf98ve_11], [zi98ve_28, zi98ve_29, zi98ve_2, zi98ve_3])
noncomputable def w_wq104ir1 : List (sCut × List (Nat × sT) × List (Nat × sT × List (sT × sT))) := [(q_wR104, [(60033, .arg 60033), (2848, .op2 .ior (.arg 2848) (.int 16384)), (6850, .arg 6850), (6882, .arg 6882), (6914, .arg 6914), (6946, .arg 6946), (7362, .arg 7362), (7394, .arg 7394), (7426, .arg 7426), (7458, .arg 7458), (7874, .arg 7874), (7906, .arg 7906), (7938, .int 0), (7970, .arg 7970), (21216, .arg 21216), (21248, .arg 21248), (21280, .int 0), (21312, .arg 21312), (6466, .arg 6466), (6498, .arg 6498)], [(1761, .arg 1761, [(.int 104, .arg 60033)])])]
theorem k_wq104ir1 : cbody kR [(zWP, c_mp121)] (cpl1 zWP c_wn2 [q_wR104]) (cpl2 zWP c_wn2 [q_wR104]) (cleafB kR zWP c_wn2 w_wq104ir1) 1500 true true q_wq104ir1.2.2.1 q_wq104ir1.2.2.2 (cst zWP c_wn2.2.2.1.1 q_wq104ir1.1) (cst zWP c_wn2.2.2.1.2 q_wq104ir1.2.1) = true := by decide +kernel
theorem t_wq104ir1 {X : pX} {ρ0 : sR} (hv : vok X ρ0) : CUTOK X kR zWP c_wn2 8 ρ0 q_wq104ir1 := CUTOK_AT (fun ρ k1 hF hI k4 => AT_of (q := q_wq104ir1) rfl rfl (SEM_runB kR_x kR_0 (Cs := [(zWP, c_mp121)]) (fun C hC => by rw [List.mem_singleton.mp hC]; exact s_mp121) c_wn2_f (Q := w_wq104ir1) hv 1500 (b1 := true) (b2 := true) k_wq104ir1 k1 hF hI k4 (fun p hp ρ3 m1 m2 m3 m4 m5 m6 => by
  rw [List.mem_singleton.mp hp] at m2 m3 m5 m6 ⊢
  have y3 : ρ3.2.1 60033 = ρ.2.1 60033 := congrArg Prod.snd (m5 (60033, .arg 60033) List.mem_cons_self)
  have hA : ∀ j, ρ3.2.2.2.1 1761 j = if 104 = j then ρ.2.1 60033 else ρ.2.2.2.1 1761 j := fun j => ad_l (X := X) (p := 104) (t := .arg 60033) rfl (m6 _ List.mem_cons_self) j
  have hk : evk 104 (ρ.2.1 60033).toInt = true := by
    have h := m2.2 _ List.mem_cons_self
    rw [← y3]
    exact h
  have h0 : ρ.2.2.2.1 1761 100 = 0 := by
    have h := hA 100
    rw [if_neg (by decide)] at h
    rw [← h]
    exact of_decide_eq_true (m2.2 _ (List.mem_cons_of_mem _ List.mem_cons_self))
  have ea : ρ3.1 2848 = (sd X ρ (.op2 .ior (.arg 2848) (.int 16384))).1 := congrArg Prod.fst (m5 (2848, .op2 .ior (.arg 2848) (.int 16384)) (List.mem_cons_of_mem _ List.mem_cons_self))
  have eL : ρ3.1 60578 = ρ.1 60578 := (m4.1 60578 (by decide) (by decide)).1.trans (k4.1 60578 (by decide) (by decide)).1.symm
  have mo : sc X ρ3 (2, .op2 .iand (.op2 .iushr (.arg 2848) (.int 4)) (.int 1), .arg 60578) = false := by
    show decide (((ρ3.1 2848).toUInt32 >>> ((4 : Int32).toUInt32 &&& (31 : Int32).toUInt32)).toInt32 &&& 1 < ρ3.1 60578) = false
    rw [ea, eL]
    have q := tbv_ok (X := X) (ρ := ρ) (F := []) (a := .op2 .iand (.op2 .iushr (.op2 .ior (.arg 2848) (.int 16384)) (.int 4)) (.int 1)) (b := .op2 .iand (.op2 .iushr (.arg 2848) (.int 4)) (.int 1)) ⟨hF.1, fun f hf => by cases hf⟩ (by decide +kernel)
    rw [sv_int rfl, sv_int rfl] at q
    exact mn_e (Value.int.inj q) (of_decide_eq_true (hF.2 _ (List.mem_cons_of_mem _ (List.mem_cons_of_mem _ (List.mem_cons_of_mem _ (List.mem_cons_of_mem _ (List.mem_cons_of_mem _ (List.mem_cons_of_mem _ (List.mem_cons_of_mem _ (List.mem_cons_of_mem _ (List.mem_cons_self)))))))))))
  exact t_wE2 hv ρ3 m1 ⟨m2.1, fcn (ev_rw (g := ρ.2.2.2.1 1761) (m := 100) (p := 104) (hF.2 _ (List.mem_cons_of_mem _ (List.mem_cons_of_mem _ (List.mem_cons_of_mem _ (List.mem_cons_of_mem _ (List.mem_cons_of_mem _ (List.mem_cons_of_mem _ (List.mem_cons_self)))))))) (by decide) hk hA h0 (by decide +kernel)) (fcn (pd_up (X := X) (p := 104) (c := 16384) (z := [7938, 21280]) (hF.2 _ (List.mem_cons_of_mem _ (List.mem_cons_of_mem _ (List.mem_cons_of_mem _ (List.mem_cons_of_mem _ (List.mem_cons_of_mem _ (List.mem_cons_of_mem _ (List.mem_cons_of_mem _ (List.mem_cons_self))))))))) hA (fun x hx => m5 x (List.mem_cons_of_mem _ hx)) k4 m4 wm_2 wb_2 (by decide +kernel)) (fcn (mo) (fnl)))⟩ m3 m4)))
theorem t_wq104i {X : pX} {ρ0 : sR} (hv : vok X ρ0) : CUTOK X kR zWP c_wn2 8 ρ0 q_wq104i := fun ρ k1 hF hI k4 => by
  have b0 := rl_lf (x := ρ.2.1 60033) (y := 0) (hF.2 _ (List.mem_cons_of_mem _ (List.mem_cons_of_mem _ (List.mem_cons_self))))
  have b1 := rl_lf (x := 4294967295) (y := ρ.2.1 60033) (hF.2 _ (List.mem_cons_of_mem _ (List.mem_cons_of_mem _ (List.mem_cons_of_mem _ (List.mem_cons_self)))))
  have y0 : (0 : Int64).toInt = 0 := by decide +kernel
  have y1 : (4294967295 : Int64).toInt = 4294967295 := by decide +kernel
  rw [y0] at b0
  rw [y1] at b1
  by_cases h : evs 12 (ρ.2.1 60033).toInt = true
  · exact t_wq104ir1 hv ρ k1 ⟨hF.1, fcn (decide_eq_true (show ((1 : Int32)).toInt = (if evs 12 (ρ.2.1 60033).toInt = true then 1 else 0) by rw [if_pos h]; rfl)) (fcn (wn_129 (p := 104) (q := 104) rfl et_104 b0 b1 h) (hF.2))⟩ hI k4
  · exact t_wq104ir0 hv ρ k1 ⟨hF.1, fcn (decide_eq_true (show ((0 : Int32)).toInt = (if evs 12 (ρ.2.1 60033).toInt = true then 1 else 0) by rw [if_neg h]; rfl)) (hF.2)⟩ hI k4
theorem t_wq104 {X : pX} {ρ0 : sR} (hv : vok X ρ0) : CUTOK X kR zWP c_wn2 8 ρ0 q_wq104 := CUT_mono (t_wq104i hv) (fun ρ hF hI => by
  have b0 := rl_lf (x := ρ.2.1 60033) (y := 0) (hF.2 _ (List.mem_cons_of_mem _ (List.mem_cons_of_mem _ (List.mem_cons_self))))
  have b1 := rl_lf (x := 4294967295) (y := ρ.2.1 60033) (hF.2 _ (List.mem_cons_of_mem _ (List.mem_cons_of_mem _ (List.mem_cons_of_mem _ (List.mem_cons_self)))))
  have y0 : (0 : Int64).toInt = 0 := by decide +kernel
  have y1 : (4294967295 : Int64).toInt = 4294967295 := by decide +kernel
  rw [y0] at b0
  rw [y1] at b1
  exact ⟨hF, ik_c (fun hg => decide_eq_true (of_1 (x := ρ.2.2.2.1 1761 81) (of_decide_eq_false (hg _ List.mem_cons_self)))) (ik_c (fun hg => decide_eq_true (of_0 (x := ρ.2.2.2.1 1761 81) (of_decide_eq_true (hg _ List.mem_cons_self)))) (hI))⟩)
theorem e_wp104 : frun kR [] (cpl1 zWP (c_wp2 104) [q_wq104]) (cpl2 zWP (c_wp2 104) [q_wq104]) (cleaf kR zWP (c_wp2 104) [q_wq104]) 300 65536 (isatP ((c_wp2 104).2.2.2.1) (c_wp2 104).2.2.2.2.2.2.2.1) (c_wp2 104).2.2.2.2.2.2.2.1 (sin0 mt_all (c_wp2 104).1.1 8 (c_wp2 104).2.1.1 (foot zWP (c_wp2 104).2.2.1.1)) (sin0 mt_all (c_wp2 104).1.2.1 8 (c_wp2 104).2.1.2 (foot zWP (c_wp2 104).2.2.1.2)) = true := by decide +kernel
theorem s_wp104 {X : pX} : SREL X pF pdfl mt_all kR zWP (c_wp2 104) := SREL_QC kR_x kR_0 (Cs := []) (fun C hC => by cases hC) (d := 8) rfl (c_wp2_f 104) (Q := [q_wq104]) (fun ρ0 hv => fun q hq => by
    simp only [List.mem_cons, List.not_mem_nil, or_false] at hq
    rw [hq]; exact (t_wq104 hv : CUTOK X kR zWP c_wn2 8 ρ0 q_wq104)) (QC_run 300 e_wp104)
theorem et_106 : evt[106]? = some (0, 4294967295, 12) := by decide +kernel
noncomputable def zf98ve_33 : sQ × Bool := ((129, .int 106, .arg 60033), true)
noncomputable def zf98ve_34 : sQ × Bool := ((6, .elem (.arg 1761) (.int 105), .long 0), true)
noncomputable def q_wR106 : sCut := ((fr 0 10 53 [] [], [fr 0 5 23 [(4, .int 0)] [], fBot], 7), (fr 0 281 150 [] [], [fr 0 277 91 [(3, .int 0)] [], fBot], 7), [zf98ve_33, zf98ve_34], [zi98ve_2, zi98ve_3])
noncomputable def q_wq106 : sCut := ((fr 0 5 0 [(0, tr 57), (1, .int 106), (2, .arg 60033)] [], [fBot], 8), (fr 0 277 35 [(0, tr 219), (1, .arg 1308), (2, .int 106)] [], [fBot], 8), [zf98ve_4, zf98ve_5, zf98ve_6, zf98ve_7, zf98ve_8, zf98ve_9, zf98ve_10, zf98ve_11], [zi98ve_2, zi98ve_3])
noncomputable def zi98ve_35 : sFs × sQ × Bool := ([((6, .op2 .land (.elem (.arg 1761) (.int 86)) (.long 2147483648), .long 0), false)], (6, .op2 .land (.op2 .lshr (.elem (.arg 1761) (.int 86)) (.int 31)) (.long 1), .long 1), true)
noncomputable def zi98ve_36 : sFs × sQ × Bool := ([((6, .op2 .land (.elem (.arg 1761) (.int 86)) (.long 2147483648), .long 0), true)], (6, .op2 .land (.op2 .lshr (.elem (.arg 1761) (.int 86)) (.int 31)) (.long 1), .long 0), true)
noncomputable def q_wq106i : sCut := ((fr 0 5 0 [(0, tr 57), (1, .int 106), (2, .arg 60033)] [], [fBot], 8), (fr 0 277 35 [(0, tr 219), (1, .arg 1308), (2, .int 106)] [], [fBot], 8), [zf98ve_4, zf98ve_5, zf98ve_6, zf98ve_7, zf98ve_8, zf98ve_9, zf98ve_10, zf98ve_11], [zi98ve_35, zi98ve_36, zi98ve_2, zi98ve_3])
noncomputable def q_wq106ir0 : sCut := ((fr 0 5 0 [(0, tr 57), (1, .int 106), (2, .arg 60033)] [], [fBot], 8), (fr 0 277 35 [(0, tr 219), (1, .arg 1308), (2, .int 106)] [], [fBot], 8), [zf98ve_14, zf98ve_4, zf98ve_5, zf98ve_6, zf98ve_7, zf98ve_8, zf98ve_9, zf98ve_10, zf98ve_11], [zi98ve_35, zi98ve_36, zi98ve_2, zi98ve_3])
theorem k_wq106ir0 : cbody kR [(zWP, c_mp120)] (cpl1 zWP c_wn2 []) (cpl2 zWP c_wn2 []) (cleaf kR zWP c_wn2 []) 1500 true true q_wq106ir0.2.2.1 q_wq106ir0.2.2.2 (cst zWP c_wn2.2.2.1.1 q_wq106ir0.1) (cst zWP c_wn2.2.2.1.2 q_wq106ir0.2.1) = true := by decide +kernel
theorem t_wq106ir0 {X : pX} {ρ0 : sR} (hv : vok X ρ0) : CUTOK X kR zWP c_wn2 8 ρ0 q_wq106ir0 := CUT_run kR_x kR_0 (Cs := [(zWP, c_mp120)]) (fun C hC => by rw [List.mem_singleton.mp hC]; exact s_mp120) c_wn2_f (Q := []) hv (fun q hq => by cases hq) 1500 (b1 := true) (b2 := true) k_wq106ir0
noncomputable def q_wq106ir1 : sCut := ((fr 0 5 0 [(0, tr 57), (1, .int 106), (2, .arg 60033)] [], [fBot], 8), (fr 0 277 35 [(0, tr 219), (1, .arg 1308), (2, .int 106)] [], [fBot], 8), [zf98ve_15, zf98ve_33, zf98ve_4, zf98ve_5, zf98ve_6, zf98ve_7, zf98ve_8, zf98ve_9, zf98ve_10, zf98ve_11], [zi98ve_35, zi98ve_36, zi98ve_2, zi98ve_3])
noncomputable def w_wq106ir1 : List (sCut × List (Nat × sT) × List (Nat × sT × List (sT × sT))) := [(q_wR106, [(60033, .arg 60033), (2848, .op2 .ior (.arg 2848) (.int 32768)), (6850, .arg 6850), (6882, .arg 6882), (6914, .arg 6914), (6946, .arg 6946), (7362, .arg 7362), (7394, .arg 7394), (7426, .arg 7426), (7458, .arg 7458), (7874, .arg 7874), (7906, .arg 7906), (7938, .arg 7938), (7970, .int 0), (21216, .arg 21216), (21248, .arg 21248), (21280, .arg 21280), (21312, .int 0), (6466, .arg 6466), (6498, .arg 6498)], [(1761, .arg 1761, [(.int 106, .arg 60033)])])]
theorem k_wq106ir1 : cbody kR [(zWP, c_mp121)] (cpl1 zWP c_wn2 [q_wR106]) (cpl2 zWP c_wn2 [q_wR106]) (cleafB kR zWP c_wn2 w_wq106ir1) 1500 true true q_wq106ir1.2.2.1 q_wq106ir1.2.2.2 (cst zWP c_wn2.2.2.1.1 q_wq106ir1.1) (cst zWP c_wn2.2.2.1.2 q_wq106ir1.2.1) = true := by decide +kernel
theorem t_wq106ir1 {X : pX} {ρ0 : sR} (hv : vok X ρ0) : CUTOK X kR zWP c_wn2 8 ρ0 q_wq106ir1 := CUTOK_AT (fun ρ k1 hF hI k4 => AT_of (q := q_wq106ir1) rfl rfl (SEM_runB kR_x kR_0 (Cs := [(zWP, c_mp121)]) (fun C hC => by rw [List.mem_singleton.mp hC]; exact s_mp121) c_wn2_f (Q := w_wq106ir1) hv 1500 (b1 := true) (b2 := true) k_wq106ir1 k1 hF hI k4 (fun p hp ρ3 m1 m2 m3 m4 m5 m6 => by
  rw [List.mem_singleton.mp hp] at m2 m3 m5 m6 ⊢
  have y3 : ρ3.2.1 60033 = ρ.2.1 60033 := congrArg Prod.snd (m5 (60033, .arg 60033) List.mem_cons_self)
  have hA : ∀ j, ρ3.2.2.2.1 1761 j = if 106 = j then ρ.2.1 60033 else ρ.2.2.2.1 1761 j := fun j => ad_l (X := X) (p := 106) (t := .arg 60033) rfl (m6 _ List.mem_cons_self) j
  have hk : evk 106 (ρ.2.1 60033).toInt = true := by
    have h := m2.2 _ List.mem_cons_self
    rw [← y3]
    exact h
  have h0 : ρ.2.2.2.1 1761 105 = 0 := by
    have h := hA 105
    rw [if_neg (by decide)] at h
    rw [← h]
    exact of_decide_eq_true (m2.2 _ (List.mem_cons_of_mem _ List.mem_cons_self))
  have ea : ρ3.1 2848 = (sd X ρ (.op2 .ior (.arg 2848) (.int 32768))).1 := congrArg Prod.fst (m5 (2848, .op2 .ior (.arg 2848) (.int 32768)) (List.mem_cons_of_mem _ List.mem_cons_self))
  have eL : ρ3.1 60578 = ρ.1 60578 := (m4.1 60578 (by decide) (by decide)).1.trans (k4.1 60578 (by decide) (by decide)).1.symm
  have mo : sc X ρ3 (2, .op2 .iand (.op2 .iushr (.arg 2848) (.int 4)) (.int 1), .arg 60578) = false := by
    show decide (((ρ3.1 2848).toUInt32 >>> ((4 : Int32).toUInt32 &&& (31 : Int32).toUInt32)).toInt32 &&& 1 < ρ3.1 60578) = false
    rw [ea, eL]
    have q := tbv_ok (X := X) (ρ := ρ) (F := []) (a := .op2 .iand (.op2 .iushr (.op2 .ior (.arg 2848) (.int 32768)) (.int 4)) (.int 1)) (b := .op2 .iand (.op2 .iushr (.arg 2848) (.int 4)) (.int 1)) ⟨hF.1, fun f hf => by cases hf⟩ (by decide +kernel)
    rw [sv_int rfl, sv_int rfl] at q
    exact mn_e (Value.int.inj q) (of_decide_eq_true (hF.2 _ (List.mem_cons_of_mem _ (List.mem_cons_of_mem _ (List.mem_cons_of_mem _ (List.mem_cons_of_mem _ (List.mem_cons_of_mem _ (List.mem_cons_of_mem _ (List.mem_cons_of_mem _ (List.mem_cons_of_mem _ (List.mem_cons_self)))))))))))
  exact t_wE2 hv ρ3 m1 ⟨m2.1, fcn (ev_rw (g := ρ.2.2.2.1 1761) (m := 105) (p := 106) (hF.2 _ (List.mem_cons_of_mem _ (List.mem_cons_of_mem _ (List.mem_cons_of_mem _ (List.mem_cons_of_mem _ (List.mem_cons_of_mem _ (List.mem_cons_of_mem _ (List.mem_cons_self)))))))) (by decide) hk hA h0 (by decide +kernel)) (fcn (pd_up (X := X) (p := 106) (c := 32768) (z := [7970, 21312]) (hF.2 _ (List.mem_cons_of_mem _ (List.mem_cons_of_mem _ (List.mem_cons_of_mem _ (List.mem_cons_of_mem _ (List.mem_cons_of_mem _ (List.mem_cons_of_mem _ (List.mem_cons_of_mem _ (List.mem_cons_self))))))))) hA (fun x hx => m5 x (List.mem_cons_of_mem _ hx)) k4 m4 wm_2 wb_2 (by decide +kernel)) (fcn (mo) (fnl)))⟩ m3 m4)))
theorem t_wq106i {X : pX} {ρ0 : sR} (hv : vok X ρ0) : CUTOK X kR zWP c_wn2 8 ρ0 q_wq106i := fun ρ k1 hF hI k4 => by
  have b0 := rl_lf (x := ρ.2.1 60033) (y := 0) (hF.2 _ (List.mem_cons_of_mem _ (List.mem_cons_of_mem _ (List.mem_cons_self))))
  have b1 := rl_lf (x := 4294967295) (y := ρ.2.1 60033) (hF.2 _ (List.mem_cons_of_mem _ (List.mem_cons_of_mem _ (List.mem_cons_of_mem _ (List.mem_cons_self)))))
  have y0 : (0 : Int64).toInt = 0 := by decide +kernel
  have y1 : (4294967295 : Int64).toInt = 4294967295 := by decide +kernel
  rw [y0] at b0
  rw [y1] at b1
  by_cases h : evs 12 (ρ.2.1 60033).toInt = true
  · exact t_wq106ir1 hv ρ k1 ⟨hF.1, fcn (decide_eq_true (show ((1 : Int32)).toInt = (if evs 12 (ρ.2.1 60033).toInt = true then 1 else 0) by rw [if_pos h]; rfl)) (fcn (wn_129 (p := 106) (q := 106) rfl et_106 b0 b1 h) (hF.2))⟩ hI k4
  · exact t_wq106ir0 hv ρ k1 ⟨hF.1, fcn (decide_eq_true (show ((0 : Int32)).toInt = (if evs 12 (ρ.2.1 60033).toInt = true then 1 else 0) by rw [if_neg h]; rfl)) (hF.2)⟩ hI k4
theorem t_wq106 {X : pX} {ρ0 : sR} (hv : vok X ρ0) : CUTOK X kR zWP c_wn2 8 ρ0 q_wq106 := CUT_mono (t_wq106i hv) (fun ρ hF hI => by
  have b0 := rl_lf (x := ρ.2.1 60033) (y := 0) (hF.2 _ (List.mem_cons_of_mem _ (List.mem_cons_of_mem _ (List.mem_cons_self))))
  have b1 := rl_lf (x := 4294967295) (y := ρ.2.1 60033) (hF.2 _ (List.mem_cons_of_mem _ (List.mem_cons_of_mem _ (List.mem_cons_of_mem _ (List.mem_cons_self)))))
  have y0 : (0 : Int64).toInt = 0 := by decide +kernel
  have y1 : (4294967295 : Int64).toInt = 4294967295 := by decide +kernel
  rw [y0] at b0
  rw [y1] at b1
  exact ⟨hF, ik_c (fun hg => decide_eq_true (of_1 (x := ρ.2.2.2.1 1761 86) (of_decide_eq_false (hg _ List.mem_cons_self)))) (ik_c (fun hg => decide_eq_true (of_0 (x := ρ.2.2.2.1 1761 86) (of_decide_eq_true (hg _ List.mem_cons_self)))) (hI))⟩)
theorem e_wp106 : frun kR [] (cpl1 zWP (c_wp2 106) [q_wq106]) (cpl2 zWP (c_wp2 106) [q_wq106]) (cleaf kR zWP (c_wp2 106) [q_wq106]) 300 65536 (isatP ((c_wp2 106).2.2.2.1) (c_wp2 106).2.2.2.2.2.2.2.1) (c_wp2 106).2.2.2.2.2.2.2.1 (sin0 mt_all (c_wp2 106).1.1 8 (c_wp2 106).2.1.1 (foot zWP (c_wp2 106).2.2.1.1)) (sin0 mt_all (c_wp2 106).1.2.1 8 (c_wp2 106).2.1.2 (foot zWP (c_wp2 106).2.2.1.2)) = true := by decide +kernel
theorem s_wp106 {X : pX} : SREL X pF pdfl mt_all kR zWP (c_wp2 106) := SREL_QC kR_x kR_0 (Cs := []) (fun C hC => by cases hC) (d := 8) rfl (c_wp2_f 106) (Q := [q_wq106]) (fun ρ0 hv => fun q hq => by
    simp only [List.mem_cons, List.not_mem_nil, or_false] at hq
    rw [hq]; exact (t_wq106 hv : CUTOK X kR zWP c_wn2 8 ρ0 q_wq106)) (QC_run 300 e_wp106)
theorem et_107 : evt[107]? = some (0, 4294967295, 12) := by decide +kernel
noncomputable def zf98ve_37 : sQ × Bool := ((129, .int 107, .arg 60033), true)
noncomputable def q_wR107 : sCut := ((fr 0 10 53 [] [], [fr 0 5 23 [(4, .int 0)] [], fBot], 7), (fr 0 281 150 [] [], [fr 0 277 91 [(3, .int 0)] [], fBot], 7), [zf98ve_37, zf98ve_34], [zi98ve_2, zi98ve_3])
noncomputable def q_wq107 : sCut := ((fr 0 5 0 [(0, tr 57), (1, .int 107), (2, .arg 60033)] [], [fBot], 8), (fr 0 277 35 [(0, tr 219), (1, .arg 1308), (2, .int 107)] [], [fBot], 8), [zf98ve_4, zf98ve_5, zf98ve_6, zf98ve_7, zf98ve_8, zf98ve_9, zf98ve_10, zf98ve_11], [zi98ve_2, zi98ve_3])
noncomputable def q_wq107i : sCut := ((fr 0 5 0 [(0, tr 57), (1, .int 107), (2, .arg 60033)] [], [fBot], 8), (fr 0 277 35 [(0, tr 219), (1, .arg 1308), (2, .int 107)] [], [fBot], 8), [zf98ve_4, zf98ve_5, zf98ve_6, zf98ve_7, zf98ve_8, zf98ve_9, zf98ve_10, zf98ve_11], [zi98ve_35, zi98ve_36, zi98ve_2, zi98ve_3])
noncomputable def q_wq107ir0 : sCut := ((fr 0 5 0 [(0, tr 57), (1, .int 107), (2, .arg 60033)] [], [fBot], 8), (fr 0 277 35 [(0, tr 219), (1, .arg 1308), (2, .int 107)] [], [fBot], 8), [zf98ve_14, zf98ve_4, zf98ve_5, zf98ve_6, zf98ve_7, zf98ve_8, zf98ve_9, zf98ve_10, zf98ve_11], [zi98ve_35, zi98ve_36, zi98ve_2, zi98ve_3])
theorem k_wq107ir0 : cbody kR [(zWP, c_mp120)] (cpl1 zWP c_wn2 []) (cpl2 zWP c_wn2 []) (cleaf kR zWP c_wn2 []) 1500 true true q_wq107ir0.2.2.1 q_wq107ir0.2.2.2 (cst zWP c_wn2.2.2.1.1 q_wq107ir0.1) (cst zWP c_wn2.2.2.1.2 q_wq107ir0.2.1) = true := by decide +kernel
theorem t_wq107ir0 {X : pX} {ρ0 : sR} (hv : vok X ρ0) : CUTOK X kR zWP c_wn2 8 ρ0 q_wq107ir0 := CUT_run kR_x kR_0 (Cs := [(zWP, c_mp120)]) (fun C hC => by rw [List.mem_singleton.mp hC]; exact s_mp120) c_wn2_f (Q := []) hv (fun q hq => by cases hq) 1500 (b1 := true) (b2 := true) k_wq107ir0
noncomputable def q_wq107ir1 : sCut := ((fr 0 5 0 [(0, tr 57), (1, .int 107), (2, .arg 60033)] [], [fBot], 8), (fr 0 277 35 [(0, tr 219), (1, .arg 1308), (2, .int 107)] [], [fBot], 8), [zf98ve_15, zf98ve_37, zf98ve_4, zf98ve_5, zf98ve_6, zf98ve_7, zf98ve_8, zf98ve_9, zf98ve_10, zf98ve_11], [zi98ve_35, zi98ve_36, zi98ve_2, zi98ve_3])
noncomputable def w_wq107ir1 : List (sCut × List (Nat × sT) × List (Nat × sT × List (sT × sT))) := [(q_wR107, [(60033, .arg 60033), (2848, .op2 .ior (.arg 2848) (.int 32768)), (6850, .arg 6850), (6882, .arg 6882), (6914, .arg 6914), (6946, .arg 6946), (7362, .arg 7362), (7394, .arg 7394), (7426, .arg 7426), (7458, .arg 7458), (7874, .arg 7874), (7906, .arg 7906), (7938, .arg 7938), (7970, .int 0), (21216, .arg 21216), (21248, .arg 21248), (21280, .arg 21280), (21312, .int 0), (6466, .arg 6466), (6498, .arg 6498)], [(1761, .arg 1761, [(.int 107, .arg 60033)])])]
theorem k_wq107ir1 : cbody kR [(zWP, c_mp121)] (cpl1 zWP c_wn2 [q_wR107]) (cpl2 zWP c_wn2 [q_wR107]) (cleafB kR zWP c_wn2 w_wq107ir1) 1500 true true q_wq107ir1.2.2.1 q_wq107ir1.2.2.2 (cst zWP c_wn2.2.2.1.1 q_wq107ir1.1) (cst zWP c_wn2.2.2.1.2 q_wq107ir1.2.1) = true := by decide +kernel
theorem t_wq107ir1 {X : pX} {ρ0 : sR} (hv : vok X ρ0) : CUTOK X kR zWP c_wn2 8 ρ0 q_wq107ir1 := CUTOK_AT (fun ρ k1 hF hI k4 => AT_of (q := q_wq107ir1) rfl rfl (SEM_runB kR_x kR_0 (Cs := [(zWP, c_mp121)]) (fun C hC => by rw [List.mem_singleton.mp hC]; exact s_mp121) c_wn2_f (Q := w_wq107ir1) hv 1500 (b1 := true) (b2 := true) k_wq107ir1 k1 hF hI k4 (fun p hp ρ3 m1 m2 m3 m4 m5 m6 => by
  rw [List.mem_singleton.mp hp] at m2 m3 m5 m6 ⊢
  have y3 : ρ3.2.1 60033 = ρ.2.1 60033 := congrArg Prod.snd (m5 (60033, .arg 60033) List.mem_cons_self)
  have hA : ∀ j, ρ3.2.2.2.1 1761 j = if 107 = j then ρ.2.1 60033 else ρ.2.2.2.1 1761 j := fun j => ad_l (X := X) (p := 107) (t := .arg 60033) rfl (m6 _ List.mem_cons_self) j
  have hk : evk 107 (ρ.2.1 60033).toInt = true := by
    have h := m2.2 _ List.mem_cons_self
    rw [← y3]
    exact h
  have h0 : ρ.2.2.2.1 1761 105 = 0 := by
    have h := hA 105
    rw [if_neg (by decide)] at h
    rw [← h]
    exact of_decide_eq_true (m2.2 _ (List.mem_cons_of_mem _ List.mem_cons_self))
  have ea : ρ3.1 2848 = (sd X ρ (.op2 .ior (.arg 2848) (.int 32768))).1 := congrArg Prod.fst (m5 (2848, .op2 .ior (.arg 2848) (.int 32768)) (List.mem_cons_of_mem _ List.mem_cons_self))
  have eL : ρ3.1 60578 = ρ.1 60578 := (m4.1 60578 (by decide) (by decide)).1.trans (k4.1 60578 (by decide) (by decide)).1.symm
  have mo : sc X ρ3 (2, .op2 .iand (.op2 .iushr (.arg 2848) (.int 4)) (.int 1), .arg 60578) = false := by
    show decide (((ρ3.1 2848).toUInt32 >>> ((4 : Int32).toUInt32 &&& (31 : Int32).toUInt32)).toInt32 &&& 1 < ρ3.1 60578) = false
    rw [ea, eL]
    have q := tbv_ok (X := X) (ρ := ρ) (F := []) (a := .op2 .iand (.op2 .iushr (.op2 .ior (.arg 2848) (.int 32768)) (.int 4)) (.int 1)) (b := .op2 .iand (.op2 .iushr (.arg 2848) (.int 4)) (.int 1)) ⟨hF.1, fun f hf => by cases hf⟩ (by decide +kernel)
    rw [sv_int rfl, sv_int rfl] at q
    exact mn_e (Value.int.inj q) (of_decide_eq_true (hF.2 _ (List.mem_cons_of_mem _ (List.mem_cons_of_mem _ (List.mem_cons_of_mem _ (List.mem_cons_of_mem _ (List.mem_cons_of_mem _ (List.mem_cons_of_mem _ (List.mem_cons_of_mem _ (List.mem_cons_of_mem _ (List.mem_cons_self)))))))))))
  exact t_wE2 hv ρ3 m1 ⟨m2.1, fcn (ev_rw (g := ρ.2.2.2.1 1761) (m := 105) (p := 107) (hF.2 _ (List.mem_cons_of_mem _ (List.mem_cons_of_mem _ (List.mem_cons_of_mem _ (List.mem_cons_of_mem _ (List.mem_cons_of_mem _ (List.mem_cons_of_mem _ (List.mem_cons_self)))))))) (by decide) hk hA h0 (by decide +kernel)) (fcn (pd_up (X := X) (p := 107) (c := 32768) (z := [7970, 21312]) (hF.2 _ (List.mem_cons_of_mem _ (List.mem_cons_of_mem _ (List.mem_cons_of_mem _ (List.mem_cons_of_mem _ (List.mem_cons_of_mem _ (List.mem_cons_of_mem _ (List.mem_cons_of_mem _ (List.mem_cons_self))))))))) hA (fun x hx => m5 x (List.mem_cons_of_mem _ hx)) k4 m4 wm_2 wb_2 (by decide +kernel)) (fcn (mo) (fnl)))⟩ m3 m4)))
theorem t_wq107i {X : pX} {ρ0 : sR} (hv : vok X ρ0) : CUTOK X kR zWP c_wn2 8 ρ0 q_wq107i := fun ρ k1 hF hI k4 => by
  have b0 := rl_lf (x := ρ.2.1 60033) (y := 0) (hF.2 _ (List.mem_cons_of_mem _ (List.mem_cons_of_mem _ (List.mem_cons_self))))
  have b1 := rl_lf (x := 4294967295) (y := ρ.2.1 60033) (hF.2 _ (List.mem_cons_of_mem _ (List.mem_cons_of_mem _ (List.mem_cons_of_mem _ (List.mem_cons_self)))))
  have y0 : (0 : Int64).toInt = 0 := by decide +kernel
  have y1 : (4294967295 : Int64).toInt = 4294967295 := by decide +kernel
  rw [y0] at b0
  rw [y1] at b1
  by_cases h : evs 12 (ρ.2.1 60033).toInt = true
  · exact t_wq107ir1 hv ρ k1 ⟨hF.1, fcn (decide_eq_true (show ((1 : Int32)).toInt = (if evs 12 (ρ.2.1 60033).toInt = true then 1 else 0) by rw [if_pos h]; rfl)) (fcn (wn_129 (p := 107) (q := 107) rfl et_107 b0 b1 h) (hF.2))⟩ hI k4
  · exact t_wq107ir0 hv ρ k1 ⟨hF.1, fcn (decide_eq_true (show ((0 : Int32)).toInt = (if evs 12 (ρ.2.1 60033).toInt = true then 1 else 0) by rw [if_neg h]; rfl)) (hF.2)⟩ hI k4
theorem t_wq107 {X : pX} {ρ0 : sR} (hv : vok X ρ0) : CUTOK X kR zWP c_wn2 8 ρ0 q_wq107 := CUT_mono (t_wq107i hv) (fun ρ hF hI => by
  have b0 := rl_lf (x := ρ.2.1 60033) (y := 0) (hF.2 _ (List.mem_cons_of_mem _ (List.mem_cons_of_mem _ (List.mem_cons_self))))
  have b1 := rl_lf (x := 4294967295) (y := ρ.2.1 60033) (hF.2 _ (List.mem_cons_of_mem _ (List.mem_cons_of_mem _ (List.mem_cons_of_mem _ (List.mem_cons_self)))))
  have y0 : (0 : Int64).toInt = 0 := by decide +kernel
  have y1 : (4294967295 : Int64).toInt = 4294967295 := by decide +kernel
  rw [y0] at b0
  rw [y1] at b1
  exact ⟨hF, ik_c (fun hg => decide_eq_true (of_1 (x := ρ.2.2.2.1 1761 86) (of_decide_eq_false (hg _ List.mem_cons_self)))) (ik_c (fun hg => decide_eq_true (of_0 (x := ρ.2.2.2.1 1761 86) (of_decide_eq_true (hg _ List.mem_cons_self)))) (hI))⟩)
theorem e_wp107 : frun kR [] (cpl1 zWP (c_wp2 107) [q_wq107]) (cpl2 zWP (c_wp2 107) [q_wq107]) (cleaf kR zWP (c_wp2 107) [q_wq107]) 300 65536 (isatP ((c_wp2 107).2.2.2.1) (c_wp2 107).2.2.2.2.2.2.2.1) (c_wp2 107).2.2.2.2.2.2.2.1 (sin0 mt_all (c_wp2 107).1.1 8 (c_wp2 107).2.1.1 (foot zWP (c_wp2 107).2.2.1.1)) (sin0 mt_all (c_wp2 107).1.2.1 8 (c_wp2 107).2.1.2 (foot zWP (c_wp2 107).2.2.1.2)) = true := by decide +kernel
theorem s_wp107 {X : pX} : SREL X pF pdfl mt_all kR zWP (c_wp2 107) := SREL_QC kR_x kR_0 (Cs := []) (fun C hC => by cases hC) (d := 8) rfl (c_wp2_f 107) (Q := [q_wq107]) (fun ρ0 hv => fun q hq => by
    simp only [List.mem_cons, List.not_mem_nil, or_false] at hq
    rw [hq]; exact (t_wq107 hv : CUTOK X kR zWP c_wn2 8 ρ0 q_wq107)) (QC_run 300 e_wp107)
theorem et_108 : evt[108]? = some (0, 4294967295, 12) := by decide +kernel
noncomputable def zf98ve_38 : sQ × Bool := ((129, .int 108, .arg 60033), true)
noncomputable def q_wR108 : sCut := ((fr 0 10 53 [] [], [fr 0 5 23 [(4, .int 0)] [], fBot], 7), (fr 0 281 150 [] [], [fr 0 277 91 [(3, .int 0)] [], fBot], 7), [zf98ve_38, zf98ve_34], [zi98ve_2, zi98ve_3])
noncomputable def q_wq108 : sCut := ((fr 0 5 0 [(0, tr 57), (1, .int 108), (2, .arg 60033)] [], [fBot], 8), (fr 0 277 35 [(0, tr 219), (1, .arg 1308), (2, .int 108)] [], [fBot], 8), [zf98ve_4, zf98ve_5, zf98ve_6, zf98ve_7, zf98ve_8, zf98ve_9, zf98ve_10, zf98ve_11], [zi98ve_2, zi98ve_3])
noncomputable def q_wq108i : sCut := ((fr 0 5 0 [(0, tr 57), (1, .int 108), (2, .arg 60033)] [], [fBot], 8), (fr 0 277 35 [(0, tr 219), (1, .arg 1308), (2, .int 108)] [], [fBot], 8), [zf98ve_4, zf98ve_5, zf98ve_6, zf98ve_7, zf98ve_8, zf98ve_9, zf98ve_10, zf98ve_11], [zi98ve_35, zi98ve_36, zi98ve_2, zi98ve_3])
noncomputable def q_wq108ir0 : sCut := ((fr 0 5 0 [(0, tr 57), (1, .int 108), (2, .arg 60033)] [], [fBot], 8), (fr 0 277 35 [(0, tr 219), (1, .arg 1308), (2, .int 108)] [], [fBot], 8), [zf98ve_14, zf98ve_4, zf98ve_5, zf98ve_6, zf98ve_7, zf98ve_8, zf98ve_9, zf98ve_10, zf98ve_11], [zi98ve_35, zi98ve_36, zi98ve_2, zi98ve_3])
theorem k_wq108ir0 : cbody kR [(zWP, c_mp120)] (cpl1 zWP c_wn2 []) (cpl2 zWP c_wn2 []) (cleaf kR zWP c_wn2 []) 1500 true true q_wq108ir0.2.2.1 q_wq108ir0.2.2.2 (cst zWP c_wn2.2.2.1.1 q_wq108ir0.1) (cst zWP c_wn2.2.2.1.2 q_wq108ir0.2.1) = true := by decide +kernel
theorem t_wq108ir0 {X : pX} {ρ0 : sR} (hv : vok X ρ0) : CUTOK X kR zWP c_wn2 8 ρ0 q_wq108ir0 := CUT_run kR_x kR_0 (Cs := [(zWP, c_mp120)]) (fun C hC => by rw [List.mem_singleton.mp hC]; exact s_mp120) c_wn2_f (Q := []) hv (fun q hq => by cases hq) 1500 (b1 := true) (b2 := true) k_wq108ir0
noncomputable def q_wq108ir1 : sCut := ((fr 0 5 0 [(0, tr 57), (1, .int 108), (2, .arg 60033)] [], [fBot], 8), (fr 0 277 35 [(0, tr 219), (1, .arg 1308), (2, .int 108)] [], [fBot], 8), [zf98ve_15, zf98ve_38, zf98ve_4, zf98ve_5, zf98ve_6, zf98ve_7, zf98ve_8, zf98ve_9, zf98ve_10, zf98ve_11], [zi98ve_35, zi98ve_36, zi98ve_2, zi98ve_3])
noncomputable def w_wq108ir1 : List (sCut × List (Nat × sT) × List (Nat × sT × List (sT × sT))) := [(q_wR108, [(60033, .arg 60033), (2848, .op2 .ior (.arg 2848) (.int 32768)), (6850, .arg 6850), (6882, .arg 6882), (6914, .arg 6914), (6946, .arg 6946), (7362, .arg 7362), (7394, .arg 7394), (7426, .arg 7426), (7458, .arg 7458), (7874, .arg 7874), (7906, .arg 7906), (7938, .arg 7938), (7970, .int 0), (21216, .arg 21216), (21248, .arg 21248), (21280, .arg 21280), (21312, .int 0), (6466, .arg 6466), (6498, .arg 6498)], [(1761, .arg 1761, [(.int 108, .arg 60033)])])]
theorem k_wq108ir1 : cbody kR [(zWP, c_mp121)] (cpl1 zWP c_wn2 [q_wR108]) (cpl2 zWP c_wn2 [q_wR108]) (cleafB kR zWP c_wn2 w_wq108ir1) 1500 true true q_wq108ir1.2.2.1 q_wq108ir1.2.2.2 (cst zWP c_wn2.2.2.1.1 q_wq108ir1.1) (cst zWP c_wn2.2.2.1.2 q_wq108ir1.2.1) = true := by decide +kernel
theorem t_wq108ir1 {X : pX} {ρ0 : sR} (hv : vok X ρ0) : CUTOK X kR zWP c_wn2 8 ρ0 q_wq108ir1 := CUTOK_AT (fun ρ k1 hF hI k4 => AT_of (q := q_wq108ir1) rfl rfl (SEM_runB kR_x kR_0 (Cs := [(zWP, c_mp121)]) (fun C hC => by rw [List.mem_singleton.mp hC]; exact s_mp121) c_wn2_f (Q := w_wq108ir1) hv 1500 (b1 := true) (b2 := true) k_wq108ir1 k1 hF hI k4 (fun p hp ρ3 m1 m2 m3 m4 m5 m6 => by
  rw [List.mem_singleton.mp hp] at m2 m3 m5 m6 ⊢
  have y3 : ρ3.2.1 60033 = ρ.2.1 60033 := congrArg Prod.snd (m5 (60033, .arg 60033) List.mem_cons_self)
  have hA : ∀ j, ρ3.2.2.2.1 1761 j = if 108 = j then ρ.2.1 60033 else ρ.2.2.2.1 1761 j := fun j => ad_l (X := X) (p := 108) (t := .arg 60033) rfl (m6 _ List.mem_cons_self) j
  have hk : evk 108 (ρ.2.1 60033).toInt = true := by
    have h := m2.2 _ List.mem_cons_self
    rw [← y3]
    exact h
  have h0 : ρ.2.2.2.1 1761 105 = 0 := by
    have h := hA 105
    rw [if_neg (by decide)] at h
    rw [← h]
    exact of_decide_eq_true (m2.2 _ (List.mem_cons_of_mem _ List.mem_cons_self))
  have ea : ρ3.1 2848 = (sd X ρ (.op2 .ior (.arg 2848) (.int 32768))).1 := congrArg Prod.fst (m5 (2848, .op2 .ior (.arg 2848) (.int 32768)) (List.mem_cons_of_mem _ List.mem_cons_self))
  have eL : ρ3.1 60578 = ρ.1 60578 := (m4.1 60578 (by decide) (by decide)).1.trans (k4.1 60578 (by decide) (by decide)).1.symm
  have mo : sc X ρ3 (2, .op2 .iand (.op2 .iushr (.arg 2848) (.int 4)) (.int 1), .arg 60578) = false := by
    show decide (((ρ3.1 2848).toUInt32 >>> ((4 : Int32).toUInt32 &&& (31 : Int32).toUInt32)).toInt32 &&& 1 < ρ3.1 60578) = false
    rw [ea, eL]
    have q := tbv_ok (X := X) (ρ := ρ) (F := []) (a := .op2 .iand (.op2 .iushr (.op2 .ior (.arg 2848) (.int 32768)) (.int 4)) (.int 1)) (b := .op2 .iand (.op2 .iushr (.arg 2848) (.int 4)) (.int 1)) ⟨hF.1, fun f hf => by cases hf⟩ (by decide +kernel)
    rw [sv_int rfl, sv_int rfl] at q
    exact mn_e (Value.int.inj q) (of_decide_eq_true (hF.2 _ (List.mem_cons_of_mem _ (List.mem_cons_of_mem _ (List.mem_cons_of_mem _ (List.mem_cons_of_mem _ (List.mem_cons_of_mem _ (List.mem_cons_of_mem _ (List.mem_cons_of_mem _ (List.mem_cons_of_mem _ (List.mem_cons_self)))))))))))
  exact t_wE2 hv ρ3 m1 ⟨m2.1, fcn (ev_rw (g := ρ.2.2.2.1 1761) (m := 105) (p := 108) (hF.2 _ (List.mem_cons_of_mem _ (List.mem_cons_of_mem _ (List.mem_cons_of_mem _ (List.mem_cons_of_mem _ (List.mem_cons_of_mem _ (List.mem_cons_of_mem _ (List.mem_cons_self)))))))) (by decide) hk hA h0 (by decide +kernel)) (fcn (pd_up (X := X) (p := 108) (c := 32768) (z := [7970, 21312]) (hF.2 _ (List.mem_cons_of_mem _ (List.mem_cons_of_mem _ (List.mem_cons_of_mem _ (List.mem_cons_of_mem _ (List.mem_cons_of_mem _ (List.mem_cons_of_mem _ (List.mem_cons_of_mem _ (List.mem_cons_self))))))))) hA (fun x hx => m5 x (List.mem_cons_of_mem _ hx)) k4 m4 wm_2 wb_2 (by decide +kernel)) (fcn (mo) (fnl)))⟩ m3 m4)))
theorem t_wq108i {X : pX} {ρ0 : sR} (hv : vok X ρ0) : CUTOK X kR zWP c_wn2 8 ρ0 q_wq108i := fun ρ k1 hF hI k4 => by
  have b0 := rl_lf (x := ρ.2.1 60033) (y := 0) (hF.2 _ (List.mem_cons_of_mem _ (List.mem_cons_of_mem _ (List.mem_cons_self))))
  have b1 := rl_lf (x := 4294967295) (y := ρ.2.1 60033) (hF.2 _ (List.mem_cons_of_mem _ (List.mem_cons_of_mem _ (List.mem_cons_of_mem _ (List.mem_cons_self)))))
  have y0 : (0 : Int64).toInt = 0 := by decide +kernel
  have y1 : (4294967295 : Int64).toInt = 4294967295 := by decide +kernel
  rw [y0] at b0
  rw [y1] at b1
  by_cases h : evs 12 (ρ.2.1 60033).toInt = true
  · exact t_wq108ir1 hv ρ k1 ⟨hF.1, fcn (decide_eq_true (show ((1 : Int32)).toInt = (if evs 12 (ρ.2.1 60033).toInt = true then 1 else 0) by rw [if_pos h]; rfl)) (fcn (wn_129 (p := 108) (q := 108) rfl et_108 b0 b1 h) (hF.2))⟩ hI k4
  · exact t_wq108ir0 hv ρ k1 ⟨hF.1, fcn (decide_eq_true (show ((0 : Int32)).toInt = (if evs 12 (ρ.2.1 60033).toInt = true then 1 else 0) by rw [if_neg h]; rfl)) (hF.2)⟩ hI k4
theorem t_wq108 {X : pX} {ρ0 : sR} (hv : vok X ρ0) : CUTOK X kR zWP c_wn2 8 ρ0 q_wq108 := CUT_mono (t_wq108i hv) (fun ρ hF hI => by
  have b0 := rl_lf (x := ρ.2.1 60033) (y := 0) (hF.2 _ (List.mem_cons_of_mem _ (List.mem_cons_of_mem _ (List.mem_cons_self))))
  have b1 := rl_lf (x := 4294967295) (y := ρ.2.1 60033) (hF.2 _ (List.mem_cons_of_mem _ (List.mem_cons_of_mem _ (List.mem_cons_of_mem _ (List.mem_cons_self)))))
  have y0 : (0 : Int64).toInt = 0 := by decide +kernel
  have y1 : (4294967295 : Int64).toInt = 4294967295 := by decide +kernel
  rw [y0] at b0
  rw [y1] at b1
  exact ⟨hF, ik_c (fun hg => decide_eq_true (of_1 (x := ρ.2.2.2.1 1761 86) (of_decide_eq_false (hg _ List.mem_cons_self)))) (ik_c (fun hg => decide_eq_true (of_0 (x := ρ.2.2.2.1 1761 86) (of_decide_eq_true (hg _ List.mem_cons_self)))) (hI))⟩)
theorem e_wp108 : frun kR [] (cpl1 zWP (c_wp2 108) [q_wq108]) (cpl2 zWP (c_wp2 108) [q_wq108]) (cleaf kR zWP (c_wp2 108) [q_wq108]) 300 65536 (isatP ((c_wp2 108).2.2.2.1) (c_wp2 108).2.2.2.2.2.2.2.1) (c_wp2 108).2.2.2.2.2.2.2.1 (sin0 mt_all (c_wp2 108).1.1 8 (c_wp2 108).2.1.1 (foot zWP (c_wp2 108).2.2.1.1)) (sin0 mt_all (c_wp2 108).1.2.1 8 (c_wp2 108).2.1.2 (foot zWP (c_wp2 108).2.2.1.2)) = true := by decide +kernel
theorem s_wp108 {X : pX} : SREL X pF pdfl mt_all kR zWP (c_wp2 108) := SREL_QC kR_x kR_0 (Cs := []) (fun C hC => by cases hC) (d := 8) rfl (c_wp2_f 108) (Q := [q_wq108]) (fun ρ0 hv => fun q hq => by
    simp only [List.mem_cons, List.not_mem_nil, or_false] at hq
    rw [hq]; exact (t_wq108 hv : CUTOK X kR zWP c_wn2 8 ρ0 q_wq108)) (QC_run 300 e_wp108)
theorem et_109 : evt[109]? = some (0, 4294967295, 12) := by decide +kernel
noncomputable def zf98ve_39 : sQ × Bool := ((129, .int 109, .arg 60033), true)
noncomputable def q_wR109 : sCut := ((fr 0 10 53 [] [], [fr 0 5 23 [(4, .int 0)] [], fBot], 7), (fr 0 281 150 [] [], [fr 0 277 91 [(3, .int 0)] [], fBot], 7), [zf98ve_39, zf98ve_34], [zi98ve_2, zi98ve_3])
noncomputable def q_wq109 : sCut := ((fr 0 5 0 [(0, tr 57), (1, .int 109), (2, .arg 60033)] [], [fBot], 8), (fr 0 277 35 [(0, tr 219), (1, .arg 1308), (2, .int 109)] [], [fBot], 8), [zf98ve_4, zf98ve_5, zf98ve_6, zf98ve_7, zf98ve_8, zf98ve_9, zf98ve_10, zf98ve_11], [zi98ve_2, zi98ve_3])
noncomputable def q_wq109i : sCut := ((fr 0 5 0 [(0, tr 57), (1, .int 109), (2, .arg 60033)] [], [fBot], 8), (fr 0 277 35 [(0, tr 219), (1, .arg 1308), (2, .int 109)] [], [fBot], 8), [zf98ve_4, zf98ve_5, zf98ve_6, zf98ve_7, zf98ve_8, zf98ve_9, zf98ve_10, zf98ve_11], [zi98ve_35, zi98ve_36, zi98ve_2, zi98ve_3])
noncomputable def q_wq109ir0 : sCut := ((fr 0 5 0 [(0, tr 57), (1, .int 109), (2, .arg 60033)] [], [fBot], 8), (fr 0 277 35 [(0, tr 219), (1, .arg 1308), (2, .int 109)] [], [fBot], 8), [zf98ve_14, zf98ve_4, zf98ve_5, zf98ve_6, zf98ve_7, zf98ve_8, zf98ve_9, zf98ve_10, zf98ve_11], [zi98ve_35, zi98ve_36, zi98ve_2, zi98ve_3])
theorem k_wq109ir0 : cbody kR [(zWP, c_mp120)] (cpl1 zWP c_wn2 []) (cpl2 zWP c_wn2 []) (cleaf kR zWP c_wn2 []) 1500 true true q_wq109ir0.2.2.1 q_wq109ir0.2.2.2 (cst zWP c_wn2.2.2.1.1 q_wq109ir0.1) (cst zWP c_wn2.2.2.1.2 q_wq109ir0.2.1) = true := by decide +kernel
theorem t_wq109ir0 {X : pX} {ρ0 : sR} (hv : vok X ρ0) : CUTOK X kR zWP c_wn2 8 ρ0 q_wq109ir0 := CUT_run kR_x kR_0 (Cs := [(zWP, c_mp120)]) (fun C hC => by rw [List.mem_singleton.mp hC]; exact s_mp120) c_wn2_f (Q := []) hv (fun q hq => by cases hq) 1500 (b1 := true) (b2 := true) k_wq109ir0
noncomputable def q_wq109ir1 : sCut := ((fr 0 5 0 [(0, tr 57), (1, .int 109), (2, .arg 60033)] [], [fBot], 8), (fr 0 277 35 [(0, tr 219), (1, .arg 1308), (2, .int 109)] [], [fBot], 8), [zf98ve_15, zf98ve_39, zf98ve_4, zf98ve_5, zf98ve_6, zf98ve_7, zf98ve_8, zf98ve_9, zf98ve_10, zf98ve_11], [zi98ve_35, zi98ve_36, zi98ve_2, zi98ve_3])
noncomputable def w_wq109ir1 : List (sCut × List (Nat × sT) × List (Nat × sT × List (sT × sT))) := [(q_wR109, [(60033, .arg 60033), (2848, .op2 .ior (.arg 2848) (.int 32768)), (6850, .arg 6850), (6882, .arg 6882), (6914, .arg 6914), (6946, .arg 6946), (7362, .arg 7362), (7394, .arg 7394), (7426, .arg 7426), (7458, .arg 7458), (7874, .arg 7874), (7906, .arg 7906), (7938, .arg 7938), (7970, .int 0), (21216, .arg 21216), (21248, .arg 21248), (21280, .arg 21280), (21312, .int 0), (6466, .arg 6466), (6498, .arg 6498)], [(1761, .arg 1761, [(.int 109, .arg 60033)])])]
theorem k_wq109ir1 : cbody kR [(zWP, c_mp121)] (cpl1 zWP c_wn2 [q_wR109]) (cpl2 zWP c_wn2 [q_wR109]) (cleafB kR zWP c_wn2 w_wq109ir1) 1500 true true q_wq109ir1.2.2.1 q_wq109ir1.2.2.2 (cst zWP c_wn2.2.2.1.1 q_wq109ir1.1) (cst zWP c_wn2.2.2.1.2 q_wq109ir1.2.1) = true := by decide +kernel
theorem t_wq109ir1 {X : pX} {ρ0 : sR} (hv : vok X ρ0) : CUTOK X kR zWP c_wn2 8 ρ0 q_wq109ir1 := CUTOK_AT (fun ρ k1 hF hI k4 => AT_of (q := q_wq109ir1) rfl rfl (SEM_runB kR_x kR_0 (Cs := [(zWP, c_mp121)]) (fun C hC => by rw [List.mem_singleton.mp hC]; exact s_mp121) c_wn2_f (Q := w_wq109ir1) hv 1500 (b1 := true) (b2 := true) k_wq109ir1 k1 hF hI k4 (fun p hp ρ3 m1 m2 m3 m4 m5 m6 => by
  rw [List.mem_singleton.mp hp] at m2 m3 m5 m6 ⊢
  have y3 : ρ3.2.1 60033 = ρ.2.1 60033 := congrArg Prod.snd (m5 (60033, .arg 60033) List.mem_cons_self)
  have hA : ∀ j, ρ3.2.2.2.1 1761 j = if 109 = j then ρ.2.1 60033 else ρ.2.2.2.1 1761 j := fun j => ad_l (X := X) (p := 109) (t := .arg 60033) rfl (m6 _ List.mem_cons_self) j
  have hk : evk 109 (ρ.2.1 60033).toInt = true := by
    have h := m2.2 _ List.mem_cons_self
    rw [← y3]
    exact h
  have h0 : ρ.2.2.2.1 1761 105 = 0 := by
    have h := hA 105
    rw [if_neg (by decide)] at h
    rw [← h]
    exact of_decide_eq_true (m2.2 _ (List.mem_cons_of_mem _ List.mem_cons_self))
  have ea : ρ3.1 2848 = (sd X ρ (.op2 .ior (.arg 2848) (.int 32768))).1 := congrArg Prod.fst (m5 (2848, .op2 .ior (.arg 2848) (.int 32768)) (List.mem_cons_of_mem _ List.mem_cons_self))
  have eL : ρ3.1 60578 = ρ.1 60578 := (m4.1 60578 (by decide) (by decide)).1.trans (k4.1 60578 (by decide) (by decide)).1.symm
  have mo : sc X ρ3 (2, .op2 .iand (.op2 .iushr (.arg 2848) (.int 4)) (.int 1), .arg 60578) = false := by
    show decide (((ρ3.1 2848).toUInt32 >>> ((4 : Int32).toUInt32 &&& (31 : Int32).toUInt32)).toInt32 &&& 1 < ρ3.1 60578) = false
    rw [ea, eL]
    have q := tbv_ok (X := X) (ρ := ρ) (F := []) (a := .op2 .iand (.op2 .iushr (.op2 .ior (.arg 2848) (.int 32768)) (.int 4)) (.int 1)) (b := .op2 .iand (.op2 .iushr (.arg 2848) (.int 4)) (.int 1)) ⟨hF.1, fun f hf => by cases hf⟩ (by decide +kernel)
    rw [sv_int rfl, sv_int rfl] at q
    exact mn_e (Value.int.inj q) (of_decide_eq_true (hF.2 _ (List.mem_cons_of_mem _ (List.mem_cons_of_mem _ (List.mem_cons_of_mem _ (List.mem_cons_of_mem _ (List.mem_cons_of_mem _ (List.mem_cons_of_mem _ (List.mem_cons_of_mem _ (List.mem_cons_of_mem _ (List.mem_cons_self)))))))))))
  exact t_wE2 hv ρ3 m1 ⟨m2.1, fcn (ev_rw (g := ρ.2.2.2.1 1761) (m := 105) (p := 109) (hF.2 _ (List.mem_cons_of_mem _ (List.mem_cons_of_mem _ (List.mem_cons_of_mem _ (List.mem_cons_of_mem _ (List.mem_cons_of_mem _ (List.mem_cons_of_mem _ (List.mem_cons_self)))))))) (by decide) hk hA h0 (by decide +kernel)) (fcn (pd_up (X := X) (p := 109) (c := 32768) (z := [7970, 21312]) (hF.2 _ (List.mem_cons_of_mem _ (List.mem_cons_of_mem _ (List.mem_cons_of_mem _ (List.mem_cons_of_mem _ (List.mem_cons_of_mem _ (List.mem_cons_of_mem _ (List.mem_cons_of_mem _ (List.mem_cons_self))))))))) hA (fun x hx => m5 x (List.mem_cons_of_mem _ hx)) k4 m4 wm_2 wb_2 (by decide +kernel)) (fcn (mo) (fnl)))⟩ m3 m4)))
theorem t_wq109i {X : pX} {ρ0 : sR} (hv : vok X ρ0) : CUTOK X kR zWP c_wn2 8 ρ0 q_wq109i := fun ρ k1 hF hI k4 => by
  have b0 := rl_lf (x := ρ.2.1 60033) (y := 0) (hF.2 _ (List.mem_cons_of_mem _ (List.mem_cons_of_mem _ (List.mem_cons_self))))
  have b1 := rl_lf (x := 4294967295) (y := ρ.2.1 60033) (hF.2 _ (List.mem_cons_of_mem _ (List.mem_cons_of_mem _ (List.mem_cons_of_mem _ (List.mem_cons_self)))))
  have y0 : (0 : Int64).toInt = 0 := by decide +kernel
  have y1 : (4294967295 : Int64).toInt = 4294967295 := by decide +kernel
  rw [y0] at b0
  rw [y1] at b1
  by_cases h : evs 12 (ρ.2.1 60033).toInt = true
  · exact t_wq109ir1 hv ρ k1 ⟨hF.1, fcn (decide_eq_true (show ((1 : Int32)).toInt = (if evs 12 (ρ.2.1 60033).toInt = true then 1 else 0) by rw [if_pos h]; rfl)) (fcn (wn_129 (p := 109) (q := 109) rfl et_109 b0 b1 h) (hF.2))⟩ hI k4
  · exact t_wq109ir0 hv ρ k1 ⟨hF.1, fcn (decide_eq_true (show ((0 : Int32)).toInt = (if evs 12 (ρ.2.1 60033).toInt = true then 1 else 0) by rw [if_neg h]; rfl)) (hF.2)⟩ hI k4
theorem t_wq109 {X : pX} {ρ0 : sR} (hv : vok X ρ0) : CUTOK X kR zWP c_wn2 8 ρ0 q_wq109 := CUT_mono (t_wq109i hv) (fun ρ hF hI => by
  have b0 := rl_lf (x := ρ.2.1 60033) (y := 0) (hF.2 _ (List.mem_cons_of_mem _ (List.mem_cons_of_mem _ (List.mem_cons_self))))
  have b1 := rl_lf (x := 4294967295) (y := ρ.2.1 60033) (hF.2 _ (List.mem_cons_of_mem _ (List.mem_cons_of_mem _ (List.mem_cons_of_mem _ (List.mem_cons_self)))))
  have y0 : (0 : Int64).toInt = 0 := by decide +kernel
  have y1 : (4294967295 : Int64).toInt = 4294967295 := by decide +kernel
  rw [y0] at b0
  rw [y1] at b1
  exact ⟨hF, ik_c (fun hg => decide_eq_true (of_1 (x := ρ.2.2.2.1 1761 86) (of_decide_eq_false (hg _ List.mem_cons_self)))) (ik_c (fun hg => decide_eq_true (of_0 (x := ρ.2.2.2.1 1761 86) (of_decide_eq_true (hg _ List.mem_cons_self)))) (hI))⟩)
theorem e_wp109 : frun kR [] (cpl1 zWP (c_wp2 109) [q_wq109]) (cpl2 zWP (c_wp2 109) [q_wq109]) (cleaf kR zWP (c_wp2 109) [q_wq109]) 300 65536 (isatP ((c_wp2 109).2.2.2.1) (c_wp2 109).2.2.2.2.2.2.2.1) (c_wp2 109).2.2.2.2.2.2.2.1 (sin0 mt_all (c_wp2 109).1.1 8 (c_wp2 109).2.1.1 (foot zWP (c_wp2 109).2.2.1.1)) (sin0 mt_all (c_wp2 109).1.2.1 8 (c_wp2 109).2.1.2 (foot zWP (c_wp2 109).2.2.1.2)) = true := by decide +kernel
theorem s_wp109 {X : pX} : SREL X pF pdfl mt_all kR zWP (c_wp2 109) := SREL_QC kR_x kR_0 (Cs := []) (fun C hC => by cases hC) (d := 8) rfl (c_wp2_f 109) (Q := [q_wq109]) (fun ρ0 hv => fun q hq => by
    simp only [List.mem_cons, List.not_mem_nil, or_false] at hq
    rw [hq]; exact (t_wq109 hv : CUTOK X kR zWP c_wn2 8 ρ0 q_wq109)) (QC_run 300 e_wp109)
