set_option maxRecDepth 20000
theorem bi4_t : tbv [] (.op2 .iand (.op2 .iushr (.op2 .ior (.arg 2848) (.int 65295)) (.int 4)) (.int 1)) (.op2 .iand (.op2 .iushr (.arg 2848) (.int 4)) (.int 1)) = true := by decide +kernel
theorem bi4_v {X : pX} {ρ : sR} (hv : vok X ρ) : (sd X ρ (.op2 .iand (.op2 .iushr (.op2 .ior (.arg 2848) (.int 65295)) (.int 4)) (.int 1))).1 = (sd X ρ (.op2 .iand (.op2 .iushr (.arg 2848) (.int 4)) (.int 1))).1 := by
  have q := tbv_ok (X := X) (ρ := ρ) (F := []) ⟨hv, fun f hf => by cases hf⟩ bi4_t
  rw [sv_int rfl, sv_int rfl] at q
  exact Value.int.inj q
noncomputable def zf98zzzp_0 : sQ × Bool := ((156, .add (.elem (.arg 64321) (.int 0)) (.elem (.arg 64353) (.int 0)), .int 0), true)
noncomputable def zf98zzzp_1 : sQ × Bool := ((101, .elem (.arg 64353) (.int 0), .int 0), true)
noncomputable def zf98zzzp_2 : sQ × Bool := ((6, .elem (.arg 64321) (.int 1), .arg 60129), true)
noncomputable def zf98zzzp_3 : sQ × Bool := ((6, .elem (.arg 64353) (.int 114), .arg 60065), true)
noncomputable def zf98zzzp_4 : sQ × Bool := ((6, .elem (.arg 64353) (.int 123), .arg 60097), true)
noncomputable def zf98zzzp_5 : sQ × Bool := ((0, .arg 21728, .int 0), true)
noncomputable def zf98zzzp_6 : sQ × Bool := ((0, .op2 .iand (.op2 .iushr (.arg 2848) (.int 4)) (.int 1), .arg 60578), true)
noncomputable def zf98zzzp_7 : sQ × Bool := ((0, .arg 2784, .int 127), true)
noncomputable def zf98zzzp_8 : sQ × Bool := ((0, .arg 20064, .int 127), true)
noncomputable def zf98zzzp_9 : sQ × Bool := ((0, .arg 21216, .int 0), true)
noncomputable def zf98zzzp_10 : sQ × Bool := ((0, .arg 21248, .int 0), true)
noncomputable def zf98zzzp_11 : sQ × Bool := ((0, .arg 21280, .int 0), true)
noncomputable def zf98zzzp_12 : sQ × Bool := ((0, .arg 21312, .int 0), true)
noncomputable def zf98zzzp_13 : sQ × Bool := ((0, .op2 .iand (.arg 2848) (.int 65295), .int 65295), true)
noncomputable def q_ose1 : sCut := ((fr 0 41 0 [(0, tr 2), (1, .sub (.add (.arg 1308) (.int 1)) (.int 1)), (2, .add (.mul (.add (.add (.arg 1308) (.int 1)) (.int 1792)) (.int 32)) (.int 1)), (3, .long 0)] [], [fr 0 13 10 [(0, tr 49)] [], fr 0 60 59 [] [], fBot], 11), (fr 0 246 0 [(0, tr 219), (1, .arg 1308), (2, .add (.arg 1308) (.int 1793)), (3, .int 0), (4, .int 1), (5, .long 0)] [], [fr 0 300 101 [] [], fBot], 12), [zf98zzzp_0, zf98zzzp_1, zf98zzzp_2, zf98zzzp_3, zf98zzzp_4, zf98zzzp_5, ((0, .arg 1702, .int 0), true), ((0, .arg 3360, .int 0), true), ((0, .arg 1350, .int 0), true), ((0, .arg 1826, .int 0), true), zf98zzzp_6, zf98zzzp_7, zf98zzzp_8, ((0, .arg 2688, .int 0), true), ((0, .arg 6722, .int 0), true), ((0, .arg 9314, .int 0), true), ((0, .arg 6466, .int 0), true), ((0, .arg 6498, .int 0), true), ((0, .arg 6850, .int 0), true), ((0, .arg 6882, .int 0), true), ((0, .arg 6914, .int 0), true), ((0, .arg 6946, .int 0), true), ((0, .arg 7362, .int 0), true), ((0, .arg 7394, .int 0), true), ((0, .arg 7426, .int 0), true), ((0, .arg 7458, .int 0), true), ((0, .arg 7874, .int 0), true), ((0, .arg 7906, .int 0), true), ((0, .arg 7938, .int 0), true), ((0, .arg 7970, .int 0), true), zf98zzzp_9, zf98zzzp_10, zf98zzzp_11, zf98zzzp_12, zf98zzzp_13], i_bz)
noncomputable def q_ose1k0 : sCut := ((fr 0 41 0 [(0, tr 2), (1, .sub (.add (.arg 1308) (.int 1)) (.int 1)), (2, .add (.mul (.add (.add (.arg 1308) (.int 1)) (.int 1792)) (.int 32)) (.int 1)), (3, .long 0)] [], [fr 0 13 10 [(0, tr 49)] [], fr 0 60 59 [] [], fBot], 11), (fr 0 246 0 [(0, tr 219), (1, .arg 1308), (2, .add (.arg 1308) (.int 1793)), (3, .int 0), (4, .int 1), (5, .long 0)] [], [fr 0 300 101 [] [], fBot], 12), [((0, .arg 1308, .int 0), true), ((0, .arg 1290, .int 0), true), zf98zzzp_0, zf98zzzp_1, zf98zzzp_2, zf98zzzp_3, zf98zzzp_4, zf98zzzp_5, ((0, .arg 1702, .int 0), true), ((0, .arg 3360, .int 0), true), ((0, .arg 1350, .int 0), true), ((0, .arg 1826, .int 0), true), zf98zzzp_6, zf98zzzp_7, zf98zzzp_8, ((0, .arg 2688, .int 0), true), ((0, .arg 6722, .int 0), true), ((0, .arg 9314, .int 0), true), ((0, .arg 6466, .int 0), true), ((0, .arg 6498, .int 0), true), ((0, .arg 6850, .int 0), true), ((0, .arg 6882, .int 0), true), ((0, .arg 6914, .int 0), true), ((0, .arg 6946, .int 0), true), ((0, .arg 7362, .int 0), true), ((0, .arg 7394, .int 0), true), ((0, .arg 7426, .int 0), true), ((0, .arg 7458, .int 0), true), ((0, .arg 7874, .int 0), true), ((0, .arg 7906, .int 0), true), ((0, .arg 7938, .int 0), true), ((0, .arg 7970, .int 0), true), zf98zzzp_9, zf98zzzp_10, zf98zzzp_11, zf98zzzp_12, zf98zzzp_13], i_bz)
theorem k_ose1k0 : cbody kR [] (cpl1 zWB c_bn0 []) (cpl2 zWB c_bn0 []) (cleaf kR zWB c_bn0 []) 400 true true q_ose1k0.2.2.1 q_ose1k0.2.2.2 (cst zWB c_bn0.2.2.1.1 q_ose1k0.1) (cst zWB c_bn0.2.2.1.2 q_ose1k0.2.1) = true := by decide +kernel
theorem t_ose1k0 {X : pX} {ρ0 : sR} (hv : vok X ρ0) : CUTOK X kR zWB c_bn0 13 ρ0 q_ose1k0 := CUT_run kR_x kR_0 (Cs := []) (fun C hC => by cases hC) c_bn0_f (Q := []) hv (fun q hq => by cases hq) 400 (b1 := true) (b2 := true) k_ose1k0
noncomputable def q_ose1k1 : sCut := ((fr 0 41 0 [(0, tr 2), (1, .sub (.add (.arg 1308) (.int 1)) (.int 1)), (2, .add (.mul (.add (.add (.arg 1308) (.int 1)) (.int 1792)) (.int 32)) (.int 1)), (3, .long 0)] [], [fr 0 13 10 [(0, tr 49)] [], fr 0 60 59 [] [], fBot], 11), (fr 0 246 0 [(0, tr 219), (1, .arg 1308), (2, .add (.arg 1308) (.int 1793)), (3, .int 0), (4, .int 1), (5, .long 0)] [], [fr 0 300 101 [] [], fBot], 12), [((0, .arg 1308, .int 1), true), ((0, .arg 1322, .int 0), true), zf98zzzp_0, zf98zzzp_1, zf98zzzp_2, zf98zzzp_3, zf98zzzp_4, zf98zzzp_5, ((0, .arg 1702, .int 0), true), ((0, .arg 3360, .int 0), true), ((0, .arg 1350, .int 0), true), ((0, .arg 1826, .int 0), true), zf98zzzp_6, zf98zzzp_7, zf98zzzp_8, ((0, .arg 2688, .int 0), true), ((0, .arg 6722, .int 0), true), ((0, .arg 9314, .int 0), true), ((0, .arg 6466, .int 0), true), ((0, .arg 6498, .int 0), true), ((0, .arg 6850, .int 0), true), ((0, .arg 6882, .int 0), true), ((0, .arg 6914, .int 0), true), ((0, .arg 6946, .int 0), true), ((0, .arg 7362, .int 0), true), ((0, .arg 7394, .int 0), true), ((0, .arg 7426, .int 0), true), ((0, .arg 7458, .int 0), true), ((0, .arg 7874, .int 0), true), ((0, .arg 7906, .int 0), true), ((0, .arg 7938, .int 0), true), ((0, .arg 7970, .int 0), true), zf98zzzp_9, zf98zzzp_10, zf98zzzp_11, zf98zzzp_12, zf98zzzp_13], i_bz)
theorem k_ose1k1 : cbody kR [] (cpl1 zWB c_bn0 []) (cpl2 zWB c_bn0 []) (cleaf kR zWB c_bn0 []) 400 true true q_ose1k1.2.2.1 q_ose1k1.2.2.2 (cst zWB c_bn0.2.2.1.1 q_ose1k1.1) (cst zWB c_bn0.2.2.1.2 q_ose1k1.2.1) = true := by decide +kernel
theorem t_ose1k1 {X : pX} {ρ0 : sR} (hv : vok X ρ0) : CUTOK X kR zWB c_bn0 13 ρ0 q_ose1k1 := CUT_run kR_x kR_0 (Cs := []) (fun C hC => by cases hC) c_bn0_f (Q := []) hv (fun q hq => by cases hq) 400 (b1 := true) (b2 := true) k_ose1k1
noncomputable def q_ose1k2 : sCut := ((fr 0 41 0 [(0, tr 2), (1, .sub (.add (.arg 1308) (.int 1)) (.int 1)), (2, .add (.mul (.add (.add (.arg 1308) (.int 1)) (.int 1792)) (.int 32)) (.int 1)), (3, .long 0)] [], [fr 0 13 10 [(0, tr 49)] [], fr 0 60 59 [] [], fBot], 11), (fr 0 246 0 [(0, tr 219), (1, .arg 1308), (2, .add (.arg 1308) (.int 1793)), (3, .int 0), (4, .int 1), (5, .long 0)] [], [fr 0 300 101 [] [], fBot], 12), [((0, .arg 1308, .int 2), true), ((0, .arg 1354, .int 0), true), zf98zzzp_0, zf98zzzp_1, zf98zzzp_2, zf98zzzp_3, zf98zzzp_4, zf98zzzp_5, ((0, .arg 1702, .int 0), true), ((0, .arg 3360, .int 0), true), ((0, .arg 1350, .int 0), true), ((0, .arg 1826, .int 0), true), zf98zzzp_6, zf98zzzp_7, zf98zzzp_8, ((0, .arg 2688, .int 0), true), ((0, .arg 6722, .int 0), true), ((0, .arg 9314, .int 0), true), ((0, .arg 6466, .int 0), true), ((0, .arg 6498, .int 0), true), ((0, .arg 6850, .int 0), true), ((0, .arg 6882, .int 0), true), ((0, .arg 6914, .int 0), true), ((0, .arg 6946, .int 0), true), ((0, .arg 7362, .int 0), true), ((0, .arg 7394, .int 0), true), ((0, .arg 7426, .int 0), true), ((0, .arg 7458, .int 0), true), ((0, .arg 7874, .int 0), true), ((0, .arg 7906, .int 0), true), ((0, .arg 7938, .int 0), true), ((0, .arg 7970, .int 0), true), zf98zzzp_9, zf98zzzp_10, zf98zzzp_11, zf98zzzp_12, zf98zzzp_13], i_bz)
theorem k_ose1k2 : cbody kR [] (cpl1 zWB c_bn0 []) (cpl2 zWB c_bn0 []) (cleaf kR zWB c_bn0 []) 400 true true q_ose1k2.2.2.1 q_ose1k2.2.2.2 (cst zWB c_bn0.2.2.1.1 q_ose1k2.1) (cst zWB c_bn0.2.2.1.2 q_ose1k2.2.1) = true := by decide +kernel
theorem t_ose1k2 {X : pX} {ρ0 : sR} (hv : vok X ρ0) : CUTOK X kR zWB c_bn0 13 ρ0 q_ose1k2 := CUT_run kR_x kR_0 (Cs := []) (fun C hC => by cases hC) c_bn0_f (Q := []) hv (fun q hq => by cases hq) 400 (b1 := true) (b2 := true) k_ose1k2
noncomputable def q_ose1k3 : sCut := ((fr 0 41 0 [(0, tr 2), (1, .sub (.add (.arg 1308) (.int 1)) (.int 1)), (2, .add (.mul (.add (.add (.arg 1308) (.int 1)) (.int 1792)) (.int 32)) (.int 1)), (3, .long 0)] [], [fr 0 13 10 [(0, tr 49)] [], fr 0 60 59 [] [], fBot], 11), (fr 0 246 0 [(0, tr 219), (1, .arg 1308), (2, .add (.arg 1308) (.int 1793)), (3, .int 0), (4, .int 1), (5, .long 0)] [], [fr 0 300 101 [] [], fBot], 12), [((0, .arg 1308, .int 3), true), ((0, .arg 1386, .int 0), true), zf98zzzp_0, zf98zzzp_1, zf98zzzp_2, zf98zzzp_3, zf98zzzp_4, zf98zzzp_5, ((0, .arg 1702, .int 0), true), ((0, .arg 3360, .int 0), true), ((0, .arg 1350, .int 0), true), ((0, .arg 1826, .int 0), true), zf98zzzp_6, zf98zzzp_7, zf98zzzp_8, ((0, .arg 2688, .int 0), true), ((0, .arg 6722, .int 0), true), ((0, .arg 9314, .int 0), true), ((0, .arg 6466, .int 0), true), ((0, .arg 6498, .int 0), true), ((0, .arg 6850, .int 0), true), ((0, .arg 6882, .int 0), true), ((0, .arg 6914, .int 0), true), ((0, .arg 6946, .int 0), true), ((0, .arg 7362, .int 0), true), ((0, .arg 7394, .int 0), true), ((0, .arg 7426, .int 0), true), ((0, .arg 7458, .int 0), true), ((0, .arg 7874, .int 0), true), ((0, .arg 7906, .int 0), true), ((0, .arg 7938, .int 0), true), ((0, .arg 7970, .int 0), true), zf98zzzp_9, zf98zzzp_10, zf98zzzp_11, zf98zzzp_12, zf98zzzp_13], i_bz)
theorem k_ose1k3 : cbody kR [] (cpl1 zWB c_bn0 []) (cpl2 zWB c_bn0 []) (cleaf kR zWB c_bn0 []) 400 true true q_ose1k3.2.2.1 q_ose1k3.2.2.2 (cst zWB c_bn0.2.2.1.1 q_ose1k3.1) (cst zWB c_bn0.2.2.1.2 q_ose1k3.2.1) = true := by decide +kernel
theorem t_ose1k3 {X : pX} {ρ0 : sR} (hv : vok X ρ0) : CUTOK X kR zWB c_bn0 13 ρ0 q_ose1k3 := CUT_run kR_x kR_0 (Cs := []) (fun C hC => by cases hC) c_bn0_f (Q := []) hv (fun q hq => by cases hq) 400 (b1 := true) (b2 := true) k_ose1k3
theorem t_ose1 {X : pX} {ρ0 : sR} (hv : vok X ρ0) : CUTOK X kR zWB c_bn0 13 ρ0 q_ose1 := fun ρ k1 hF hI k4 => by
  obtain ⟨d0, d4⟩ := d_r hF.1
  rcases (show (ρ.1 1308).toInt = 0 ∨ (ρ.1 1308).toInt = 1 ∨ (ρ.1 1308).toInt = 2 ∨ (ρ.1 1308).toInt = 3 by omega) with h | h | h | h
  · exact t_ose1k0 hv ρ k1 ⟨hF.1, fcn (decide_eq_true (show ρ.1 1308 = 0 from Int32.toInt_inj.mp h)) (fcn (hI ([((0, .arg 1308, .int 0), true)], (0, .arg 1290, .int 0), true) (List.mem_cons_self) (fun f hf => by rw [List.mem_singleton.mp hf]; exact decide_eq_true (show ρ.1 1308 = 0 from Int32.toInt_inj.mp h))) (hF.2))⟩ hI k4
  · exact t_ose1k1 hv ρ k1 ⟨hF.1, fcn (decide_eq_true (show ρ.1 1308 = 1 from Int32.toInt_inj.mp h)) (fcn (hI ([((0, .arg 1308, .int 1), true)], (0, .arg 1322, .int 0), true) (List.mem_cons_of_mem _ (List.mem_cons_of_mem _ (List.mem_cons_of_mem _ (List.mem_cons_self)))) (fun f hf => by rw [List.mem_singleton.mp hf]; exact decide_eq_true (show ρ.1 1308 = 1 from Int32.toInt_inj.mp h))) (hF.2))⟩ hI k4
  · exact t_ose1k2 hv ρ k1 ⟨hF.1, fcn (decide_eq_true (show ρ.1 1308 = 2 from Int32.toInt_inj.mp h)) (fcn (hI ([((0, .arg 1308, .int 2), true)], (0, .arg 1354, .int 0), true) (List.mem_cons_of_mem _ (List.mem_cons_of_mem _ (List.mem_cons_of_mem _ (List.mem_cons_of_mem _ (List.mem_cons_of_mem _ (List.mem_cons_of_mem _ (List.mem_cons_self))))))) (fun f hf => by rw [List.mem_singleton.mp hf]; exact decide_eq_true (show ρ.1 1308 = 2 from Int32.toInt_inj.mp h))) (hF.2))⟩ hI k4
  · exact t_ose1k3 hv ρ k1 ⟨hF.1, fcn (decide_eq_true (show ρ.1 1308 = 3 from Int32.toInt_inj.mp h)) (fcn (hI ([((0, .arg 1308, .int 3), true)], (0, .arg 1386, .int 0), true) (List.mem_cons_of_mem _ (List.mem_cons_of_mem _ (List.mem_cons_of_mem _ (List.mem_cons_of_mem _ (List.mem_cons_of_mem _ (List.mem_cons_of_mem _ (List.mem_cons_of_mem _ (List.mem_cons_of_mem _ (List.mem_cons_of_mem _ (List.mem_cons_self)))))))))) (fun f hf => by rw [List.mem_singleton.mp hf]; exact decide_eq_true (show ρ.1 1308 = 3 from Int32.toInt_inj.mp h))) (hF.2))⟩ hI k4
noncomputable def q_obe1m : sCut := ((fr 0 60 30 [(0, tr 39), (1, .int 0)] [], [fBot], 13), (fr 0 300 36 [(0, tr 219), (1, .arg 1308)] [], [fBot], 13), [((0, .op2 .iand (.op2 .iushr (.op2 .ior (.arg 2848) (.int 65295)) (.int 4)) (.int 1), .arg 60578), true), zf98zzzp_0, zf98zzzp_1, zf98zzzp_2, zf98zzzp_3, zf98zzzp_4, zf98zzzp_5, ((0, .arg 1702, .int 0), true), ((0, .arg 3360, .int 0), true), ((0, .arg 1350, .int 0), true), ((0, .arg 1826, .int 0), true), zf98zzzp_6], i_bz)
theorem k_obe1m : cbody kR [(zWP, c_hdo)] (cpl1 zWB c_bn0 [q_ose1]) (cpl2 zWB c_bn0 [q_ose1]) (cleaf kR zWB c_bn0 [q_ose1]) 400 true true q_obe1m.2.2.1 q_obe1m.2.2.2 (cst zWB c_bn0.2.2.1.1 q_obe1m.1) (cst zWB c_bn0.2.2.1.2 q_obe1m.2.1) = true := by decide +kernel
theorem t_obe1m {X : pX} {ρ0 : sR} (hv : vok X ρ0) : CUTOK X kR zWB c_bn0 13 ρ0 q_obe1m := CUT_run kR_x kR_0 (Cs := [(zWP, c_hdo)]) (fun C hC => by rw [List.mem_singleton.mp hC]; exact s_hdo) c_bn0_f (Q := [q_ose1]) hv (fun q hq => by
    simp only [List.mem_cons, List.not_mem_nil, or_false] at hq
    rw [hq]; exact t_ose1 hv) 400 (b1 := true) (b2 := true) k_obe1m
theorem t_obe1 {X : pX} {ρ0 : sR} (hv : vok X ρ0) : CUTOK X kR zWB c_bn0 13 ρ0 q_obe1 := CUT_mono (t_obe1m hv) (fun ρ hF hI => ⟨⟨hF.1, by
  exact fcn (decide_eq_true ((bi4_v hF.1).trans (of_decide_eq_true (hF.2 _ (List.mem_cons_of_mem _ (List.mem_cons_of_mem _ (List.mem_cons_of_mem _ (List.mem_cons_of_mem _ (List.mem_cons_of_mem _ (List.mem_cons_of_mem _ (List.mem_cons_of_mem _ (List.mem_cons_of_mem _ (List.mem_cons_of_mem _ (List.mem_cons_of_mem _ (List.mem_cons_self))))))))))))))) (hF.2)⟩, hI⟩)
noncomputable def zf98zzzp_14 : sQ × Bool := ((154, .add (.elem (.arg 64385) (.int 0)) (.arg 1308), .int 156), true)
noncomputable def q_omc0T : sCut := ((fr 0 93 67 [(0, tr 75)] [], [fr 0 60 30 [(0, tr 39), (1, .int 0)] [], fBot], 12), (fr 0 297 64 [(0, tr 219), (1, .arg 1308)] [], [fr 0 300 36 [(0, tr 219), (1, .arg 1308)] [], fBot], 12), [zf98zzzp_5, ((0, .arg 1702, .int 0), true), ((0, .arg 3360, .int 0), true), ((0, .arg 1350, .int 0), true), ((0, .arg 1826, .int 0), true), zf98zzzp_6, zf98zzzp_14], i_bz)
noncomputable def q_omm0T : sCut := ((fr 0 95 34 [(0, tr 75), (1, .int 90), (2, .int 3)] [], [fr 0 93 73 [(0, tr 75)] [], fr 0 60 30 [(0, tr 39), (1, .int 0)] [], fBot], 11), (fr 0 297 64 [(0, tr 219), (1, .arg 1308)] [], [fr 0 300 36 [(0, tr 219), (1, .arg 1308)] [], fBot], 12), [zf98zzzp_5, ((0, .arg 1702, .int 0), true), ((0, .arg 3360, .int 0), true), ((0, .arg 1350, .int 0), true), ((0, .arg 1826, .int 0), true), zf98zzzp_6, zf98zzzp_14], i_bz)
noncomputable def q_omc1T : sCut := ((fr 0 95 34 [(0, tr 75), (1, .int 50), (2, .int 0)] [], [fr 0 93 70 [(0, tr 75)] [], fr 0 60 30 [(0, tr 39), (1, .int 0)] [], fBot], 11), (fr 0 297 64 [(0, tr 219), (1, .arg 1308)] [], [fr 0 300 36 [(0, tr 219), (1, .arg 1308)] [], fBot], 12), [zf98zzzp_5, ((0, .arg 1702, .int 0), true), ((0, .arg 3360, .int 0), true), ((0, .arg 1350, .int 0), true), ((0, .arg 1826, .int 0), true), zf98zzzp_6, zf98zzzp_14], i_bz)
noncomputable def q_omm1T : sCut := ((fr 0 95 34 [(0, tr 75), (1, .int 90), (2, .int 3)] [], [fr 0 93 73 [(0, tr 75)] [], fr 0 60 30 [(0, tr 39), (1, .int 0)] [], fBot], 11), (fr 0 297 75 [(0, tr 219), (1, .arg 1308), (5, .int 0)] [], [fr 0 300 36 [(0, tr 219), (1, .arg 1308)] [], fBot], 12), [zf98zzzp_5, ((0, .arg 1702, .int 0), true), ((0, .arg 3360, .int 0), true), ((0, .arg 1350, .int 0), true), ((0, .arg 1826, .int 0), true), zf98zzzp_6, zf98zzzp_14], i_bz)
noncomputable def q_omc2T : sCut := ((fr 0 95 34 [(0, tr 75), (1, .int 50), (2, .int 1)] [], [fr 0 93 70 [(0, tr 75)] [], fr 0 60 30 [(0, tr 39), (1, .int 0)] [], fBot], 11), (fr 0 297 64 [(0, tr 219), (1, .arg 1308)] [], [fr 0 300 36 [(0, tr 219), (1, .arg 1308)] [], fBot], 12), [zf98zzzp_5, ((0, .arg 1702, .int 0), true), ((0, .arg 3360, .int 0), true), ((0, .arg 1350, .int 0), true), ((0, .arg 1826, .int 0), true), zf98zzzp_6, zf98zzzp_14], i_bz)
noncomputable def q_omm2T : sCut := ((fr 0 95 34 [(0, tr 75), (1, .int 90), (2, .int 3)] [], [fr 0 93 73 [(0, tr 75)] [], fr 0 60 30 [(0, tr 39), (1, .int 0)] [], fBot], 11), (fr 0 297 81 [(0, tr 219), (1, .arg 1308), (5, .int 0)] [], [fr 0 300 36 [(0, tr 219), (1, .arg 1308)] [], fBot], 12), [zf98zzzp_5, ((0, .arg 1702, .int 0), true), ((0, .arg 3360, .int 0), true), ((0, .arg 1350, .int 0), true), ((0, .arg 1826, .int 0), true), zf98zzzp_6, zf98zzzp_14], i_bz)
noncomputable def q_omc3T : sCut := ((fr 0 95 34 [(0, tr 75), (1, .int 50), (2, .int 2)] [], [fr 0 93 70 [(0, tr 75)] [], fr 0 60 30 [(0, tr 39), (1, .int 0)] [], fBot], 11), (fr 0 297 64 [(0, tr 219), (1, .arg 1308)] [], [fr 0 300 36 [(0, tr 219), (1, .arg 1308)] [], fBot], 12), [zf98zzzp_5, ((0, .arg 1702, .int 0), true), ((0, .arg 3360, .int 0), true), ((0, .arg 1350, .int 0), true), ((0, .arg 1826, .int 0), true), zf98zzzp_6, zf98zzzp_14], i_bz)
noncomputable def q_omm3T : sCut := ((fr 0 95 34 [(0, tr 75), (1, .int 90), (2, .int 3)] [], [fr 0 93 73 [(0, tr 75)] [], fr 0 60 30 [(0, tr 39), (1, .int 0)] [], fBot], 11), (fr 0 297 75 [(0, tr 219), (1, .arg 1308), (5, .int 1)] [], [fr 0 300 36 [(0, tr 219), (1, .arg 1308)] [], fBot], 12), [zf98zzzp_5, ((0, .arg 1702, .int 0), true), ((0, .arg 3360, .int 0), true), ((0, .arg 1350, .int 0), true), ((0, .arg 1826, .int 0), true), zf98zzzp_6, zf98zzzp_14], i_bz)
noncomputable def q_omc4T : sCut := ((fr 0 95 34 [(0, tr 75), (1, .int 50), (2, .int 3)] [], [fr 0 93 70 [(0, tr 75)] [], fr 0 60 30 [(0, tr 39), (1, .int 0)] [], fBot], 11), (fr 0 297 64 [(0, tr 219), (1, .arg 1308)] [], [fr 0 300 36 [(0, tr 219), (1, .arg 1308)] [], fBot], 12), [zf98zzzp_5, ((0, .arg 1702, .int 0), true), ((0, .arg 3360, .int 0), true), ((0, .arg 1350, .int 0), true), ((0, .arg 1826, .int 0), true), zf98zzzp_6, zf98zzzp_14], i_bz)
noncomputable def q_omm4T : sCut := ((fr 0 95 34 [(0, tr 75), (1, .int 90), (2, .int 3)] [], [fr 0 93 73 [(0, tr 75)] [], fr 0 60 30 [(0, tr 39), (1, .int 0)] [], fBot], 11), (fr 0 297 81 [(0, tr 219), (1, .arg 1308), (5, .int 1)] [], [fr 0 300 36 [(0, tr 219), (1, .arg 1308)] [], fBot], 12), [zf98zzzp_5, ((0, .arg 1702, .int 0), true), ((0, .arg 3360, .int 0), true), ((0, .arg 1350, .int 0), true), ((0, .arg 1826, .int 0), true), zf98zzzp_6, zf98zzzp_14], i_bz)
noncomputable def q_omc5T : sCut := ((fr 0 95 34 [(0, tr 75), (1, .int 90), (2, .int 0)] [], [fr 0 93 73 [(0, tr 75)] [], fr 0 60 30 [(0, tr 39), (1, .int 0)] [], fBot], 11), (fr 0 297 64 [(0, tr 219), (1, .arg 1308)] [], [fr 0 300 36 [(0, tr 219), (1, .arg 1308)] [], fBot], 12), [zf98zzzp_5, ((0, .arg 1702, .int 0), true), ((0, .arg 3360, .int 0), true), ((0, .arg 1350, .int 0), true), ((0, .arg 1826, .int 0), true), zf98zzzp_6, zf98zzzp_14], i_bz)
noncomputable def q_omm5T : sCut := ((fr 0 95 34 [(0, tr 75), (1, .int 90), (2, .int 3)] [], [fr 0 93 73 [(0, tr 75)] [], fr 0 60 30 [(0, tr 39), (1, .int 0)] [], fBot], 11), (fr 0 297 75 [(0, tr 219), (1, .arg 1308), (5, .int 2)] [], [fr 0 300 36 [(0, tr 219), (1, .arg 1308)] [], fBot], 12), [zf98zzzp_5, ((0, .arg 1702, .int 0), true), ((0, .arg 3360, .int 0), true), ((0, .arg 1350, .int 0), true), ((0, .arg 1826, .int 0), true), zf98zzzp_6, zf98zzzp_14], i_bz)
noncomputable def q_omc6T : sCut := ((fr 0 95 34 [(0, tr 75), (1, .int 90), (2, .int 1)] [], [fr 0 93 73 [(0, tr 75)] [], fr 0 60 30 [(0, tr 39), (1, .int 0)] [], fBot], 11), (fr 0 297 64 [(0, tr 219), (1, .arg 1308)] [], [fr 0 300 36 [(0, tr 219), (1, .arg 1308)] [], fBot], 12), [zf98zzzp_5, ((0, .arg 1702, .int 0), true), ((0, .arg 3360, .int 0), true), ((0, .arg 1350, .int 0), true), ((0, .arg 1826, .int 0), true), zf98zzzp_6, zf98zzzp_14], i_bz)
noncomputable def q_omm6T : sCut := ((fr 0 95 34 [(0, tr 75), (1, .int 90), (2, .int 3)] [], [fr 0 93 73 [(0, tr 75)] [], fr 0 60 30 [(0, tr 39), (1, .int 0)] [], fBot], 11), (fr 0 297 81 [(0, tr 219), (1, .arg 1308), (5, .int 2)] [], [fr 0 300 36 [(0, tr 219), (1, .arg 1308)] [], fBot], 12), [zf98zzzp_5, ((0, .arg 1702, .int 0), true), ((0, .arg 3360, .int 0), true), ((0, .arg 1350, .int 0), true), ((0, .arg 1826, .int 0), true), zf98zzzp_6, zf98zzzp_14], i_bz)
noncomputable def q_omc7T : sCut := ((fr 0 95 34 [(0, tr 75), (1, .int 90), (2, .int 2)] [], [fr 0 93 73 [(0, tr 75)] [], fr 0 60 30 [(0, tr 39), (1, .int 0)] [], fBot], 11), (fr 0 297 64 [(0, tr 219), (1, .arg 1308)] [], [fr 0 300 36 [(0, tr 219), (1, .arg 1308)] [], fBot], 12), [zf98zzzp_5, ((0, .arg 1702, .int 0), true), ((0, .arg 3360, .int 0), true), ((0, .arg 1350, .int 0), true), ((0, .arg 1826, .int 0), true), zf98zzzp_6, zf98zzzp_14], i_bz)
noncomputable def q_omm7T : sCut := ((fr 0 95 34 [(0, tr 75), (1, .int 90), (2, .int 3)] [], [fr 0 93 73 [(0, tr 75)] [], fr 0 60 30 [(0, tr 39), (1, .int 0)] [], fBot], 11), (fr 0 297 75 [(0, tr 219), (1, .arg 1308), (5, .int 3)] [], [fr 0 300 36 [(0, tr 219), (1, .arg 1308)] [], fBot], 12), [zf98zzzp_5, ((0, .arg 1702, .int 0), true), ((0, .arg 3360, .int 0), true), ((0, .arg 1350, .int 0), true), ((0, .arg 1826, .int 0), true), zf98zzzp_6, zf98zzzp_14], i_bz)
noncomputable def q_omc8T : sCut := ((fr 0 95 34 [(0, tr 75), (1, .int 90), (2, .int 3)] [], [fr 0 93 73 [(0, tr 75)] [], fr 0 60 30 [(0, tr 39), (1, .int 0)] [], fBot], 11), (fr 0 297 64 [(0, tr 219), (1, .arg 1308)] [], [fr 0 300 36 [(0, tr 219), (1, .arg 1308)] [], fBot], 12), [zf98zzzp_5, ((0, .arg 1702, .int 0), true), ((0, .arg 3360, .int 0), true), ((0, .arg 1350, .int 0), true), ((0, .arg 1826, .int 0), true), zf98zzzp_6, zf98zzzp_14], i_bz)
noncomputable def q_omm8T : sCut := ((fr 0 95 34 [(0, tr 75), (1, .int 90), (2, .int 3)] [], [fr 0 93 73 [(0, tr 75)] [], fr 0 60 30 [(0, tr 39), (1, .int 0)] [], fBot], 11), (fr 0 297 81 [(0, tr 219), (1, .arg 1308), (5, .int 3)] [], [fr 0 300 36 [(0, tr 219), (1, .arg 1308)] [], fBot], 12), [zf98zzzp_5, ((0, .arg 1702, .int 0), true), ((0, .arg 3360, .int 0), true), ((0, .arg 1350, .int 0), true), ((0, .arg 1826, .int 0), true), zf98zzzp_6, zf98zzzp_14], i_bz)
noncomputable def zf98zzzp_15 : sQ × Bool := ((157, .add (.elem (.arg 64321) (.int 0)) (.add (.elem (.arg 64353) (.int 0)) (.arg 1308)), .int 8), true)
noncomputable def zf98zzzp_16 : sQ × Bool := ((158, .elem (.arg 64353) (.int 0), .int 8), true)
noncomputable def zf98zzzp_17 : sQ × Bool := ((155, .elem (.arg 64353) (.int 0), .int 0), true)
noncomputable def q_omm8 : sCut := ((fr 0 95 34 [(0, tr 75), (1, .int 90), (2, .int 3)] [], [fr 0 93 73 [(0, tr 75)] [], fr 0 60 30 [(0, tr 39), (1, .int 0)] [], fBot], 11), (fr 0 297 81 [(0, tr 219), (1, .arg 1308), (5, .int 3)] [], [fr 0 300 36 [(0, tr 219), (1, .arg 1308)] [], fBot], 12), [zf98zzzp_15, zf98zzzp_16, zf98zzzp_17, zf98zzzp_2, zf98zzzp_3, zf98zzzp_4, zf98zzzp_5, ((0, .arg 1702, .int 0), true), ((0, .arg 3360, .int 0), true), ((0, .arg 1350, .int 0), true), ((0, .arg 1826, .int 0), true), zf98zzzp_6, zf98zzzp_14], i_bz)
noncomputable def q_omm8e : sCut := ((fr 0 95 34 [(0, tr 75), (1, .int 90), (2, .int 3)] [], [fr 0 93 73 [(0, tr 75)] [], fr 0 60 30 [(0, tr 39), (1, .int 0)] [], fBot], 11), (fr 0 297 81 [(0, tr 219), (1, .arg 1308), (5, .int 3)] [], [fr 0 300 36 [(0, tr 219), (1, .arg 1308)] [], fBot], 12), [zf98zzzp_0, zf98zzzp_1, zf98zzzp_15, zf98zzzp_16, zf98zzzp_17, zf98zzzp_2, zf98zzzp_3, zf98zzzp_4, zf98zzzp_5, ((0, .arg 1702, .int 0), true), ((0, .arg 3360, .int 0), true), ((0, .arg 1350, .int 0), true), ((0, .arg 1826, .int 0), true), zf98zzzp_6, zf98zzzp_14], i_bz)
theorem k_omm8e : cbody kR [] (cpl1 zWB c_bn0 [q_obe1]) (cpl2 zWB c_bn0 [q_obe1]) (cleaf kR zWB c_bn0 [q_obe1]) 200 true true q_omm8e.2.2.1 q_omm8e.2.2.2 (cst zWB c_bn0.2.2.1.1 q_omm8e.1) (cst zWB c_bn0.2.2.1.2 q_omm8e.2.1) = true := by decide +kernel
theorem t_omm8e {X : pX} {ρ0 : sR} (hv : vok X ρ0) : CUTOK X kR zWB c_bn0 13 ρ0 q_omm8e := CUT_run kR_x kR_0 (Cs := []) (fun C hC => by cases hC) c_bn0_f (Q := [q_obe1]) hv (fun q hq => by
    simp only [List.mem_cons, List.not_mem_nil, or_false] at hq
    rw [hq]; exact t_obe1 hv) 200 (b1 := true) (b2 := true) k_omm8e
theorem t_omm8 {X : pX} {ρ0 : sR} (hv : vok X ρ0) : CUTOK X kR zWB c_bn0 13 ρ0 q_omm8 := fun ρ k1 hF hI k4 => by
  have x6 : sc X ρ (156, .add (.elem (.arg 64321) (.int 0)) (.elem (.arg 64353) (.int 0)), .int 0) = true := k156.mpr (amn_8 (k157.mp (hF.2 _ (List.mem_cons_self))) (k158.mp (hF.2 _ (List.mem_cons_of_mem _ (List.mem_cons_self)))))
  have x1 : sc X ρ (101, .elem (.arg 64353) (.int 0), .int 0) = true := eva_8 (k155.mp (hF.2 _ (List.mem_cons_of_mem _ (List.mem_cons_of_mem _ (List.mem_cons_self))))) (k158.mp (hF.2 _ (List.mem_cons_of_mem _ (List.mem_cons_self))))
  exact t_omm8e hv ρ k1 ⟨hF.1, fcn (x6) (fcn (x1) (hF.2))⟩ hI k4
noncomputable def zf98zzzp_18 : sQ × Bool := ((0, .arg 60000, .op1 .l2i (.elem (.arg 64353) (.int 105))), true)
noncomputable def zf98zzzp_19 : sQ × Bool := ((158, .elem (.arg 64353) (.int 0), .int 7), true)
noncomputable def q_oma7 : sCut := ((fr 0 95 34 [(0, tr 75), (1, .int 90), (2, .int 3)] [], [fr 0 93 73 [(0, tr 75)] [], fr 0 60 30 [(0, tr 39), (1, .int 0)] [], fBot], 11), (fr 0 298 9 [(0, tr 219), (1, .arg 1308), (2, .int 6659)] [.arg 60000, .int 6659, .arg 1308, tr 219], [fr 0 297 81 [(0, tr 219), (1, .arg 1308), (5, .int 3)] [], fr 0 300 36 [(0, tr 219), (1, .arg 1308)] [], fBot], 11), [zf98zzzp_18, zf98zzzp_15, zf98zzzp_19, zf98zzzp_17, zf98zzzp_2, zf98zzzp_3, zf98zzzp_4, zf98zzzp_5, ((0, .arg 1702, .int 0), true), ((0, .arg 3360, .int 0), true), ((0, .arg 1350, .int 0), true), ((0, .arg 1826, .int 0), true), zf98zzzp_6, zf98zzzp_14], i_bz)
noncomputable def zf98zzzp_20 : sQ × Bool := ((109, .add (.int 6659) (.int 0), .int 105), true)
noncomputable def zf98zzzp_21 : sQ × Bool := ((109, .add (.int 6659) (.int 1), .int 106), true)
noncomputable def zf98zzzp_22 : sQ × Bool := ((109, .add (.int 6659) (.int 2), .int 107), true)
noncomputable def zf98zzzp_23 : sQ × Bool := ((109, .add (.int 6659) (.int 3), .int 108), true)
noncomputable def zf98zzzp_24 : sQ × Bool := ((109, .add (.int 6659) (.int 4), .int 109), true)
noncomputable def zf98zzzp_25 : sQ × Bool := ((2, .arg 60000, .int 0), false)
noncomputable def zf98zzzp_26 : sQ × Bool := ((2, .int 4, .arg 60000), false)
noncomputable def q_oma7o : sCut := ((fr 0 95 34 [(0, tr 75), (1, .int 90), (2, .int 3)] [], [fr 0 93 73 [(0, tr 75)] [], fr 0 60 30 [(0, tr 39), (1, .int 0)] [], fBot], 11), (fr 0 298 9 [(0, tr 219), (1, .arg 1308), (2, .int 6659)] [.arg 60000, .int 6659, .arg 1308, tr 219], [fr 0 297 81 [(0, tr 219), (1, .arg 1308), (5, .int 3)] [], fr 0 300 36 [(0, tr 219), (1, .arg 1308)] [], fBot], 11), [zf98zzzp_20, zf98zzzp_21, zf98zzzp_22, zf98zzzp_23, zf98zzzp_24, zf98zzzp_25, zf98zzzp_26, ((139, .add (.elem (.arg 64353) (.int 0)) (.add (.int 105) (.arg 60000)), .int 0), true), zf98zzzp_18, zf98zzzp_15, zf98zzzp_19, zf98zzzp_17, zf98zzzp_2, zf98zzzp_3, zf98zzzp_4, zf98zzzp_5, ((0, .arg 1702, .int 0), true), ((0, .arg 3360, .int 0), true), ((0, .arg 1350, .int 0), true), ((0, .arg 1826, .int 0), true), zf98zzzp_6, zf98zzzp_14], i_bz)
noncomputable def w_oma7o : List (sCut × List (Nat × sT) × List (Nat × sT × List (sT × sT))) := [(q_omm8T, [], [(64321, .arg 64321, []), (64353, .arg 64353, [])])]
theorem k_oma7o : cbody kR [(zWP, c_fndl), (zWB, c_mmo)] (cpl1 zWB c_bn0 [q_omm8T]) (cpl2 zWB c_bn0 [q_omm8T]) (cleafB kR zWB c_bn0 w_oma7o) 700 false false q_oma7o.2.2.1 q_oma7o.2.2.2 (cst zWB c_bn0.2.2.1.1 q_oma7o.1) (cst zWB c_bn0.2.2.1.2 q_oma7o.2.1) = true := by decide +kernel
theorem t_oma7o {X : pX} {ρ0 : sR} (hv : vok X ρ0) : CUTOK X kR zWB c_bn0 13 ρ0 q_oma7o := CUTOK_AT (fun ρ k1 hF hI k4 => AT_of (q := q_oma7o) rfl rfl (SEM_runB kR_x kR_0 (Cs := [(zWP, c_fndl), (zWB, c_mmo)]) (fun C hC => by
    simp only [List.mem_cons, List.not_mem_nil, or_false] at hC
    rcases hC with hC | hC
    · rw [hC]; exact s_fndl
    · rw [hC]; exact s_mmo) c_bn0_f (Q := w_oma7o) hv 700 (b1 := false) (b2 := false) k_oma7o k1 hF hI k4 (fun p hp ρ3 m1 m2 m3 m4 m5 m6 => by
  rw [List.mem_singleton.mp hp] at m2 m3 m5 m6 ⊢
  have eD : ρ3.1 1308 = ρ.1 1308 := (m4.1 1308 (by decide) (by decide)).1.trans (k4.1 1308 (by decide) (by decide)).1.symm
  obtain ⟨d0, d4⟩ := d_r hF.1
  have hA : ∀ j, ρ3.2.2.2.1 64321 j = ρ.2.2.2.1 64321 j := fun j => by
    have hw := m6 (64321, .arg 64321, []) (List.mem_cons_self) j
    have hw : Value.long (ρ3.2.2.2.1 64321 j) = Value.long (ρ.2.2.2.1 64321 j) := hw
    exact Value.long.inj hw
  have hB : ∀ j, ρ3.2.2.2.1 64353 j = ρ.2.2.2.1 64353 j := fun j => by
    have hw := m6 (64353, .arg 64353, []) (List.mem_cons_of_mem _ (List.mem_cons_self)) j
    have hw : Value.long (ρ3.2.2.2.1 64353 j) = Value.long (ρ.2.2.2.1 64353 j) := hw
    exact Value.long.inj hw
  have h7 := k157.mp (hF.2 _ (List.mem_cons_of_mem _ (List.mem_cons_of_mem _ (List.mem_cons_of_mem _ (List.mem_cons_of_mem _ (List.mem_cons_of_mem _ (List.mem_cons_of_mem _ (List.mem_cons_of_mem _ (List.mem_cons_of_mem _ (List.mem_cons_of_mem _ (List.mem_cons_self)))))))))))
  have h8 := k158.mp (hF.2 _ (List.mem_cons_of_mem _ (List.mem_cons_of_mem _ (List.mem_cons_of_mem _ (List.mem_cons_of_mem _ (List.mem_cons_of_mem _ (List.mem_cons_of_mem _ (List.mem_cons_of_mem _ (List.mem_cons_of_mem _ (List.mem_cons_of_mem _ (List.mem_cons_of_mem _ (List.mem_cons_self))))))))))))
  have h5 := k155.mp (hF.2 _ (List.mem_cons_of_mem _ (List.mem_cons_of_mem _ (List.mem_cons_of_mem _ (List.mem_cons_of_mem _ (List.mem_cons_of_mem _ (List.mem_cons_of_mem _ (List.mem_cons_of_mem _ (List.mem_cons_of_mem _ (List.mem_cons_of_mem _ (List.mem_cons_of_mem _ (List.mem_cons_of_mem _ (List.mem_cons_self)))))))))))))
  obtain ⟨v0, v4⟩ := ev_m4 (m := 105) (by decide) (h5 105 (by decide))
  have en : ρ.1 60000 = (ρ.2.2.2.1 64353 105).toInt32 := of_decide_eq_true (hF.2 _ (List.mem_cons_of_mem _ (List.mem_cons_of_mem _ (List.mem_cons_of_mem _ (List.mem_cons_of_mem _ (List.mem_cons_of_mem _ (List.mem_cons_of_mem _ (List.mem_cons_of_mem _ (List.mem_cons_of_mem _ (List.mem_cons_self))))))))))
  have hc : (0 : Int) = amcode (ρ.2.2.2.1 64353) 105 (ρ.1 60000).toInt.toNat := of_decide_eq_true (hF.2 _ (List.mem_cons_of_mem _ (List.mem_cons_of_mem _ (List.mem_cons_of_mem _ (List.mem_cons_of_mem _ (List.mem_cons_of_mem _ (List.mem_cons_of_mem _ (List.mem_cons_of_mem _ (List.mem_cons_self)))))))))
  rw [en, mv_l v0 (by omega)] at hc
  have eA : ρ3.2.2.2.1 64321 = ρ.2.2.2.1 64321 := funext hA
  have eB : ρ3.2.2.2.1 64353 = ρ.2.2.2.1 64353 := funext hB
  have x7 : sc X ρ3 (157, .add (.elem (.arg 64321) (.int 0)) (.add (.elem (.arg 64353) (.int 0)) (.arg 1308)), .int 8) = true := k157.mpr (by rw [eA, eB, eD]; exact h7)
  have x8 : sc X ρ3 (158, .elem (.arg 64353) (.int 0), .int 8) = true := k158.mpr (by rw [eB]; exact ampm_t (K := 7) (m := 105) rfl h8 hc.symm)
  have x5 : sc X ρ3 (155, .elem (.arg 64353) (.int 0), .int 0) = true := k155.mpr (by rw [eB]; exact h5)
  have lg60129 : ρ3.2.1 60129 = ρ.2.1 60129 := (m4.1 60129 (by decide) (by decide)).2.trans (k4.1 60129 (by decide) (by decide)).2.symm
  have lg60065 : ρ3.2.1 60065 = ρ.2.1 60065 := (m4.1 60065 (by decide) (by decide)).2.trans (k4.1 60065 (by decide) (by decide)).2.symm
  have lg60097 : ρ3.2.1 60097 = ρ.2.1 60097 := (m4.1 60097 (by decide) (by decide)).2.trans (k4.1 60097 (by decide) (by decide)).2.symm
  have z1 : sc X ρ3 (6, .elem (.arg 64321) (.int 1), .arg 60129) = true := decide_eq_true (show ρ3.2.2.2.1 64321 1 = ρ3.2.1 60129 by
    rw [hA, lg60129]
    exact of_decide_eq_true (hF.2 _ (List.mem_cons_of_mem _ (List.mem_cons_of_mem _ (List.mem_cons_of_mem _ (List.mem_cons_of_mem _ (List.mem_cons_of_mem _ (List.mem_cons_of_mem _ (List.mem_cons_of_mem _ (List.mem_cons_of_mem _ (List.mem_cons_of_mem _ (List.mem_cons_of_mem _ (List.mem_cons_of_mem _ (List.mem_cons_of_mem _ (List.mem_cons_self)))))))))))))))
  have z2 : sc X ρ3 (6, .elem (.arg 64353) (.int 114), .arg 60065) = true := decide_eq_true (show ρ3.2.2.2.1 64353 114 = ρ3.2.1 60065 by
    rw [hB, lg60065]
    exact of_decide_eq_true (hF.2 _ (List.mem_cons_of_mem _ (List.mem_cons_of_mem _ (List.mem_cons_of_mem _ (List.mem_cons_of_mem _ (List.mem_cons_of_mem _ (List.mem_cons_of_mem _ (List.mem_cons_of_mem _ (List.mem_cons_of_mem _ (List.mem_cons_of_mem _ (List.mem_cons_of_mem _ (List.mem_cons_of_mem _ (List.mem_cons_of_mem _ (List.mem_cons_of_mem _ (List.mem_cons_self))))))))))))))))
  have z3 : sc X ρ3 (6, .elem (.arg 64353) (.int 123), .arg 60097) = true := decide_eq_true (show ρ3.2.2.2.1 64353 123 = ρ3.2.1 60097 by
    rw [hB, lg60097]
    exact of_decide_eq_true (hF.2 _ (List.mem_cons_of_mem _ (List.mem_cons_of_mem _ (List.mem_cons_of_mem _ (List.mem_cons_of_mem _ (List.mem_cons_of_mem _ (List.mem_cons_of_mem _ (List.mem_cons_of_mem _ (List.mem_cons_of_mem _ (List.mem_cons_of_mem _ (List.mem_cons_of_mem _ (List.mem_cons_of_mem _ (List.mem_cons_of_mem _ (List.mem_cons_of_mem _ (List.mem_cons_of_mem _ (List.mem_cons_self)))))))))))))))))
  exact t_omm8 hv ρ3 m1 ⟨m2.1, fcn (x7) (fcn (x8) (fcn (x5) (fcn (z1) (fcn (z2) (fcn (z3) (m2.2))))))⟩ m3 m4)))
noncomputable def q_oma7n : sCut := ((fr 0 95 34 [(0, tr 75), (1, .int 90), (2, .int 3)] [], [fr 0 93 73 [(0, tr 75)] [], fr 0 60 30 [(0, tr 39), (1, .int 0)] [], fBot], 11), (fr 0 298 9 [(0, tr 219), (1, .arg 1308), (2, .int 6659)] [.arg 60000, .int 6659, .arg 1308, tr 219], [fr 0 297 81 [(0, tr 219), (1, .arg 1308), (5, .int 3)] [], fr 0 300 36 [(0, tr 219), (1, .arg 1308)] [], fBot], 11), [zf98zzzp_20, zf98zzzp_21, zf98zzzp_22, zf98zzzp_23, zf98zzzp_24, zf98zzzp_25, zf98zzzp_26, ((139, .add (.elem (.arg 64353) (.int 0)) (.add (.int 105) (.arg 60000)), .int 100925505), true), zf98zzzp_18, zf98zzzp_15, zf98zzzp_19, zf98zzzp_17, zf98zzzp_2, zf98zzzp_3, zf98zzzp_4, zf98zzzp_5, ((0, .arg 1702, .int 0), true), ((0, .arg 3360, .int 0), true), ((0, .arg 1350, .int 0), true), ((0, .arg 1826, .int 0), true), zf98zzzp_6, zf98zzzp_14], i_bz)
noncomputable def w_oma7n : List (sCut × List (Nat × sT) × List (Nat × sT × List (sT × sT))) := [(q_omm8T, [], [(64321, .arg 64321, []), (64353, .arg 64353, [(.int 109, .long 0), (.int 108, .long 0), (.int 107, .long 0), (.int 106, .long 0), (.int 105, .long 0)])])]
theorem k_oma7n : cbody kR [(zWP, c_fndl), (zWB, c_mmn)] (cpl1 zWB c_bn0 [q_omm8T]) (cpl2 zWB c_bn0 [q_omm8T]) (cleafB kR zWB c_bn0 w_oma7n) 700 false false q_oma7n.2.2.1 q_oma7n.2.2.2 (cst zWB c_bn0.2.2.1.1 q_oma7n.1) (cst zWB c_bn0.2.2.1.2 q_oma7n.2.1) = true := by decide +kernel
theorem t_oma7n {X : pX} {ρ0 : sR} (hv : vok X ρ0) : CUTOK X kR zWB c_bn0 13 ρ0 q_oma7n := CUTOK_AT (fun ρ k1 hF hI k4 => AT_of (q := q_oma7n) rfl rfl (SEM_runB kR_x kR_0 (Cs := [(zWP, c_fndl), (zWB, c_mmn)]) (fun C hC => by
    simp only [List.mem_cons, List.not_mem_nil, or_false] at hC
    rcases hC with hC | hC
    · rw [hC]; exact s_fndl
    · rw [hC]; exact s_mmn) c_bn0_f (Q := w_oma7n) hv 700 (b1 := false) (b2 := false) k_oma7n k1 hF hI k4 (fun p hp ρ3 m1 m2 m3 m4 m5 m6 => by
  rw [List.mem_singleton.mp hp] at m2 m3 m5 m6 ⊢
  have eD : ρ3.1 1308 = ρ.1 1308 := (m4.1 1308 (by decide) (by decide)).1.trans (k4.1 1308 (by decide) (by decide)).1.symm
  obtain ⟨d0, d4⟩ := d_r hF.1
  have hA : ∀ j, ρ3.2.2.2.1 64321 j = ρ.2.2.2.1 64321 j := fun j => by
    have hw := m6 (64321, .arg 64321, []) (List.mem_cons_self) j
    have hw : Value.long (ρ3.2.2.2.1 64321 j) = Value.long (ρ.2.2.2.1 64321 j) := hw
    exact Value.long.inj hw
  obtain ⟨hBn, hBf⟩ := fiv_w (f := ρ.2.2.2.1 64353) (g := ρ3.2.2.2.1 64353) (m := 105) (d := (ρ.1 1308).toInt) (v0 := 0) (v1 := 0) (v2 := 0) (v3 := 0) (v4 := 0) (fun j => m6 (64353, .arg 64353, [(.int 109, .long 0), (.int 108, .long 0), (.int 107, .long 0), (.int 106, .long 0), (.int 105, .long 0)]) (List.mem_cons_of_mem _ (List.mem_cons_self)) j) (amw_105 d0 d4 (i := 0) (by decide)) (amw_105 d0 d4 (i := 1) (by decide)) (amw_105 d0 d4 (i := 2) (by decide)) (amw_105 d0 d4 (i := 3) (by decide)) (amw_105 d0 d4 (i := 4) (by decide))
  have h7 := k157.mp (hF.2 _ (List.mem_cons_of_mem _ (List.mem_cons_of_mem _ (List.mem_cons_of_mem _ (List.mem_cons_of_mem _ (List.mem_cons_of_mem _ (List.mem_cons_of_mem _ (List.mem_cons_of_mem _ (List.mem_cons_of_mem _ (List.mem_cons_of_mem _ (List.mem_cons_self)))))))))))
  have h8 := k158.mp (hF.2 _ (List.mem_cons_of_mem _ (List.mem_cons_of_mem _ (List.mem_cons_of_mem _ (List.mem_cons_of_mem _ (List.mem_cons_of_mem _ (List.mem_cons_of_mem _ (List.mem_cons_of_mem _ (List.mem_cons_of_mem _ (List.mem_cons_of_mem _ (List.mem_cons_of_mem _ (List.mem_cons_self))))))))))))
  have h5 := k155.mp (hF.2 _ (List.mem_cons_of_mem _ (List.mem_cons_of_mem _ (List.mem_cons_of_mem _ (List.mem_cons_of_mem _ (List.mem_cons_of_mem _ (List.mem_cons_of_mem _ (List.mem_cons_of_mem _ (List.mem_cons_of_mem _ (List.mem_cons_of_mem _ (List.mem_cons_of_mem _ (List.mem_cons_of_mem _ (List.mem_cons_self)))))))))))))
  obtain ⟨v0, v4⟩ := ev_m4 (m := 105) (by decide) (h5 105 (by decide))
  have en : ρ.1 60000 = (ρ.2.2.2.1 64353 105).toInt32 := of_decide_eq_true (hF.2 _ (List.mem_cons_of_mem _ (List.mem_cons_of_mem _ (List.mem_cons_of_mem _ (List.mem_cons_of_mem _ (List.mem_cons_of_mem _ (List.mem_cons_of_mem _ (List.mem_cons_of_mem _ (List.mem_cons_of_mem _ (List.mem_cons_self))))))))))
  have hc : (100925505 : Int) = amcode (ρ.2.2.2.1 64353) 105 (ρ.1 60000).toInt.toNat := of_decide_eq_true (hF.2 _ (List.mem_cons_of_mem _ (List.mem_cons_of_mem _ (List.mem_cons_of_mem _ (List.mem_cons_of_mem _ (List.mem_cons_of_mem _ (List.mem_cons_of_mem _ (List.mem_cons_of_mem _ (List.mem_cons_self)))))))))
  rw [en, mv_l v0 (by omega)] at hc
  have hm : 105 ∈ amps := by decide
  have hn : ¬ amcode (ρ.2.2.2.1 64353) 105 (ρ.2.2.2.1 64353 105).toInt.toNat = 0 := by rw [← hc]; decide
  have eA : ρ3.2.2.2.1 64321 = ρ.2.2.2.1 64321 := funext hA
  have x7 : sc X ρ3 (157, .add (.elem (.arg 64321) (.int 0)) (.add (.elem (.arg 64353) (.int 0)) (.arg 1308)), .int 8) = true := k157.mpr (by rw [eA, eD]; exact amn_m d0 d4 hm h7 h5 hn (fun j _ hj => hBn j hj) hBf)
  have x8 : sc X ρ3 (158, .elem (.arg 64353) (.int 0), .int 8) = true := k158.mpr (ampm_t (K := 7) (m := 105) rfl (fun x hx => by
    have hx2 : x ∈ amps := of_decide_eq_true (List.all_eq_true.mp ampm_i x (List.mem_of_mem_take hx))
    by_cases e : x = 105
    · rw [e]; exact amf_0 d0 d4 hm hBf
    · rw [amo_c hm hx2 e h5 (fun j _ hj => hBn j hj)]; exact h8 x hx) (amf_0 d0 d4 hm hBf))
  have x5 : sc X ρ3 (155, .elem (.arg 64353) (.int 0), .int 0) = true := k155.mpr (fun j hj => by
    by_cases hi : 105 ≤ j ∧ j < 105 + 5
    · rw [hBf j hi.1 hi.2]; exact evf_k d0 d4 hj
    · rw [hBn j hi]; exact h5 j hj)
  have lg60129 : ρ3.2.1 60129 = ρ.2.1 60129 := (m4.1 60129 (by decide) (by decide)).2.trans (k4.1 60129 (by decide) (by decide)).2.symm
  have lg60065 : ρ3.2.1 60065 = ρ.2.1 60065 := (m4.1 60065 (by decide) (by decide)).2.trans (k4.1 60065 (by decide) (by decide)).2.symm
  have lg60097 : ρ3.2.1 60097 = ρ.2.1 60097 := (m4.1 60097 (by decide) (by decide)).2.trans (k4.1 60097 (by decide) (by decide)).2.symm
  have z1 : sc X ρ3 (6, .elem (.arg 64321) (.int 1), .arg 60129) = true := decide_eq_true (show ρ3.2.2.2.1 64321 1 = ρ3.2.1 60129 by
    rw [hA, lg60129]
    exact of_decide_eq_true (hF.2 _ (List.mem_cons_of_mem _ (List.mem_cons_of_mem _ (List.mem_cons_of_mem _ (List.mem_cons_of_mem _ (List.mem_cons_of_mem _ (List.mem_cons_of_mem _ (List.mem_cons_of_mem _ (List.mem_cons_of_mem _ (List.mem_cons_of_mem _ (List.mem_cons_of_mem _ (List.mem_cons_of_mem _ (List.mem_cons_of_mem _ (List.mem_cons_self)))))))))))))))
  have z2 : sc X ρ3 (6, .elem (.arg 64353) (.int 114), .arg 60065) = true := decide_eq_true (show ρ3.2.2.2.1 64353 114 = ρ3.2.1 60065 by
    rw [hBn 114 (by decide), lg60065]
    exact of_decide_eq_true (hF.2 _ (List.mem_cons_of_mem _ (List.mem_cons_of_mem _ (List.mem_cons_of_mem _ (List.mem_cons_of_mem _ (List.mem_cons_of_mem _ (List.mem_cons_of_mem _ (List.mem_cons_of_mem _ (List.mem_cons_of_mem _ (List.mem_cons_of_mem _ (List.mem_cons_of_mem _ (List.mem_cons_of_mem _ (List.mem_cons_of_mem _ (List.mem_cons_of_mem _ (List.mem_cons_self))))))))))))))))
  have z3 : sc X ρ3 (6, .elem (.arg 64353) (.int 123), .arg 60097) = true := decide_eq_true (show ρ3.2.2.2.1 64353 123 = ρ3.2.1 60097 by
    rw [hBn 123 (by decide), lg60097]
    exact of_decide_eq_true (hF.2 _ (List.mem_cons_of_mem _ (List.mem_cons_of_mem _ (List.mem_cons_of_mem _ (List.mem_cons_of_mem _ (List.mem_cons_of_mem _ (List.mem_cons_of_mem _ (List.mem_cons_of_mem _ (List.mem_cons_of_mem _ (List.mem_cons_of_mem _ (List.mem_cons_of_mem _ (List.mem_cons_of_mem _ (List.mem_cons_of_mem _ (List.mem_cons_of_mem _ (List.mem_cons_of_mem _ (List.mem_cons_self)))))))))))))))))
  exact t_omm8 hv ρ3 m1 ⟨m2.1, fcn (x7) (fcn (x8) (fcn (x5) (fcn (z1) (fcn (z2) (fcn (z3) (m2.2))))))⟩ m3 m4)))
noncomputable def q_oma7l : sCut := ((fr 0 95 34 [(0, tr 75), (1, .int 90), (2, .int 3)] [], [fr 0 93 73 [(0, tr 75)] [], fr 0 60 30 [(0, tr 39), (1, .int 0)] [], fBot], 11), (fr 0 298 9 [(0, tr 219), (1, .arg 1308), (2, .int 6659)] [.arg 60000, .int 6659, .arg 1308, tr 219], [fr 0 297 81 [(0, tr 219), (1, .arg 1308), (5, .int 3)] [], fr 0 300 36 [(0, tr 219), (1, .arg 1308)] [], fBot], 11), [zf98zzzp_20, zf98zzzp_21, zf98zzzp_22, zf98zzzp_23, zf98zzzp_24, zf98zzzp_25, zf98zzzp_26, ((139, .add (.elem (.arg 64353) (.int 0)) (.add (.int 105) (.arg 60000)), .int 100925506), true), zf98zzzp_18, zf98zzzp_15, zf98zzzp_19, zf98zzzp_17, zf98zzzp_2, zf98zzzp_3, zf98zzzp_4, zf98zzzp_5, ((0, .arg 1702, .int 0), true), ((0, .arg 3360, .int 0), true), ((0, .arg 1350, .int 0), true), ((0, .arg 1826, .int 0), true), zf98zzzp_6, zf98zzzp_14], i_bz)
noncomputable def w_oma7l : List (sCut × List (Nat × sT) × List (Nat × sT × List (sT × sT))) := [(q_omm8T, [], [(64321, .arg 64321, []), (64353, .arg 64353, [(.int 109, .long 0), (.int 108, .long 0), (.int 107, .long 0), (.int 106, .long 0), (.int 105, .long 0)])])]
theorem k_oma7l : cbody kR [(zWP, c_fndl), (zWB, c_mml)] (cpl1 zWB c_bn0 [q_omm8T]) (cpl2 zWB c_bn0 [q_omm8T]) (cleafB kR zWB c_bn0 w_oma7l) 700 false false q_oma7l.2.2.1 q_oma7l.2.2.2 (cst zWB c_bn0.2.2.1.1 q_oma7l.1) (cst zWB c_bn0.2.2.1.2 q_oma7l.2.1) = true := by decide +kernel
theorem t_oma7l {X : pX} {ρ0 : sR} (hv : vok X ρ0) : CUTOK X kR zWB c_bn0 13 ρ0 q_oma7l := CUTOK_AT (fun ρ k1 hF hI k4 => AT_of (q := q_oma7l) rfl rfl (SEM_runB kR_x kR_0 (Cs := [(zWP, c_fndl), (zWB, c_mml)]) (fun C hC => by
    simp only [List.mem_cons, List.not_mem_nil, or_false] at hC
    rcases hC with hC | hC
    · rw [hC]; exact s_fndl
    · rw [hC]; exact s_mml) c_bn0_f (Q := w_oma7l) hv 700 (b1 := false) (b2 := false) k_oma7l k1 hF hI k4 (fun p hp ρ3 m1 m2 m3 m4 m5 m6 => by
  rw [List.mem_singleton.mp hp] at m2 m3 m5 m6 ⊢
  have eD : ρ3.1 1308 = ρ.1 1308 := (m4.1 1308 (by decide) (by decide)).1.trans (k4.1 1308 (by decide) (by decide)).1.symm
  obtain ⟨d0, d4⟩ := d_r hF.1
  have hA : ∀ j, ρ3.2.2.2.1 64321 j = ρ.2.2.2.1 64321 j := fun j => by
    have hw := m6 (64321, .arg 64321, []) (List.mem_cons_self) j
    have hw : Value.long (ρ3.2.2.2.1 64321 j) = Value.long (ρ.2.2.2.1 64321 j) := hw
    exact Value.long.inj hw
  obtain ⟨hBn, hBf⟩ := fiv_w (f := ρ.2.2.2.1 64353) (g := ρ3.2.2.2.1 64353) (m := 105) (d := (ρ.1 1308).toInt) (v0 := 0) (v1 := 0) (v2 := 0) (v3 := 0) (v4 := 0) (fun j => m6 (64353, .arg 64353, [(.int 109, .long 0), (.int 108, .long 0), (.int 107, .long 0), (.int 106, .long 0), (.int 105, .long 0)]) (List.mem_cons_of_mem _ (List.mem_cons_self)) j) (amw_105 d0 d4 (i := 0) (by decide)) (amw_105 d0 d4 (i := 1) (by decide)) (amw_105 d0 d4 (i := 2) (by decide)) (amw_105 d0 d4 (i := 3) (by decide)) (amw_105 d0 d4 (i := 4) (by decide))
  have h7 := k157.mp (hF.2 _ (List.mem_cons_of_mem _ (List.mem_cons_of_mem _ (List.mem_cons_of_mem _ (List.mem_cons_of_mem _ (List.mem_cons_of_mem _ (List.mem_cons_of_mem _ (List.mem_cons_of_mem _ (List.mem_cons_of_mem _ (List.mem_cons_of_mem _ (List.mem_cons_self)))))))))))
  have h8 := k158.mp (hF.2 _ (List.mem_cons_of_mem _ (List.mem_cons_of_mem _ (List.mem_cons_of_mem _ (List.mem_cons_of_mem _ (List.mem_cons_of_mem _ (List.mem_cons_of_mem _ (List.mem_cons_of_mem _ (List.mem_cons_of_mem _ (List.mem_cons_of_mem _ (List.mem_cons_of_mem _ (List.mem_cons_self))))))))))))
  have h5 := k155.mp (hF.2 _ (List.mem_cons_of_mem _ (List.mem_cons_of_mem _ (List.mem_cons_of_mem _ (List.mem_cons_of_mem _ (List.mem_cons_of_mem _ (List.mem_cons_of_mem _ (List.mem_cons_of_mem _ (List.mem_cons_of_mem _ (List.mem_cons_of_mem _ (List.mem_cons_of_mem _ (List.mem_cons_of_mem _ (List.mem_cons_self)))))))))))))
  obtain ⟨v0, v4⟩ := ev_m4 (m := 105) (by decide) (h5 105 (by decide))
  have en : ρ.1 60000 = (ρ.2.2.2.1 64353 105).toInt32 := of_decide_eq_true (hF.2 _ (List.mem_cons_of_mem _ (List.mem_cons_of_mem _ (List.mem_cons_of_mem _ (List.mem_cons_of_mem _ (List.mem_cons_of_mem _ (List.mem_cons_of_mem _ (List.mem_cons_of_mem _ (List.mem_cons_of_mem _ (List.mem_cons_self))))))))))
  have hc : (100925506 : Int) = amcode (ρ.2.2.2.1 64353) 105 (ρ.1 60000).toInt.toNat := of_decide_eq_true (hF.2 _ (List.mem_cons_of_mem _ (List.mem_cons_of_mem _ (List.mem_cons_of_mem _ (List.mem_cons_of_mem _ (List.mem_cons_of_mem _ (List.mem_cons_of_mem _ (List.mem_cons_of_mem _ (List.mem_cons_self)))))))))
  rw [en, mv_l v0 (by omega)] at hc
  have hm : 105 ∈ amps := by decide
  have hn : ¬ amcode (ρ.2.2.2.1 64353) 105 (ρ.2.2.2.1 64353 105).toInt.toNat = 0 := by rw [← hc]; decide
  have eA : ρ3.2.2.2.1 64321 = ρ.2.2.2.1 64321 := funext hA
  have x7 : sc X ρ3 (157, .add (.elem (.arg 64321) (.int 0)) (.add (.elem (.arg 64353) (.int 0)) (.arg 1308)), .int 8) = true := k157.mpr (by rw [eA, eD]; exact amn_m d0 d4 hm h7 h5 hn (fun j _ hj => hBn j hj) hBf)
  have x8 : sc X ρ3 (158, .elem (.arg 64353) (.int 0), .int 8) = true := k158.mpr (ampm_t (K := 7) (m := 105) rfl (fun x hx => by
    have hx2 : x ∈ amps := of_decide_eq_true (List.all_eq_true.mp ampm_i x (List.mem_of_mem_take hx))
    by_cases e : x = 105
    · rw [e]; exact amf_0 d0 d4 hm hBf
    · rw [amo_c hm hx2 e h5 (fun j _ hj => hBn j hj)]; exact h8 x hx) (amf_0 d0 d4 hm hBf))
  have x5 : sc X ρ3 (155, .elem (.arg 64353) (.int 0), .int 0) = true := k155.mpr (fun j hj => by
    by_cases hi : 105 ≤ j ∧ j < 105 + 5
    · rw [hBf j hi.1 hi.2]; exact evf_k d0 d4 hj
    · rw [hBn j hi]; exact h5 j hj)
  have lg60129 : ρ3.2.1 60129 = ρ.2.1 60129 := (m4.1 60129 (by decide) (by decide)).2.trans (k4.1 60129 (by decide) (by decide)).2.symm
  have lg60065 : ρ3.2.1 60065 = ρ.2.1 60065 := (m4.1 60065 (by decide) (by decide)).2.trans (k4.1 60065 (by decide) (by decide)).2.symm
  have lg60097 : ρ3.2.1 60097 = ρ.2.1 60097 := (m4.1 60097 (by decide) (by decide)).2.trans (k4.1 60097 (by decide) (by decide)).2.symm
  have z1 : sc X ρ3 (6, .elem (.arg 64321) (.int 1), .arg 60129) = true := decide_eq_true (show ρ3.2.2.2.1 64321 1 = ρ3.2.1 60129 by
    rw [hA, lg60129]
    exact of_decide_eq_true (hF.2 _ (List.mem_cons_of_mem _ (List.mem_cons_of_mem _ (List.mem_cons_of_mem _ (List.mem_cons_of_mem _ (List.mem_cons_of_mem _ (List.mem_cons_of_mem _ (List.mem_cons_of_mem _ (List.mem_cons_of_mem _ (List.mem_cons_of_mem _ (List.mem_cons_of_mem _ (List.mem_cons_of_mem _ (List.mem_cons_of_mem _ (List.mem_cons_self)))))))))))))))
  have z2 : sc X ρ3 (6, .elem (.arg 64353) (.int 114), .arg 60065) = true := decide_eq_true (show ρ3.2.2.2.1 64353 114 = ρ3.2.1 60065 by
    rw [hBn 114 (by decide), lg60065]
    exact of_decide_eq_true (hF.2 _ (List.mem_cons_of_mem _ (List.mem_cons_of_mem _ (List.mem_cons_of_mem _ (List.mem_cons_of_mem _ (List.mem_cons_of_mem _ (List.mem_cons_of_mem _ (List.mem_cons_of_mem _ (List.mem_cons_of_mem _ (List.mem_cons_of_mem _ (List.mem_cons_of_mem _ (List.mem_cons_of_mem _ (List.mem_cons_of_mem _ (List.mem_cons_of_mem _ (List.mem_cons_self))))))))))))))))
  have z3 : sc X ρ3 (6, .elem (.arg 64353) (.int 123), .arg 60097) = true := decide_eq_true (show ρ3.2.2.2.1 64353 123 = ρ3.2.1 60097 by
    rw [hBn 123 (by decide), lg60097]
    exact of_decide_eq_true (hF.2 _ (List.mem_cons_of_mem _ (List.mem_cons_of_mem _ (List.mem_cons_of_mem _ (List.mem_cons_of_mem _ (List.mem_cons_of_mem _ (List.mem_cons_of_mem _ (List.mem_cons_of_mem _ (List.mem_cons_of_mem _ (List.mem_cons_of_mem _ (List.mem_cons_of_mem _ (List.mem_cons_of_mem _ (List.mem_cons_of_mem _ (List.mem_cons_of_mem _ (List.mem_cons_of_mem _ (List.mem_cons_self)))))))))))))))))
  exact t_omm8 hv ρ3 m1 ⟨m2.1, fcn (x7) (fcn (x8) (fcn (x5) (fcn (z1) (fcn (z2) (fcn (z3) (m2.2))))))⟩ m3 m4)))
theorem t_oma7 {X : pX} {ρ0 : sR} (hv : vok X ρ0) : CUTOK X kR zWB c_bn0 13 ρ0 q_oma7 := fun ρ k1 hF hI k4 => by
  have h5 := k155.mp (hF.2 _ (List.mem_cons_of_mem _ (List.mem_cons_of_mem _ (List.mem_cons_of_mem _ (List.mem_cons_self)))))
  obtain ⟨v0, v4⟩ := ev_m4 (m := 105) (by decide) (h5 105 (by decide))
  have f0 := s9_n (X := X) (ρ := ρ) (ix := 6659) (s := 0) (p := 105) (by decide +kernel)
  have f1 := s9_n (X := X) (ρ := ρ) (ix := 6659) (s := 1) (p := 106) (by decide +kernel)
  have f2 := s9_n (X := X) (ρ := ρ) (ix := 6659) (s := 2) (p := 107) (by decide +kernel)
  have f3 := s9_n (X := X) (ρ := ρ) (ix := 6659) (s := 3) (p := 108) (by decide +kernel)
  have f4 := s9_n (X := X) (ρ := ρ) (ix := 6659) (s := 4) (p := 109) (by decide +kernel)
  have en : ρ.1 60000 = (ρ.2.2.2.1 64353 105).toInt32 := of_decide_eq_true (hF.2 _ (List.mem_cons_self))
  have ev : (ρ.1 60000).toInt = (ρ.2.2.2.1 64353 105).toInt := by rw [en]; exact mv_l v0 (by omega)
  rcases am_3 (g := ρ.2.2.2.1 64353) (m := 105) (n := (ρ.1 60000).toInt.toNat) with h | h | h
  · exact t_oma7o hv ρ k1 ⟨hF.1, fcn (f0) (fcn (f1) (fcn (f2) (fcn (f3) (fcn (f4) (fcn (di_lf (x := ρ.1 60000) (y := 0) (by rw [ev]; show (0 : Int) ≤ _; exact v0)) (fcn (di_lf (x := 4) (y := ρ.1 60000) (by rw [ev]; show _ ≤ (4 : Int); exact v4)) (fcn (decide_eq_true (show (0 : Int) = amcode (ρ.2.2.2.1 64353) 105 (ρ.1 60000).toInt.toNat from h.symm)) (hF.2))))))))⟩ hI k4
  · exact t_oma7n hv ρ k1 ⟨hF.1, fcn (f0) (fcn (f1) (fcn (f2) (fcn (f3) (fcn (f4) (fcn (di_lf (x := ρ.1 60000) (y := 0) (by rw [ev]; show (0 : Int) ≤ _; exact v0)) (fcn (di_lf (x := 4) (y := ρ.1 60000) (by rw [ev]; show _ ≤ (4 : Int); exact v4)) (fcn (decide_eq_true (show (100925505 : Int) = amcode (ρ.2.2.2.1 64353) 105 (ρ.1 60000).toInt.toNat from h.symm)) (hF.2))))))))⟩ hI k4
  · exact t_oma7l hv ρ k1 ⟨hF.1, fcn (f0) (fcn (f1) (fcn (f2) (fcn (f3) (fcn (f4) (fcn (di_lf (x := ρ.1 60000) (y := 0) (by rw [ev]; show (0 : Int) ≤ _; exact v0)) (fcn (di_lf (x := 4) (y := ρ.1 60000) (by rw [ev]; show _ ≤ (4 : Int); exact v4)) (fcn (decide_eq_true (show (100925506 : Int) = amcode (ρ.2.2.2.1 64353) 105 (ρ.1 60000).toInt.toNat from h.symm)) (hF.2))))))))⟩ hI k4
noncomputable def q_omm7 : sCut := ((fr 0 95 34 [(0, tr 75), (1, .int 90), (2, .int 3)] [], [fr 0 93 73 [(0, tr 75)] [], fr 0 60 30 [(0, tr 39), (1, .int 0)] [], fBot], 11), (fr 0 297 75 [(0, tr 219), (1, .arg 1308), (5, .int 3)] [], [fr 0 300 36 [(0, tr 219), (1, .arg 1308)] [], fBot], 12), [zf98zzzp_15, zf98zzzp_19, zf98zzzp_17, zf98zzzp_2, zf98zzzp_3, zf98zzzp_4, zf98zzzp_5, ((0, .arg 1702, .int 0), true), ((0, .arg 3360, .int 0), true), ((0, .arg 1350, .int 0), true), ((0, .arg 1826, .int 0), true), zf98zzzp_6, zf98zzzp_14], i_bz)
noncomputable def q_omm7g : sCut := ((fr 0 95 34 [(0, tr 75), (1, .int 90), (2, .int 3)] [], [fr 0 93 73 [(0, tr 75)] [], fr 0 60 30 [(0, tr 39), (1, .int 0)] [], fBot], 11), (fr 0 297 75 [(0, tr 219), (1, .arg 1308), (5, .int 3)] [], [fr 0 300 36 [(0, tr 219), (1, .arg 1308)] [], fBot], 12), [zf98zzzp_20, zf98zzzp_15, zf98zzzp_19, zf98zzzp_17, zf98zzzp_2, zf98zzzp_3, zf98zzzp_4, zf98zzzp_5, ((0, .arg 1702, .int 0), true), ((0, .arg 3360, .int 0), true), ((0, .arg 1350, .int 0), true), ((0, .arg 1826, .int 0), true), zf98zzzp_6, zf98zzzp_14], i_bz)
theorem k_omm7g : cbody kR [(zWP, c_fndl)] (cpl1 zWB c_bn0 [q_oma7]) (cpl2 zWB c_bn0 [q_oma7]) (cleaf kR zWB c_bn0 [q_oma7]) 200 false true q_omm7g.2.2.1 q_omm7g.2.2.2 (cst zWB c_bn0.2.2.1.1 q_omm7g.1) (cst zWB c_bn0.2.2.1.2 q_omm7g.2.1) = true := by decide +kernel
theorem t_omm7g {X : pX} {ρ0 : sR} (hv : vok X ρ0) : CUTOK X kR zWB c_bn0 13 ρ0 q_omm7g := CUT_run kR_x kR_0 (Cs := [(zWP, c_fndl)]) (fun C hC => by rw [List.mem_singleton.mp hC]; exact s_fndl) c_bn0_f (Q := [q_oma7]) hv (fun q hq => by
    simp only [List.mem_cons, List.not_mem_nil, or_false] at hq
    rw [hq]; exact t_oma7 hv) 200 (b1 := false) (b2 := true) k_omm7g
theorem t_omm7 {X : pX} {ρ0 : sR} (hv : vok X ρ0) : CUTOK X kR zWB c_bn0 13 ρ0 q_omm7 := fun ρ k1 hF hI k4 => by
  exact t_omm7g hv ρ k1 ⟨hF.1, fcn (s9_n (X := X) (ρ := ρ) (ix := 6659) (s := 0) (p := 105) (by decide +kernel)) (hF.2)⟩ hI k4
noncomputable def zf98zzzp_27 : sQ × Bool := ((0, .arg 60000, .op1 .l2i (.elem (.arg 64353) (.int 65))), true)
noncomputable def zf98zzzp_28 : sQ × Bool := ((158, .elem (.arg 64353) (.int 0), .int 6), true)
noncomputable def q_oma6 : sCut := ((fr 0 95 34 [(0, tr 75), (1, .int 90), (2, .int 3)] [], [fr 0 93 73 [(0, tr 75)] [], fr 0 60 30 [(0, tr 39), (1, .int 0)] [], fBot], 11), (fr 0 298 9 [(0, tr 219), (1, .arg 1308), (2, .int 5635)] [.arg 60000, .int 5635, .arg 1308, tr 219], [fr 0 297 75 [(0, tr 219), (1, .arg 1308), (5, .int 3)] [], fr 0 300 36 [(0, tr 219), (1, .arg 1308)] [], fBot], 11), [zf98zzzp_27, zf98zzzp_15, zf98zzzp_28, zf98zzzp_17, zf98zzzp_2, zf98zzzp_3, zf98zzzp_4, zf98zzzp_5, ((0, .arg 1702, .int 0), true), ((0, .arg 3360, .int 0), true), ((0, .arg 1350, .int 0), true), ((0, .arg 1826, .int 0), true), zf98zzzp_6, zf98zzzp_14], i_bz)
noncomputable def zf98zzzp_29 : sQ × Bool := ((109, .add (.int 5635) (.int 0), .int 65), true)
noncomputable def zf98zzzp_30 : sQ × Bool := ((109, .add (.int 5635) (.int 1), .int 66), true)
noncomputable def zf98zzzp_31 : sQ × Bool := ((109, .add (.int 5635) (.int 2), .int 67), true)
noncomputable def zf98zzzp_32 : sQ × Bool := ((109, .add (.int 5635) (.int 3), .int 68), true)
noncomputable def zf98zzzp_33 : sQ × Bool := ((109, .add (.int 5635) (.int 4), .int 69), true)
noncomputable def q_oma6o : sCut := ((fr 0 95 34 [(0, tr 75), (1, .int 90), (2, .int 3)] [], [fr 0 93 73 [(0, tr 75)] [], fr 0 60 30 [(0, tr 39), (1, .int 0)] [], fBot], 11), (fr 0 298 9 [(0, tr 219), (1, .arg 1308), (2, .int 5635)] [.arg 60000, .int 5635, .arg 1308, tr 219], [fr 0 297 75 [(0, tr 219), (1, .arg 1308), (5, .int 3)] [], fr 0 300 36 [(0, tr 219), (1, .arg 1308)] [], fBot], 11), [zf98zzzp_29, zf98zzzp_30, zf98zzzp_31, zf98zzzp_32, zf98zzzp_33, zf98zzzp_25, zf98zzzp_26, ((139, .add (.elem (.arg 64353) (.int 0)) (.add (.int 65) (.arg 60000)), .int 0), true), zf98zzzp_27, zf98zzzp_15, zf98zzzp_28, zf98zzzp_17, zf98zzzp_2, zf98zzzp_3, zf98zzzp_4, zf98zzzp_5, ((0, .arg 1702, .int 0), true), ((0, .arg 3360, .int 0), true), ((0, .arg 1350, .int 0), true), ((0, .arg 1826, .int 0), true), zf98zzzp_6, zf98zzzp_14], i_bz)
noncomputable def w_oma6o : List (sCut × List (Nat × sT) × List (Nat × sT × List (sT × sT))) := [(q_omm7T, [], [(64321, .arg 64321, []), (64353, .arg 64353, [])])]
theorem k_oma6o : cbody kR [(zWP, c_fndl), (zWB, c_mmo)] (cpl1 zWB c_bn0 [q_omm7T]) (cpl2 zWB c_bn0 [q_omm7T]) (cleafB kR zWB c_bn0 w_oma6o) 700 false false q_oma6o.2.2.1 q_oma6o.2.2.2 (cst zWB c_bn0.2.2.1.1 q_oma6o.1) (cst zWB c_bn0.2.2.1.2 q_oma6o.2.1) = true := by decide +kernel
theorem t_oma6o {X : pX} {ρ0 : sR} (hv : vok X ρ0) : CUTOK X kR zWB c_bn0 13 ρ0 q_oma6o := CUTOK_AT (fun ρ k1 hF hI k4 => AT_of (q := q_oma6o) rfl rfl (SEM_runB kR_x kR_0 (Cs := [(zWP, c_fndl), (zWB, c_mmo)]) (fun C hC => by
    simp only [List.mem_cons, List.not_mem_nil, or_false] at hC
    rcases hC with hC | hC
    · rw [hC]; exact s_fndl
    · rw [hC]; exact s_mmo) c_bn0_f (Q := w_oma6o) hv 700 (b1 := false) (b2 := false) k_oma6o k1 hF hI k4 (fun p hp ρ3 m1 m2 m3 m4 m5 m6 => by
  rw [List.mem_singleton.mp hp] at m2 m3 m5 m6 ⊢
  have eD : ρ3.1 1308 = ρ.1 1308 := (m4.1 1308 (by decide) (by decide)).1.trans (k4.1 1308 (by decide) (by decide)).1.symm
  obtain ⟨d0, d4⟩ := d_r hF.1
  have hA : ∀ j, ρ3.2.2.2.1 64321 j = ρ.2.2.2.1 64321 j := fun j => by
    have hw := m6 (64321, .arg 64321, []) (List.mem_cons_self) j
    have hw : Value.long (ρ3.2.2.2.1 64321 j) = Value.long (ρ.2.2.2.1 64321 j) := hw
    exact Value.long.inj hw
  have hB : ∀ j, ρ3.2.2.2.1 64353 j = ρ.2.2.2.1 64353 j := fun j => by
    have hw := m6 (64353, .arg 64353, []) (List.mem_cons_of_mem _ (List.mem_cons_self)) j
    have hw : Value.long (ρ3.2.2.2.1 64353 j) = Value.long (ρ.2.2.2.1 64353 j) := hw
    exact Value.long.inj hw
  have h7 := k157.mp (hF.2 _ (List.mem_cons_of_mem _ (List.mem_cons_of_mem _ (List.mem_cons_of_mem _ (List.mem_cons_of_mem _ (List.mem_cons_of_mem _ (List.mem_cons_of_mem _ (List.mem_cons_of_mem _ (List.mem_cons_of_mem _ (List.mem_cons_of_mem _ (List.mem_cons_self)))))))))))
  have h8 := k158.mp (hF.2 _ (List.mem_cons_of_mem _ (List.mem_cons_of_mem _ (List.mem_cons_of_mem _ (List.mem_cons_of_mem _ (List.mem_cons_of_mem _ (List.mem_cons_of_mem _ (List.mem_cons_of_mem _ (List.mem_cons_of_mem _ (List.mem_cons_of_mem _ (List.mem_cons_of_mem _ (List.mem_cons_self))))))))))))
  have h5 := k155.mp (hF.2 _ (List.mem_cons_of_mem _ (List.mem_cons_of_mem _ (List.mem_cons_of_mem _ (List.mem_cons_of_mem _ (List.mem_cons_of_mem _ (List.mem_cons_of_mem _ (List.mem_cons_of_mem _ (List.mem_cons_of_mem _ (List.mem_cons_of_mem _ (List.mem_cons_of_mem _ (List.mem_cons_of_mem _ (List.mem_cons_self)))))))))))))
  obtain ⟨v0, v4⟩ := ev_m4 (m := 65) (by decide) (h5 65 (by decide))
  have en : ρ.1 60000 = (ρ.2.2.2.1 64353 65).toInt32 := of_decide_eq_true (hF.2 _ (List.mem_cons_of_mem _ (List.mem_cons_of_mem _ (List.mem_cons_of_mem _ (List.mem_cons_of_mem _ (List.mem_cons_of_mem _ (List.mem_cons_of_mem _ (List.mem_cons_of_mem _ (List.mem_cons_of_mem _ (List.mem_cons_self))))))))))
  have hc : (0 : Int) = amcode (ρ.2.2.2.1 64353) 65 (ρ.1 60000).toInt.toNat := of_decide_eq_true (hF.2 _ (List.mem_cons_of_mem _ (List.mem_cons_of_mem _ (List.mem_cons_of_mem _ (List.mem_cons_of_mem _ (List.mem_cons_of_mem _ (List.mem_cons_of_mem _ (List.mem_cons_of_mem _ (List.mem_cons_self)))))))))
  rw [en, mv_l v0 (by omega)] at hc
  have eA : ρ3.2.2.2.1 64321 = ρ.2.2.2.1 64321 := funext hA
  have eB : ρ3.2.2.2.1 64353 = ρ.2.2.2.1 64353 := funext hB
  have x7 : sc X ρ3 (157, .add (.elem (.arg 64321) (.int 0)) (.add (.elem (.arg 64353) (.int 0)) (.arg 1308)), .int 8) = true := k157.mpr (by rw [eA, eB, eD]; exact h7)
  have x8 : sc X ρ3 (158, .elem (.arg 64353) (.int 0), .int 7) = true := k158.mpr (by rw [eB]; exact ampm_t (K := 6) (m := 65) rfl h8 hc.symm)
  have x5 : sc X ρ3 (155, .elem (.arg 64353) (.int 0), .int 0) = true := k155.mpr (by rw [eB]; exact h5)
  have lg60129 : ρ3.2.1 60129 = ρ.2.1 60129 := (m4.1 60129 (by decide) (by decide)).2.trans (k4.1 60129 (by decide) (by decide)).2.symm
  have lg60065 : ρ3.2.1 60065 = ρ.2.1 60065 := (m4.1 60065 (by decide) (by decide)).2.trans (k4.1 60065 (by decide) (by decide)).2.symm
  have lg60097 : ρ3.2.1 60097 = ρ.2.1 60097 := (m4.1 60097 (by decide) (by decide)).2.trans (k4.1 60097 (by decide) (by decide)).2.symm
  have z1 : sc X ρ3 (6, .elem (.arg 64321) (.int 1), .arg 60129) = true := decide_eq_true (show ρ3.2.2.2.1 64321 1 = ρ3.2.1 60129 by
    rw [hA, lg60129]
    exact of_decide_eq_true (hF.2 _ (List.mem_cons_of_mem _ (List.mem_cons_of_mem _ (List.mem_cons_of_mem _ (List.mem_cons_of_mem _ (List.mem_cons_of_mem _ (List.mem_cons_of_mem _ (List.mem_cons_of_mem _ (List.mem_cons_of_mem _ (List.mem_cons_of_mem _ (List.mem_cons_of_mem _ (List.mem_cons_of_mem _ (List.mem_cons_of_mem _ (List.mem_cons_self)))))))))))))))
  have z2 : sc X ρ3 (6, .elem (.arg 64353) (.int 114), .arg 60065) = true := decide_eq_true (show ρ3.2.2.2.1 64353 114 = ρ3.2.1 60065 by
    rw [hB, lg60065]
    exact of_decide_eq_true (hF.2 _ (List.mem_cons_of_mem _ (List.mem_cons_of_mem _ (List.mem_cons_of_mem _ (List.mem_cons_of_mem _ (List.mem_cons_of_mem _ (List.mem_cons_of_mem _ (List.mem_cons_of_mem _ (List.mem_cons_of_mem _ (List.mem_cons_of_mem _ (List.mem_cons_of_mem _ (List.mem_cons_of_mem _ (List.mem_cons_of_mem _ (List.mem_cons_of_mem _ (List.mem_cons_self))))))))))))))))
  have z3 : sc X ρ3 (6, .elem (.arg 64353) (.int 123), .arg 60097) = true := decide_eq_true (show ρ3.2.2.2.1 64353 123 = ρ3.2.1 60097 by
    rw [hB, lg60097]
    exact of_decide_eq_true (hF.2 _ (List.mem_cons_of_mem _ (List.mem_cons_of_mem _ (List.mem_cons_of_mem _ (List.mem_cons_of_mem _ (List.mem_cons_of_mem _ (List.mem_cons_of_mem _ (List.mem_cons_of_mem _ (List.mem_cons_of_mem _ (List.mem_cons_of_mem _ (List.mem_cons_of_mem _ (List.mem_cons_of_mem _ (List.mem_cons_of_mem _ (List.mem_cons_of_mem _ (List.mem_cons_of_mem _ (List.mem_cons_self)))))))))))))))))
  exact t_omm7 hv ρ3 m1 ⟨m2.1, fcn (x7) (fcn (x8) (fcn (x5) (fcn (z1) (fcn (z2) (fcn (z3) (m2.2))))))⟩ m3 m4)))
noncomputable def q_oma6n : sCut := ((fr 0 95 34 [(0, tr 75), (1, .int 90), (2, .int 3)] [], [fr 0 93 73 [(0, tr 75)] [], fr 0 60 30 [(0, tr 39), (1, .int 0)] [], fBot], 11), (fr 0 298 9 [(0, tr 219), (1, .arg 1308), (2, .int 5635)] [.arg 60000, .int 5635, .arg 1308, tr 219], [fr 0 297 75 [(0, tr 219), (1, .arg 1308), (5, .int 3)] [], fr 0 300 36 [(0, tr 219), (1, .arg 1308)] [], fBot], 11), [zf98zzzp_29, zf98zzzp_30, zf98zzzp_31, zf98zzzp_32, zf98zzzp_33, zf98zzzp_25, zf98zzzp_26, ((139, .add (.elem (.arg 64353) (.int 0)) (.add (.int 65) (.arg 60000)), .int 100925505), true), zf98zzzp_27, zf98zzzp_15, zf98zzzp_28, zf98zzzp_17, zf98zzzp_2, zf98zzzp_3, zf98zzzp_4, zf98zzzp_5, ((0, .arg 1702, .int 0), true), ((0, .arg 3360, .int 0), true), ((0, .arg 1350, .int 0), true), ((0, .arg 1826, .int 0), true), zf98zzzp_6, zf98zzzp_14], i_bz)
noncomputable def w_oma6n : List (sCut × List (Nat × sT) × List (Nat × sT × List (sT × sT))) := [(q_omm7T, [], [(64321, .arg 64321, []), (64353, .arg 64353, [(.int 69, .long 0), (.int 68, .long 0), (.int 67, .long 0), (.int 66, .long 0), (.int 65, .long 0)])])]
theorem k_oma6n : cbody kR [(zWP, c_fndl), (zWB, c_mmn)] (cpl1 zWB c_bn0 [q_omm7T]) (cpl2 zWB c_bn0 [q_omm7T]) (cleafB kR zWB c_bn0 w_oma6n) 700 false false q_oma6n.2.2.1 q_oma6n.2.2.2 (cst zWB c_bn0.2.2.1.1 q_oma6n.1) (cst zWB c_bn0.2.2.1.2 q_oma6n.2.1) = true := by decide +kernel
theorem t_oma6n {X : pX} {ρ0 : sR} (hv : vok X ρ0) : CUTOK X kR zWB c_bn0 13 ρ0 q_oma6n := CUTOK_AT (fun ρ k1 hF hI k4 => AT_of (q := q_oma6n) rfl rfl (SEM_runB kR_x kR_0 (Cs := [(zWP, c_fndl), (zWB, c_mmn)]) (fun C hC => by
    simp only [List.mem_cons, List.not_mem_nil, or_false] at hC
    rcases hC with hC | hC
    · rw [hC]; exact s_fndl
    · rw [hC]; exact s_mmn) c_bn0_f (Q := w_oma6n) hv 700 (b1 := false) (b2 := false) k_oma6n k1 hF hI k4 (fun p hp ρ3 m1 m2 m3 m4 m5 m6 => by
  rw [List.mem_singleton.mp hp] at m2 m3 m5 m6 ⊢
  have eD : ρ3.1 1308 = ρ.1 1308 := (m4.1 1308 (by decide) (by decide)).1.trans (k4.1 1308 (by decide) (by decide)).1.symm
  obtain ⟨d0, d4⟩ := d_r hF.1
  have hA : ∀ j, ρ3.2.2.2.1 64321 j = ρ.2.2.2.1 64321 j := fun j => by
    have hw := m6 (64321, .arg 64321, []) (List.mem_cons_self) j
    have hw : Value.long (ρ3.2.2.2.1 64321 j) = Value.long (ρ.2.2.2.1 64321 j) := hw
    exact Value.long.inj hw
  obtain ⟨hBn, hBf⟩ := fiv_w (f := ρ.2.2.2.1 64353) (g := ρ3.2.2.2.1 64353) (m := 65) (d := (ρ.1 1308).toInt) (v0 := 0) (v1 := 0) (v2 := 0) (v3 := 0) (v4 := 0) (fun j => m6 (64353, .arg 64353, [(.int 69, .long 0), (.int 68, .long 0), (.int 67, .long 0), (.int 66, .long 0), (.int 65, .long 0)]) (List.mem_cons_of_mem _ (List.mem_cons_self)) j) (amw_65 d0 d4 (i := 0) (by decide)) (amw_65 d0 d4 (i := 1) (by decide)) (amw_65 d0 d4 (i := 2) (by decide)) (amw_65 d0 d4 (i := 3) (by decide)) (amw_65 d0 d4 (i := 4) (by decide))
  have h7 := k157.mp (hF.2 _ (List.mem_cons_of_mem _ (List.mem_cons_of_mem _ (List.mem_cons_of_mem _ (List.mem_cons_of_mem _ (List.mem_cons_of_mem _ (List.mem_cons_of_mem _ (List.mem_cons_of_mem _ (List.mem_cons_of_mem _ (List.mem_cons_of_mem _ (List.mem_cons_self)))))))))))
  have h8 := k158.mp (hF.2 _ (List.mem_cons_of_mem _ (List.mem_cons_of_mem _ (List.mem_cons_of_mem _ (List.mem_cons_of_mem _ (List.mem_cons_of_mem _ (List.mem_cons_of_mem _ (List.mem_cons_of_mem _ (List.mem_cons_of_mem _ (List.mem_cons_of_mem _ (List.mem_cons_of_mem _ (List.mem_cons_self))))))))))))
  have h5 := k155.mp (hF.2 _ (List.mem_cons_of_mem _ (List.mem_cons_of_mem _ (List.mem_cons_of_mem _ (List.mem_cons_of_mem _ (List.mem_cons_of_mem _ (List.mem_cons_of_mem _ (List.mem_cons_of_mem _ (List.mem_cons_of_mem _ (List.mem_cons_of_mem _ (List.mem_cons_of_mem _ (List.mem_cons_of_mem _ (List.mem_cons_self)))))))))))))
  obtain ⟨v0, v4⟩ := ev_m4 (m := 65) (by decide) (h5 65 (by decide))
  have en : ρ.1 60000 = (ρ.2.2.2.1 64353 65).toInt32 := of_decide_eq_true (hF.2 _ (List.mem_cons_of_mem _ (List.mem_cons_of_mem _ (List.mem_cons_of_mem _ (List.mem_cons_of_mem _ (List.mem_cons_of_mem _ (List.mem_cons_of_mem _ (List.mem_cons_of_mem _ (List.mem_cons_of_mem _ (List.mem_cons_self))))))))))
  have hc : (100925505 : Int) = amcode (ρ.2.2.2.1 64353) 65 (ρ.1 60000).toInt.toNat := of_decide_eq_true (hF.2 _ (List.mem_cons_of_mem _ (List.mem_cons_of_mem _ (List.mem_cons_of_mem _ (List.mem_cons_of_mem _ (List.mem_cons_of_mem _ (List.mem_cons_of_mem _ (List.mem_cons_of_mem _ (List.mem_cons_self)))))))))
  rw [en, mv_l v0 (by omega)] at hc
  have hm : 65 ∈ amps := by decide
  have hn : ¬ amcode (ρ.2.2.2.1 64353) 65 (ρ.2.2.2.1 64353 65).toInt.toNat = 0 := by rw [← hc]; decide
  have eA : ρ3.2.2.2.1 64321 = ρ.2.2.2.1 64321 := funext hA
  have x7 : sc X ρ3 (157, .add (.elem (.arg 64321) (.int 0)) (.add (.elem (.arg 64353) (.int 0)) (.arg 1308)), .int 8) = true := k157.mpr (by rw [eA, eD]; exact amn_m d0 d4 hm h7 h5 hn (fun j _ hj => hBn j hj) hBf)
  have x8 : sc X ρ3 (158, .elem (.arg 64353) (.int 0), .int 7) = true := k158.mpr (ampm_t (K := 6) (m := 65) rfl (fun x hx => by
    have hx2 : x ∈ amps := of_decide_eq_true (List.all_eq_true.mp ampm_i x (List.mem_of_mem_take hx))
    by_cases e : x = 65
    · rw [e]; exact amf_0 d0 d4 hm hBf
    · rw [amo_c hm hx2 e h5 (fun j _ hj => hBn j hj)]; exact h8 x hx) (amf_0 d0 d4 hm hBf))
  have x5 : sc X ρ3 (155, .elem (.arg 64353) (.int 0), .int 0) = true := k155.mpr (fun j hj => by
    by_cases hi : 65 ≤ j ∧ j < 65 + 5
    · rw [hBf j hi.1 hi.2]; exact evf_k d0 d4 hj
    · rw [hBn j hi]; exact h5 j hj)
  have lg60129 : ρ3.2.1 60129 = ρ.2.1 60129 := (m4.1 60129 (by decide) (by decide)).2.trans (k4.1 60129 (by decide) (by decide)).2.symm
  have lg60065 : ρ3.2.1 60065 = ρ.2.1 60065 := (m4.1 60065 (by decide) (by decide)).2.trans (k4.1 60065 (by decide) (by decide)).2.symm
  have lg60097 : ρ3.2.1 60097 = ρ.2.1 60097 := (m4.1 60097 (by decide) (by decide)).2.trans (k4.1 60097 (by decide) (by decide)).2.symm
  have z1 : sc X ρ3 (6, .elem (.arg 64321) (.int 1), .arg 60129) = true := decide_eq_true (show ρ3.2.2.2.1 64321 1 = ρ3.2.1 60129 by
    rw [hA, lg60129]
    exact of_decide_eq_true (hF.2 _ (List.mem_cons_of_mem _ (List.mem_cons_of_mem _ (List.mem_cons_of_mem _ (List.mem_cons_of_mem _ (List.mem_cons_of_mem _ (List.mem_cons_of_mem _ (List.mem_cons_of_mem _ (List.mem_cons_of_mem _ (List.mem_cons_of_mem _ (List.mem_cons_of_mem _ (List.mem_cons_of_mem _ (List.mem_cons_of_mem _ (List.mem_cons_self)))))))))))))))
  have z2 : sc X ρ3 (6, .elem (.arg 64353) (.int 114), .arg 60065) = true := decide_eq_true (show ρ3.2.2.2.1 64353 114 = ρ3.2.1 60065 by
    rw [hBn 114 (by decide), lg60065]
    exact of_decide_eq_true (hF.2 _ (List.mem_cons_of_mem _ (List.mem_cons_of_mem _ (List.mem_cons_of_mem _ (List.mem_cons_of_mem _ (List.mem_cons_of_mem _ (List.mem_cons_of_mem _ (List.mem_cons_of_mem _ (List.mem_cons_of_mem _ (List.mem_cons_of_mem _ (List.mem_cons_of_mem _ (List.mem_cons_of_mem _ (List.mem_cons_of_mem _ (List.mem_cons_of_mem _ (List.mem_cons_self))))))))))))))))
  have z3 : sc X ρ3 (6, .elem (.arg 64353) (.int 123), .arg 60097) = true := decide_eq_true (show ρ3.2.2.2.1 64353 123 = ρ3.2.1 60097 by
    rw [hBn 123 (by decide), lg60097]
    exact of_decide_eq_true (hF.2 _ (List.mem_cons_of_mem _ (List.mem_cons_of_mem _ (List.mem_cons_of_mem _ (List.mem_cons_of_mem _ (List.mem_cons_of_mem _ (List.mem_cons_of_mem _ (List.mem_cons_of_mem _ (List.mem_cons_of_mem _ (List.mem_cons_of_mem _ (List.mem_cons_of_mem _ (List.mem_cons_of_mem _ (List.mem_cons_of_mem _ (List.mem_cons_of_mem _ (List.mem_cons_of_mem _ (List.mem_cons_self)))))))))))))))))
  exact t_omm7 hv ρ3 m1 ⟨m2.1, fcn (x7) (fcn (x8) (fcn (x5) (fcn (z1) (fcn (z2) (fcn (z3) (m2.2))))))⟩ m3 m4)))
noncomputable def q_oma6l : sCut := ((fr 0 95 34 [(0, tr 75), (1, .int 90), (2, .int 3)] [], [fr 0 93 73 [(0, tr 75)] [], fr 0 60 30 [(0, tr 39), (1, .int 0)] [], fBot], 11), (fr 0 298 9 [(0, tr 219), (1, .arg 1308), (2, .int 5635)] [.arg 60000, .int 5635, .arg 1308, tr 219], [fr 0 297 75 [(0, tr 219), (1, .arg 1308), (5, .int 3)] [], fr 0 300 36 [(0, tr 219), (1, .arg 1308)] [], fBot], 11), [zf98zzzp_29, zf98zzzp_30, zf98zzzp_31, zf98zzzp_32, zf98zzzp_33, zf98zzzp_25, zf98zzzp_26, ((139, .add (.elem (.arg 64353) (.int 0)) (.add (.int 65) (.arg 60000)), .int 100925506), true), zf98zzzp_27, zf98zzzp_15, zf98zzzp_28, zf98zzzp_17, zf98zzzp_2, zf98zzzp_3, zf98zzzp_4, zf98zzzp_5, ((0, .arg 1702, .int 0), true), ((0, .arg 3360, .int 0), true), ((0, .arg 1350, .int 0), true), ((0, .arg 1826, .int 0), true), zf98zzzp_6, zf98zzzp_14], i_bz)
noncomputable def w_oma6l : List (sCut × List (Nat × sT) × List (Nat × sT × List (sT × sT))) := [(q_omm7T, [], [(64321, .arg 64321, []), (64353, .arg 64353, [(.int 69, .long 0), (.int 68, .long 0), (.int 67, .long 0), (.int 66, .long 0), (.int 65, .long 0)])])]
theorem k_oma6l : cbody kR [(zWP, c_fndl), (zWB, c_mml)] (cpl1 zWB c_bn0 [q_omm7T]) (cpl2 zWB c_bn0 [q_omm7T]) (cleafB kR zWB c_bn0 w_oma6l) 700 false false q_oma6l.2.2.1 q_oma6l.2.2.2 (cst zWB c_bn0.2.2.1.1 q_oma6l.1) (cst zWB c_bn0.2.2.1.2 q_oma6l.2.1) = true := by decide +kernel
theorem t_oma6l {X : pX} {ρ0 : sR} (hv : vok X ρ0) : CUTOK X kR zWB c_bn0 13 ρ0 q_oma6l := CUTOK_AT (fun ρ k1 hF hI k4 => AT_of (q := q_oma6l) rfl rfl (SEM_runB kR_x kR_0 (Cs := [(zWP, c_fndl), (zWB, c_mml)]) (fun C hC => by
    simp only [List.mem_cons, List.not_mem_nil, or_false] at hC
    rcases hC with hC | hC
    · rw [hC]; exact s_fndl
    · rw [hC]; exact s_mml) c_bn0_f (Q := w_oma6l) hv 700 (b1 := false) (b2 := false) k_oma6l k1 hF hI k4 (fun p hp ρ3 m1 m2 m3 m4 m5 m6 => by
  rw [List.mem_singleton.mp hp] at m2 m3 m5 m6 ⊢
  have eD : ρ3.1 1308 = ρ.1 1308 := (m4.1 1308 (by decide) (by decide)).1.trans (k4.1 1308 (by decide) (by decide)).1.symm
  obtain ⟨d0, d4⟩ := d_r hF.1
  have hA : ∀ j, ρ3.2.2.2.1 64321 j = ρ.2.2.2.1 64321 j := fun j => by
    have hw := m6 (64321, .arg 64321, []) (List.mem_cons_self) j
    have hw : Value.long (ρ3.2.2.2.1 64321 j) = Value.long (ρ.2.2.2.1 64321 j) := hw
    exact Value.long.inj hw
  obtain ⟨hBn, hBf⟩ := fiv_w (f := ρ.2.2.2.1 64353) (g := ρ3.2.2.2.1 64353) (m := 65) (d := (ρ.1 1308).toInt) (v0 := 0) (v1 := 0) (v2 := 0) (v3 := 0) (v4 := 0) (fun j => m6 (64353, .arg 64353, [(.int 69, .long 0), (.int 68, .long 0), (.int 67, .long 0), (.int 66, .long 0), (.int 65, .long 0)]) (List.mem_cons_of_mem _ (List.mem_cons_self)) j) (amw_65 d0 d4 (i := 0) (by decide)) (amw_65 d0 d4 (i := 1) (by decide)) (amw_65 d0 d4 (i := 2) (by decide)) (amw_65 d0 d4 (i := 3) (by decide)) (amw_65 d0 d4 (i := 4) (by decide))
  have h7 := k157.mp (hF.2 _ (List.mem_cons_of_mem _ (List.mem_cons_of_mem _ (List.mem_cons_of_mem _ (List.mem_cons_of_mem _ (List.mem_cons_of_mem _ (List.mem_cons_of_mem _ (List.mem_cons_of_mem _ (List.mem_cons_of_mem _ (List.mem_cons_of_mem _ (List.mem_cons_self)))))))))))
  have h8 := k158.mp (hF.2 _ (List.mem_cons_of_mem _ (List.mem_cons_of_mem _ (List.mem_cons_of_mem _ (List.mem_cons_of_mem _ (List.mem_cons_of_mem _ (List.mem_cons_of_mem _ (List.mem_cons_of_mem _ (List.mem_cons_of_mem _ (List.mem_cons_of_mem _ (List.mem_cons_of_mem _ (List.mem_cons_self))))))))))))
  have h5 := k155.mp (hF.2 _ (List.mem_cons_of_mem _ (List.mem_cons_of_mem _ (List.mem_cons_of_mem _ (List.mem_cons_of_mem _ (List.mem_cons_of_mem _ (List.mem_cons_of_mem _ (List.mem_cons_of_mem _ (List.mem_cons_of_mem _ (List.mem_cons_of_mem _ (List.mem_cons_of_mem _ (List.mem_cons_of_mem _ (List.mem_cons_self)))))))))))))
  obtain ⟨v0, v4⟩ := ev_m4 (m := 65) (by decide) (h5 65 (by decide))
  have en : ρ.1 60000 = (ρ.2.2.2.1 64353 65).toInt32 := of_decide_eq_true (hF.2 _ (List.mem_cons_of_mem _ (List.mem_cons_of_mem _ (List.mem_cons_of_mem _ (List.mem_cons_of_mem _ (List.mem_cons_of_mem _ (List.mem_cons_of_mem _ (List.mem_cons_of_mem _ (List.mem_cons_of_mem _ (List.mem_cons_self))))))))))
  have hc : (100925506 : Int) = amcode (ρ.2.2.2.1 64353) 65 (ρ.1 60000).toInt.toNat := of_decide_eq_true (hF.2 _ (List.mem_cons_of_mem _ (List.mem_cons_of_mem _ (List.mem_cons_of_mem _ (List.mem_cons_of_mem _ (List.mem_cons_of_mem _ (List.mem_cons_of_mem _ (List.mem_cons_of_mem _ (List.mem_cons_self)))))))))
  rw [en, mv_l v0 (by omega)] at hc
  have hm : 65 ∈ amps := by decide
  have hn : ¬ amcode (ρ.2.2.2.1 64353) 65 (ρ.2.2.2.1 64353 65).toInt.toNat = 0 := by rw [← hc]; decide
  have eA : ρ3.2.2.2.1 64321 = ρ.2.2.2.1 64321 := funext hA
  have x7 : sc X ρ3 (157, .add (.elem (.arg 64321) (.int 0)) (.add (.elem (.arg 64353) (.int 0)) (.arg 1308)), .int 8) = true := k157.mpr (by rw [eA, eD]; exact amn_m d0 d4 hm h7 h5 hn (fun j _ hj => hBn j hj) hBf)
  have x8 : sc X ρ3 (158, .elem (.arg 64353) (.int 0), .int 7) = true := k158.mpr (ampm_t (K := 6) (m := 65) rfl (fun x hx => by
    have hx2 : x ∈ amps := of_decide_eq_true (List.all_eq_true.mp ampm_i x (List.mem_of_mem_take hx))
    by_cases e : x = 65
    · rw [e]; exact amf_0 d0 d4 hm hBf
    · rw [amo_c hm hx2 e h5 (fun j _ hj => hBn j hj)]; exact h8 x hx) (amf_0 d0 d4 hm hBf))
  have x5 : sc X ρ3 (155, .elem (.arg 64353) (.int 0), .int 0) = true := k155.mpr (fun j hj => by
    by_cases hi : 65 ≤ j ∧ j < 65 + 5
    · rw [hBf j hi.1 hi.2]; exact evf_k d0 d4 hj
    · rw [hBn j hi]; exact h5 j hj)
  have lg60129 : ρ3.2.1 60129 = ρ.2.1 60129 := (m4.1 60129 (by decide) (by decide)).2.trans (k4.1 60129 (by decide) (by decide)).2.symm
  have lg60065 : ρ3.2.1 60065 = ρ.2.1 60065 := (m4.1 60065 (by decide) (by decide)).2.trans (k4.1 60065 (by decide) (by decide)).2.symm
  have lg60097 : ρ3.2.1 60097 = ρ.2.1 60097 := (m4.1 60097 (by decide) (by decide)).2.trans (k4.1 60097 (by decide) (by decide)).2.symm
  have z1 : sc X ρ3 (6, .elem (.arg 64321) (.int 1), .arg 60129) = true := decide_eq_true (show ρ3.2.2.2.1 64321 1 = ρ3.2.1 60129 by
    rw [hA, lg60129]
    exact of_decide_eq_true (hF.2 _ (List.mem_cons_of_mem _ (List.mem_cons_of_mem _ (List.mem_cons_of_mem _ (List.mem_cons_of_mem _ (List.mem_cons_of_mem _ (List.mem_cons_of_mem _ (List.mem_cons_of_mem _ (List.mem_cons_of_mem _ (List.mem_cons_of_mem _ (List.mem_cons_of_mem _ (List.mem_cons_of_mem _ (List.mem_cons_of_mem _ (List.mem_cons_self)))))))))))))))
  have z2 : sc X ρ3 (6, .elem (.arg 64353) (.int 114), .arg 60065) = true := decide_eq_true (show ρ3.2.2.2.1 64353 114 = ρ3.2.1 60065 by
    rw [hBn 114 (by decide), lg60065]
    exact of_decide_eq_true (hF.2 _ (List.mem_cons_of_mem _ (List.mem_cons_of_mem _ (List.mem_cons_of_mem _ (List.mem_cons_of_mem _ (List.mem_cons_of_mem _ (List.mem_cons_of_mem _ (List.mem_cons_of_mem _ (List.mem_cons_of_mem _ (List.mem_cons_of_mem _ (List.mem_cons_of_mem _ (List.mem_cons_of_mem _ (List.mem_cons_of_mem _ (List.mem_cons_of_mem _ (List.mem_cons_self))))))))))))))))
  have z3 : sc X ρ3 (6, .elem (.arg 64353) (.int 123), .arg 60097) = true := decide_eq_true (show ρ3.2.2.2.1 64353 123 = ρ3.2.1 60097 by
    rw [hBn 123 (by decide), lg60097]
    exact of_decide_eq_true (hF.2 _ (List.mem_cons_of_mem _ (List.mem_cons_of_mem _ (List.mem_cons_of_mem _ (List.mem_cons_of_mem _ (List.mem_cons_of_mem _ (List.mem_cons_of_mem _ (List.mem_cons_of_mem _ (List.mem_cons_of_mem _ (List.mem_cons_of_mem _ (List.mem_cons_of_mem _ (List.mem_cons_of_mem _ (List.mem_cons_of_mem _ (List.mem_cons_of_mem _ (List.mem_cons_of_mem _ (List.mem_cons_self)))))))))))))))))
  exact t_omm7 hv ρ3 m1 ⟨m2.1, fcn (x7) (fcn (x8) (fcn (x5) (fcn (z1) (fcn (z2) (fcn (z3) (m2.2))))))⟩ m3 m4)))
theorem t_oma6 {X : pX} {ρ0 : sR} (hv : vok X ρ0) : CUTOK X kR zWB c_bn0 13 ρ0 q_oma6 := fun ρ k1 hF hI k4 => by
  have h5 := k155.mp (hF.2 _ (List.mem_cons_of_mem _ (List.mem_cons_of_mem _ (List.mem_cons_of_mem _ (List.mem_cons_self)))))
  obtain ⟨v0, v4⟩ := ev_m4 (m := 65) (by decide) (h5 65 (by decide))
  have f0 := s9_n (X := X) (ρ := ρ) (ix := 5635) (s := 0) (p := 65) (by decide +kernel)
  have f1 := s9_n (X := X) (ρ := ρ) (ix := 5635) (s := 1) (p := 66) (by decide +kernel)
  have f2 := s9_n (X := X) (ρ := ρ) (ix := 5635) (s := 2) (p := 67) (by decide +kernel)
  have f3 := s9_n (X := X) (ρ := ρ) (ix := 5635) (s := 3) (p := 68) (by decide +kernel)
  have f4 := s9_n (X := X) (ρ := ρ) (ix := 5635) (s := 4) (p := 69) (by decide +kernel)
  have en : ρ.1 60000 = (ρ.2.2.2.1 64353 65).toInt32 := of_decide_eq_true (hF.2 _ (List.mem_cons_self))
  have ev : (ρ.1 60000).toInt = (ρ.2.2.2.1 64353 65).toInt := by rw [en]; exact mv_l v0 (by omega)
  rcases am_3 (g := ρ.2.2.2.1 64353) (m := 65) (n := (ρ.1 60000).toInt.toNat) with h | h | h
  · exact t_oma6o hv ρ k1 ⟨hF.1, fcn (f0) (fcn (f1) (fcn (f2) (fcn (f3) (fcn (f4) (fcn (di_lf (x := ρ.1 60000) (y := 0) (by rw [ev]; show (0 : Int) ≤ _; exact v0)) (fcn (di_lf (x := 4) (y := ρ.1 60000) (by rw [ev]; show _ ≤ (4 : Int); exact v4)) (fcn (decide_eq_true (show (0 : Int) = amcode (ρ.2.2.2.1 64353) 65 (ρ.1 60000).toInt.toNat from h.symm)) (hF.2))))))))⟩ hI k4
  · exact t_oma6n hv ρ k1 ⟨hF.1, fcn (f0) (fcn (f1) (fcn (f2) (fcn (f3) (fcn (f4) (fcn (di_lf (x := ρ.1 60000) (y := 0) (by rw [ev]; show (0 : Int) ≤ _; exact v0)) (fcn (di_lf (x := 4) (y := ρ.1 60000) (by rw [ev]; show _ ≤ (4 : Int); exact v4)) (fcn (decide_eq_true (show (100925505 : Int) = amcode (ρ.2.2.2.1 64353) 65 (ρ.1 60000).toInt.toNat from h.symm)) (hF.2))))))))⟩ hI k4
  · exact t_oma6l hv ρ k1 ⟨hF.1, fcn (f0) (fcn (f1) (fcn (f2) (fcn (f3) (fcn (f4) (fcn (di_lf (x := ρ.1 60000) (y := 0) (by rw [ev]; show (0 : Int) ≤ _; exact v0)) (fcn (di_lf (x := 4) (y := ρ.1 60000) (by rw [ev]; show _ ≤ (4 : Int); exact v4)) (fcn (decide_eq_true (show (100925506 : Int) = amcode (ρ.2.2.2.1 64353) 65 (ρ.1 60000).toInt.toNat from h.symm)) (hF.2))))))))⟩ hI k4
noncomputable def q_omm6 : sCut := ((fr 0 95 34 [(0, tr 75), (1, .int 90), (2, .int 3)] [], [fr 0 93 73 [(0, tr 75)] [], fr 0 60 30 [(0, tr 39), (1, .int 0)] [], fBot], 11), (fr 0 297 81 [(0, tr 219), (1, .arg 1308), (5, .int 2)] [], [fr 0 300 36 [(0, tr 219), (1, .arg 1308)] [], fBot], 12), [zf98zzzp_15, zf98zzzp_28, zf98zzzp_17, zf98zzzp_2, zf98zzzp_3, zf98zzzp_4, zf98zzzp_5, ((0, .arg 1702, .int 0), true), ((0, .arg 3360, .int 0), true), ((0, .arg 1350, .int 0), true), ((0, .arg 1826, .int 0), true), zf98zzzp_6, zf98zzzp_14], i_bz)
noncomputable def q_omm6g : sCut := ((fr 0 95 34 [(0, tr 75), (1, .int 90), (2, .int 3)] [], [fr 0 93 73 [(0, tr 75)] [], fr 0 60 30 [(0, tr 39), (1, .int 0)] [], fBot], 11), (fr 0 297 81 [(0, tr 219), (1, .arg 1308), (5, .int 2)] [], [fr 0 300 36 [(0, tr 219), (1, .arg 1308)] [], fBot], 12), [zf98zzzp_29, zf98zzzp_15, zf98zzzp_28, zf98zzzp_17, zf98zzzp_2, zf98zzzp_3, zf98zzzp_4, zf98zzzp_5, ((0, .arg 1702, .int 0), true), ((0, .arg 3360, .int 0), true), ((0, .arg 1350, .int 0), true), ((0, .arg 1826, .int 0), true), zf98zzzp_6, zf98zzzp_14], i_bz)
theorem k_omm6g : cbody kR [(zWP, c_fndl)] (cpl1 zWB c_bn0 [q_oma6]) (cpl2 zWB c_bn0 [q_oma6]) (cleaf kR zWB c_bn0 [q_oma6]) 200 false true q_omm6g.2.2.1 q_omm6g.2.2.2 (cst zWB c_bn0.2.2.1.1 q_omm6g.1) (cst zWB c_bn0.2.2.1.2 q_omm6g.2.1) = true := by decide +kernel
theorem t_omm6g {X : pX} {ρ0 : sR} (hv : vok X ρ0) : CUTOK X kR zWB c_bn0 13 ρ0 q_omm6g := CUT_run kR_x kR_0 (Cs := [(zWP, c_fndl)]) (fun C hC => by rw [List.mem_singleton.mp hC]; exact s_fndl) c_bn0_f (Q := [q_oma6]) hv (fun q hq => by
    simp only [List.mem_cons, List.not_mem_nil, or_false] at hq
    rw [hq]; exact t_oma6 hv) 200 (b1 := false) (b2 := true) k_omm6g
theorem t_omm6 {X : pX} {ρ0 : sR} (hv : vok X ρ0) : CUTOK X kR zWB c_bn0 13 ρ0 q_omm6 := fun ρ k1 hF hI k4 => by
  exact t_omm6g hv ρ k1 ⟨hF.1, fcn (s9_n (X := X) (ρ := ρ) (ix := 5635) (s := 0) (p := 65) (by decide +kernel)) (hF.2)⟩ hI k4
noncomputable def zf98zzzp_34 : sQ × Bool := ((0, .arg 60000, .op1 .l2i (.elem (.arg 64353) (.int 100))), true)
noncomputable def zf98zzzp_35 : sQ × Bool := ((158, .elem (.arg 64353) (.int 0), .int 5), true)
noncomputable def q_oma5 : sCut := ((fr 0 95 34 [(0, tr 75), (1, .int 90), (2, .int 3)] [], [fr 0 93 73 [(0, tr 75)] [], fr 0 60 30 [(0, tr 39), (1, .int 0)] [], fBot], 11), (fr 0 298 9 [(0, tr 219), (1, .arg 1308), (2, .int 6658)] [.arg 60000, .int 6658, .arg 1308, tr 219], [fr 0 297 81 [(0, tr 219), (1, .arg 1308), (5, .int 2)] [], fr 0 300 36 [(0, tr 219), (1, .arg 1308)] [], fBot], 11), [zf98zzzp_34, zf98zzzp_15, zf98zzzp_35, zf98zzzp_17, zf98zzzp_2, zf98zzzp_3, zf98zzzp_4, zf98zzzp_5, ((0, .arg 1702, .int 0), true), ((0, .arg 3360, .int 0), true), ((0, .arg 1350, .int 0), true), ((0, .arg 1826, .int 0), true), zf98zzzp_6, zf98zzzp_14], i_bz)
noncomputable def zf98zzzp_36 : sQ × Bool := ((109, .add (.int 6658) (.int 0), .int 100), true)
noncomputable def zf98zzzp_37 : sQ × Bool := ((109, .add (.int 6658) (.int 1), .int 101), true)
noncomputable def zf98zzzp_38 : sQ × Bool := ((109, .add (.int 6658) (.int 2), .int 102), true)
noncomputable def zf98zzzp_39 : sQ × Bool := ((109, .add (.int 6658) (.int 3), .int 103), true)
noncomputable def zf98zzzp_40 : sQ × Bool := ((109, .add (.int 6658) (.int 4), .int 104), true)
noncomputable def q_oma5o : sCut := ((fr 0 95 34 [(0, tr 75), (1, .int 90), (2, .int 3)] [], [fr 0 93 73 [(0, tr 75)] [], fr 0 60 30 [(0, tr 39), (1, .int 0)] [], fBot], 11), (fr 0 298 9 [(0, tr 219), (1, .arg 1308), (2, .int 6658)] [.arg 60000, .int 6658, .arg 1308, tr 219], [fr 0 297 81 [(0, tr 219), (1, .arg 1308), (5, .int 2)] [], fr 0 300 36 [(0, tr 219), (1, .arg 1308)] [], fBot], 11), [zf98zzzp_36, zf98zzzp_37, zf98zzzp_38, zf98zzzp_39, zf98zzzp_40, zf98zzzp_25, zf98zzzp_26, ((139, .add (.elem (.arg 64353) (.int 0)) (.add (.int 100) (.arg 60000)), .int 0), true), zf98zzzp_34, zf98zzzp_15, zf98zzzp_35, zf98zzzp_17, zf98zzzp_2, zf98zzzp_3, zf98zzzp_4, zf98zzzp_5, ((0, .arg 1702, .int 0), true), ((0, .arg 3360, .int 0), true), ((0, .arg 1350, .int 0), true), ((0, .arg 1826, .int 0), true), zf98zzzp_6, zf98zzzp_14], i_bz)
noncomputable def w_oma5o : List (sCut × List (Nat × sT) × List (Nat × sT × List (sT × sT))) := [(q_omm6T, [], [(64321, .arg 64321, []), (64353, .arg 64353, [])])]
theorem k_oma5o : cbody kR [(zWP, c_fndl), (zWB, c_mmo)] (cpl1 zWB c_bn0 [q_omm6T]) (cpl2 zWB c_bn0 [q_omm6T]) (cleafB kR zWB c_bn0 w_oma5o) 700 false false q_oma5o.2.2.1 q_oma5o.2.2.2 (cst zWB c_bn0.2.2.1.1 q_oma5o.1) (cst zWB c_bn0.2.2.1.2 q_oma5o.2.1) = true := by decide +kernel
theorem t_oma5o {X : pX} {ρ0 : sR} (hv : vok X ρ0) : CUTOK X kR zWB c_bn0 13 ρ0 q_oma5o := CUTOK_AT (fun ρ k1 hF hI k4 => AT_of (q := q_oma5o) rfl rfl (SEM_runB kR_x kR_0 (Cs := [(zWP, c_fndl), (zWB, c_mmo)]) (fun C hC => by
    simp only [List.mem_cons, List.not_mem_nil, or_false] at hC
    rcases hC with hC | hC
    · rw [hC]; exact s_fndl
    · rw [hC]; exact s_mmo) c_bn0_f (Q := w_oma5o) hv 700 (b1 := false) (b2 := false) k_oma5o k1 hF hI k4 (fun p hp ρ3 m1 m2 m3 m4 m5 m6 => by
  rw [List.mem_singleton.mp hp] at m2 m3 m5 m6 ⊢
  have eD : ρ3.1 1308 = ρ.1 1308 := (m4.1 1308 (by decide) (by decide)).1.trans (k4.1 1308 (by decide) (by decide)).1.symm
  obtain ⟨d0, d4⟩ := d_r hF.1
  have hA : ∀ j, ρ3.2.2.2.1 64321 j = ρ.2.2.2.1 64321 j := fun j => by
    have hw := m6 (64321, .arg 64321, []) (List.mem_cons_self) j
    have hw : Value.long (ρ3.2.2.2.1 64321 j) = Value.long (ρ.2.2.2.1 64321 j) := hw
    exact Value.long.inj hw
  have hB : ∀ j, ρ3.2.2.2.1 64353 j = ρ.2.2.2.1 64353 j := fun j => by
    have hw := m6 (64353, .arg 64353, []) (List.mem_cons_of_mem _ (List.mem_cons_self)) j
    have hw : Value.long (ρ3.2.2.2.1 64353 j) = Value.long (ρ.2.2.2.1 64353 j) := hw
    exact Value.long.inj hw
  have h7 := k157.mp (hF.2 _ (List.mem_cons_of_mem _ (List.mem_cons_of_mem _ (List.mem_cons_of_mem _ (List.mem_cons_of_mem _ (List.mem_cons_of_mem _ (List.mem_cons_of_mem _ (List.mem_cons_of_mem _ (List.mem_cons_of_mem _ (List.mem_cons_of_mem _ (List.mem_cons_self)))))))))))
  have h8 := k158.mp (hF.2 _ (List.mem_cons_of_mem _ (List.mem_cons_of_mem _ (List.mem_cons_of_mem _ (List.mem_cons_of_mem _ (List.mem_cons_of_mem _ (List.mem_cons_of_mem _ (List.mem_cons_of_mem _ (List.mem_cons_of_mem _ (List.mem_cons_of_mem _ (List.mem_cons_of_mem _ (List.mem_cons_self))))))))))))
  have h5 := k155.mp (hF.2 _ (List.mem_cons_of_mem _ (List.mem_cons_of_mem _ (List.mem_cons_of_mem _ (List.mem_cons_of_mem _ (List.mem_cons_of_mem _ (List.mem_cons_of_mem _ (List.mem_cons_of_mem _ (List.mem_cons_of_mem _ (List.mem_cons_of_mem _ (List.mem_cons_of_mem _ (List.mem_cons_of_mem _ (List.mem_cons_self)))))))))))))
  obtain ⟨v0, v4⟩ := ev_m4 (m := 100) (by decide) (h5 100 (by decide))
  have en : ρ.1 60000 = (ρ.2.2.2.1 64353 100).toInt32 := of_decide_eq_true (hF.2 _ (List.mem_cons_of_mem _ (List.mem_cons_of_mem _ (List.mem_cons_of_mem _ (List.mem_cons_of_mem _ (List.mem_cons_of_mem _ (List.mem_cons_of_mem _ (List.mem_cons_of_mem _ (List.mem_cons_of_mem _ (List.mem_cons_self))))))))))
  have hc : (0 : Int) = amcode (ρ.2.2.2.1 64353) 100 (ρ.1 60000).toInt.toNat := of_decide_eq_true (hF.2 _ (List.mem_cons_of_mem _ (List.mem_cons_of_mem _ (List.mem_cons_of_mem _ (List.mem_cons_of_mem _ (List.mem_cons_of_mem _ (List.mem_cons_of_mem _ (List.mem_cons_of_mem _ (List.mem_cons_self)))))))))
  rw [en, mv_l v0 (by omega)] at hc
  have eA : ρ3.2.2.2.1 64321 = ρ.2.2.2.1 64321 := funext hA
  have eB : ρ3.2.2.2.1 64353 = ρ.2.2.2.1 64353 := funext hB
  have x7 : sc X ρ3 (157, .add (.elem (.arg 64321) (.int 0)) (.add (.elem (.arg 64353) (.int 0)) (.arg 1308)), .int 8) = true := k157.mpr (by rw [eA, eB, eD]; exact h7)
  have x8 : sc X ρ3 (158, .elem (.arg 64353) (.int 0), .int 6) = true := k158.mpr (by rw [eB]; exact ampm_t (K := 5) (m := 100) rfl h8 hc.symm)
  have x5 : sc X ρ3 (155, .elem (.arg 64353) (.int 0), .int 0) = true := k155.mpr (by rw [eB]; exact h5)
  have lg60129 : ρ3.2.1 60129 = ρ.2.1 60129 := (m4.1 60129 (by decide) (by decide)).2.trans (k4.1 60129 (by decide) (by decide)).2.symm
  have lg60065 : ρ3.2.1 60065 = ρ.2.1 60065 := (m4.1 60065 (by decide) (by decide)).2.trans (k4.1 60065 (by decide) (by decide)).2.symm
  have lg60097 : ρ3.2.1 60097 = ρ.2.1 60097 := (m4.1 60097 (by decide) (by decide)).2.trans (k4.1 60097 (by decide) (by decide)).2.symm
  have z1 : sc X ρ3 (6, .elem (.arg 64321) (.int 1), .arg 60129) = true := decide_eq_true (show ρ3.2.2.2.1 64321 1 = ρ3.2.1 60129 by
    rw [hA, lg60129]
    exact of_decide_eq_true (hF.2 _ (List.mem_cons_of_mem _ (List.mem_cons_of_mem _ (List.mem_cons_of_mem _ (List.mem_cons_of_mem _ (List.mem_cons_of_mem _ (List.mem_cons_of_mem _ (List.mem_cons_of_mem _ (List.mem_cons_of_mem _ (List.mem_cons_of_mem _ (List.mem_cons_of_mem _ (List.mem_cons_of_mem _ (List.mem_cons_of_mem _ (List.mem_cons_self)))))))))))))))
  have z2 : sc X ρ3 (6, .elem (.arg 64353) (.int 114), .arg 60065) = true := decide_eq_true (show ρ3.2.2.2.1 64353 114 = ρ3.2.1 60065 by
    rw [hB, lg60065]
    exact of_decide_eq_true (hF.2 _ (List.mem_cons_of_mem _ (List.mem_cons_of_mem _ (List.mem_cons_of_mem _ (List.mem_cons_of_mem _ (List.mem_cons_of_mem _ (List.mem_cons_of_mem _ (List.mem_cons_of_mem _ (List.mem_cons_of_mem _ (List.mem_cons_of_mem _ (List.mem_cons_of_mem _ (List.mem_cons_of_mem _ (List.mem_cons_of_mem _ (List.mem_cons_of_mem _ (List.mem_cons_self))))))))))))))))
  have z3 : sc X ρ3 (6, .elem (.arg 64353) (.int 123), .arg 60097) = true := decide_eq_true (show ρ3.2.2.2.1 64353 123 = ρ3.2.1 60097 by
    rw [hB, lg60097]
    exact of_decide_eq_true (hF.2 _ (List.mem_cons_of_mem _ (List.mem_cons_of_mem _ (List.mem_cons_of_mem _ (List.mem_cons_of_mem _ (List.mem_cons_of_mem _ (List.mem_cons_of_mem _ (List.mem_cons_of_mem _ (List.mem_cons_of_mem _ (List.mem_cons_of_mem _ (List.mem_cons_of_mem _ (List.mem_cons_of_mem _ (List.mem_cons_of_mem _ (List.mem_cons_of_mem _ (List.mem_cons_of_mem _ (List.mem_cons_self)))))))))))))))))
  exact t_omm6 hv ρ3 m1 ⟨m2.1, fcn (x7) (fcn (x8) (fcn (x5) (fcn (z1) (fcn (z2) (fcn (z3) (m2.2))))))⟩ m3 m4)))
noncomputable def q_oma5n : sCut := ((fr 0 95 34 [(0, tr 75), (1, .int 90), (2, .int 3)] [], [fr 0 93 73 [(0, tr 75)] [], fr 0 60 30 [(0, tr 39), (1, .int 0)] [], fBot], 11), (fr 0 298 9 [(0, tr 219), (1, .arg 1308), (2, .int 6658)] [.arg 60000, .int 6658, .arg 1308, tr 219], [fr 0 297 81 [(0, tr 219), (1, .arg 1308), (5, .int 2)] [], fr 0 300 36 [(0, tr 219), (1, .arg 1308)] [], fBot], 11), [zf98zzzp_36, zf98zzzp_37, zf98zzzp_38, zf98zzzp_39, zf98zzzp_40, zf98zzzp_25, zf98zzzp_26, ((139, .add (.elem (.arg 64353) (.int 0)) (.add (.int 100) (.arg 60000)), .int 100925505), true), zf98zzzp_34, zf98zzzp_15, zf98zzzp_35, zf98zzzp_17, zf98zzzp_2, zf98zzzp_3, zf98zzzp_4, zf98zzzp_5, ((0, .arg 1702, .int 0), true), ((0, .arg 3360, .int 0), true), ((0, .arg 1350, .int 0), true), ((0, .arg 1826, .int 0), true), zf98zzzp_6, zf98zzzp_14], i_bz)
noncomputable def w_oma5n : List (sCut × List (Nat × sT) × List (Nat × sT × List (sT × sT))) := [(q_omm6T, [], [(64321, .arg 64321, []), (64353, .arg 64353, [(.int 104, .long 0), (.int 103, .long 0), (.int 102, .long 0), (.int 101, .long 0), (.int 100, .long 0)])])]
theorem k_oma5n : cbody kR [(zWP, c_fndl), (zWB, c_mmn)] (cpl1 zWB c_bn0 [q_omm6T]) (cpl2 zWB c_bn0 [q_omm6T]) (cleafB kR zWB c_bn0 w_oma5n) 700 false false q_oma5n.2.2.1 q_oma5n.2.2.2 (cst zWB c_bn0.2.2.1.1 q_oma5n.1) (cst zWB c_bn0.2.2.1.2 q_oma5n.2.1) = true := by decide +kernel
theorem t_oma5n {X : pX} {ρ0 : sR} (hv : vok X ρ0) : CUTOK X kR zWB c_bn0 13 ρ0 q_oma5n := CUTOK_AT (fun ρ k1 hF hI k4 => AT_of (q := q_oma5n) rfl rfl (SEM_runB kR_x kR_0 (Cs := [(zWP, c_fndl), (zWB, c_mmn)]) (fun C hC => by
    simp only [List.mem_cons, List.not_mem_nil, or_false] at hC
    rcases hC with hC | hC
    · rw [hC]; exact s_fndl
    · rw [hC]; exact s_mmn) c_bn0_f (Q := w_oma5n) hv 700 (b1 := false) (b2 := false) k_oma5n k1 hF hI k4 (fun p hp ρ3 m1 m2 m3 m4 m5 m6 => by
  rw [List.mem_singleton.mp hp] at m2 m3 m5 m6 ⊢
  have eD : ρ3.1 1308 = ρ.1 1308 := (m4.1 1308 (by decide) (by decide)).1.trans (k4.1 1308 (by decide) (by decide)).1.symm
  obtain ⟨d0, d4⟩ := d_r hF.1
  have hA : ∀ j, ρ3.2.2.2.1 64321 j = ρ.2.2.2.1 64321 j := fun j => by
    have hw := m6 (64321, .arg 64321, []) (List.mem_cons_self) j
    have hw : Value.long (ρ3.2.2.2.1 64321 j) = Value.long (ρ.2.2.2.1 64321 j) := hw
    exact Value.long.inj hw
  obtain ⟨hBn, hBf⟩ := fiv_w (f := ρ.2.2.2.1 64353) (g := ρ3.2.2.2.1 64353) (m := 100) (d := (ρ.1 1308).toInt) (v0 := 0) (v1 := 0) (v2 := 0) (v3 := 0) (v4 := 0) (fun j => m6 (64353, .arg 64353, [(.int 104, .long 0), (.int 103, .long 0), (.int 102, .long 0), (.int 101, .long 0), (.int 100, .long 0)]) (List.mem_cons_of_mem _ (List.mem_cons_self)) j) (amw_100 d0 d4 (i := 0) (by decide)) (amw_100 d0 d4 (i := 1) (by decide)) (amw_100 d0 d4 (i := 2) (by decide)) (amw_100 d0 d4 (i := 3) (by decide)) (amw_100 d0 d4 (i := 4) (by decide))
  have h7 := k157.mp (hF.2 _ (List.mem_cons_of_mem _ (List.mem_cons_of_mem _ (List.mem_cons_of_mem _ (List.mem_cons_of_mem _ (List.mem_cons_of_mem _ (List.mem_cons_of_mem _ (List.mem_cons_of_mem _ (List.mem_cons_of_mem _ (List.mem_cons_of_mem _ (List.mem_cons_self)))))))))))
  have h8 := k158.mp (hF.2 _ (List.mem_cons_of_mem _ (List.mem_cons_of_mem _ (List.mem_cons_of_mem _ (List.mem_cons_of_mem _ (List.mem_cons_of_mem _ (List.mem_cons_of_mem _ (List.mem_cons_of_mem _ (List.mem_cons_of_mem _ (List.mem_cons_of_mem _ (List.mem_cons_of_mem _ (List.mem_cons_self))))))))))))
  have h5 := k155.mp (hF.2 _ (List.mem_cons_of_mem _ (List.mem_cons_of_mem _ (List.mem_cons_of_mem _ (List.mem_cons_of_mem _ (List.mem_cons_of_mem _ (List.mem_cons_of_mem _ (List.mem_cons_of_mem _ (List.mem_cons_of_mem _ (List.mem_cons_of_mem _ (List.mem_cons_of_mem _ (List.mem_cons_of_mem _ (List.mem_cons_self)))))))))))))
  obtain ⟨v0, v4⟩ := ev_m4 (m := 100) (by decide) (h5 100 (by decide))
  have en : ρ.1 60000 = (ρ.2.2.2.1 64353 100).toInt32 := of_decide_eq_true (hF.2 _ (List.mem_cons_of_mem _ (List.mem_cons_of_mem _ (List.mem_cons_of_mem _ (List.mem_cons_of_mem _ (List.mem_cons_of_mem _ (List.mem_cons_of_mem _ (List.mem_cons_of_mem _ (List.mem_cons_of_mem _ (List.mem_cons_self))))))))))
  have hc : (100925505 : Int) = amcode (ρ.2.2.2.1 64353) 100 (ρ.1 60000).toInt.toNat := of_decide_eq_true (hF.2 _ (List.mem_cons_of_mem _ (List.mem_cons_of_mem _ (List.mem_cons_of_mem _ (List.mem_cons_of_mem _ (List.mem_cons_of_mem _ (List.mem_cons_of_mem _ (List.mem_cons_of_mem _ (List.mem_cons_self)))))))))
  rw [en, mv_l v0 (by omega)] at hc
  have hm : 100 ∈ amps := by decide
  have hn : ¬ amcode (ρ.2.2.2.1 64353) 100 (ρ.2.2.2.1 64353 100).toInt.toNat = 0 := by rw [← hc]; decide
  have eA : ρ3.2.2.2.1 64321 = ρ.2.2.2.1 64321 := funext hA
  have x7 : sc X ρ3 (157, .add (.elem (.arg 64321) (.int 0)) (.add (.elem (.arg 64353) (.int 0)) (.arg 1308)), .int 8) = true := k157.mpr (by rw [eA, eD]; exact amn_m d0 d4 hm h7 h5 hn (fun j _ hj => hBn j hj) hBf)
  have x8 : sc X ρ3 (158, .elem (.arg 64353) (.int 0), .int 6) = true := k158.mpr (ampm_t (K := 5) (m := 100) rfl (fun x hx => by
    have hx2 : x ∈ amps := of_decide_eq_true (List.all_eq_true.mp ampm_i x (List.mem_of_mem_take hx))
    by_cases e : x = 100
    · rw [e]; exact amf_0 d0 d4 hm hBf
    · rw [amo_c hm hx2 e h5 (fun j _ hj => hBn j hj)]; exact h8 x hx) (amf_0 d0 d4 hm hBf))
  have x5 : sc X ρ3 (155, .elem (.arg 64353) (.int 0), .int 0) = true := k155.mpr (fun j hj => by
    by_cases hi : 100 ≤ j ∧ j < 100 + 5
    · rw [hBf j hi.1 hi.2]; exact evf_k d0 d4 hj
    · rw [hBn j hi]; exact h5 j hj)
  have lg60129 : ρ3.2.1 60129 = ρ.2.1 60129 := (m4.1 60129 (by decide) (by decide)).2.trans (k4.1 60129 (by decide) (by decide)).2.symm
  have lg60065 : ρ3.2.1 60065 = ρ.2.1 60065 := (m4.1 60065 (by decide) (by decide)).2.trans (k4.1 60065 (by decide) (by decide)).2.symm
  have lg60097 : ρ3.2.1 60097 = ρ.2.1 60097 := (m4.1 60097 (by decide) (by decide)).2.trans (k4.1 60097 (by decide) (by decide)).2.symm
  have z1 : sc X ρ3 (6, .elem (.arg 64321) (.int 1), .arg 60129) = true := decide_eq_true (show ρ3.2.2.2.1 64321 1 = ρ3.2.1 60129 by
    rw [hA, lg60129]
    exact of_decide_eq_true (hF.2 _ (List.mem_cons_of_mem _ (List.mem_cons_of_mem _ (List.mem_cons_of_mem _ (List.mem_cons_of_mem _ (List.mem_cons_of_mem _ (List.mem_cons_of_mem _ (List.mem_cons_of_mem _ (List.mem_cons_of_mem _ (List.mem_cons_of_mem _ (List.mem_cons_of_mem _ (List.mem_cons_of_mem _ (List.mem_cons_of_mem _ (List.mem_cons_self)))))))))))))))
  have z2 : sc X ρ3 (6, .elem (.arg 64353) (.int 114), .arg 60065) = true := decide_eq_true (show ρ3.2.2.2.1 64353 114 = ρ3.2.1 60065 by
    rw [hBn 114 (by decide), lg60065]
    exact of_decide_eq_true (hF.2 _ (List.mem_cons_of_mem _ (List.mem_cons_of_mem _ (List.mem_cons_of_mem _ (List.mem_cons_of_mem _ (List.mem_cons_of_mem _ (List.mem_cons_of_mem _ (List.mem_cons_of_mem _ (List.mem_cons_of_mem _ (List.mem_cons_of_mem _ (List.mem_cons_of_mem _ (List.mem_cons_of_mem _ (List.mem_cons_of_mem _ (List.mem_cons_of_mem _ (List.mem_cons_self))))))))))))))))
  have z3 : sc X ρ3 (6, .elem (.arg 64353) (.int 123), .arg 60097) = true := decide_eq_true (show ρ3.2.2.2.1 64353 123 = ρ3.2.1 60097 by
    rw [hBn 123 (by decide), lg60097]
    exact of_decide_eq_true (hF.2 _ (List.mem_cons_of_mem _ (List.mem_cons_of_mem _ (List.mem_cons_of_mem _ (List.mem_cons_of_mem _ (List.mem_cons_of_mem _ (List.mem_cons_of_mem _ (List.mem_cons_of_mem _ (List.mem_cons_of_mem _ (List.mem_cons_of_mem _ (List.mem_cons_of_mem _ (List.mem_cons_of_mem _ (List.mem_cons_of_mem _ (List.mem_cons_of_mem _ (List.mem_cons_of_mem _ (List.mem_cons_self)))))))))))))))))
  exact t_omm6 hv ρ3 m1 ⟨m2.1, fcn (x7) (fcn (x8) (fcn (x5) (fcn (z1) (fcn (z2) (fcn (z3) (m2.2))))))⟩ m3 m4)))
noncomputable def q_oma5l : sCut := ((fr 0 95 34 [(0, tr 75), (1, .int 90), (2, .int 3)] [], [fr 0 93 73 [(0, tr 75)] [], fr 0 60 30 [(0, tr 39), (1, .int 0)] [], fBot], 11), (fr 0 298 9 [(0, tr 219), (1, .arg 1308), (2, .int 6658)] [.arg 60000, .int 6658, .arg 1308, tr 219], [fr 0 297 81 [(0, tr 219), (1, .arg 1308), (5, .int 2)] [], fr 0 300 36 [(0, tr 219), (1, .arg 1308)] [], fBot], 11), [zf98zzzp_36, zf98zzzp_37, zf98zzzp_38, zf98zzzp_39, zf98zzzp_40, zf98zzzp_25, zf98zzzp_26, ((139, .add (.elem (.arg 64353) (.int 0)) (.add (.int 100) (.arg 60000)), .int 100925506), true), zf98zzzp_34, zf98zzzp_15, zf98zzzp_35, zf98zzzp_17, zf98zzzp_2, zf98zzzp_3, zf98zzzp_4, zf98zzzp_5, ((0, .arg 1702, .int 0), true), ((0, .arg 3360, .int 0), true), ((0, .arg 1350, .int 0), true), ((0, .arg 1826, .int 0), true), zf98zzzp_6, zf98zzzp_14], i_bz)
noncomputable def w_oma5l : List (sCut × List (Nat × sT) × List (Nat × sT × List (sT × sT))) := [(q_omm6T, [], [(64321, .arg 64321, []), (64353, .arg 64353, [(.int 104, .long 0), (.int 103, .long 0), (.int 102, .long 0), (.int 101, .long 0), (.int 100, .long 0)])])]
theorem k_oma5l : cbody kR [(zWP, c_fndl), (zWB, c_mml)] (cpl1 zWB c_bn0 [q_omm6T]) (cpl2 zWB c_bn0 [q_omm6T]) (cleafB kR zWB c_bn0 w_oma5l) 700 false false q_oma5l.2.2.1 q_oma5l.2.2.2 (cst zWB c_bn0.2.2.1.1 q_oma5l.1) (cst zWB c_bn0.2.2.1.2 q_oma5l.2.1) = true := by decide +kernel
theorem t_oma5l {X : pX} {ρ0 : sR} (hv : vok X ρ0) : CUTOK X kR zWB c_bn0 13 ρ0 q_oma5l := CUTOK_AT (fun ρ k1 hF hI k4 => AT_of (q := q_oma5l) rfl rfl (SEM_runB kR_x kR_0 (Cs := [(zWP, c_fndl), (zWB, c_mml)]) (fun C hC => by
    simp only [List.mem_cons, List.not_mem_nil, or_false] at hC
    rcases hC with hC | hC
    · rw [hC]; exact s_fndl
    · rw [hC]; exact s_mml) c_bn0_f (Q := w_oma5l) hv 700 (b1 := false) (b2 := false) k_oma5l k1 hF hI k4 (fun p hp ρ3 m1 m2 m3 m4 m5 m6 => by
  rw [List.mem_singleton.mp hp] at m2 m3 m5 m6 ⊢
  have eD : ρ3.1 1308 = ρ.1 1308 := (m4.1 1308 (by decide) (by decide)).1.trans (k4.1 1308 (by decide) (by decide)).1.symm
  obtain ⟨d0, d4⟩ := d_r hF.1
  have hA : ∀ j, ρ3.2.2.2.1 64321 j = ρ.2.2.2.1 64321 j := fun j => by
    have hw := m6 (64321, .arg 64321, []) (List.mem_cons_self) j
    have hw : Value.long (ρ3.2.2.2.1 64321 j) = Value.long (ρ.2.2.2.1 64321 j) := hw
    exact Value.long.inj hw
  obtain ⟨hBn, hBf⟩ := fiv_w (f := ρ.2.2.2.1 64353) (g := ρ3.2.2.2.1 64353) (m := 100) (d := (ρ.1 1308).toInt) (v0 := 0) (v1 := 0) (v2 := 0) (v3 := 0) (v4 := 0) (fun j => m6 (64353, .arg 64353, [(.int 104, .long 0), (.int 103, .long 0), (.int 102, .long 0), (.int 101, .long 0), (.int 100, .long 0)]) (List.mem_cons_of_mem _ (List.mem_cons_self)) j) (amw_100 d0 d4 (i := 0) (by decide)) (amw_100 d0 d4 (i := 1) (by decide)) (amw_100 d0 d4 (i := 2) (by decide)) (amw_100 d0 d4 (i := 3) (by decide)) (amw_100 d0 d4 (i := 4) (by decide))
  have h7 := k157.mp (hF.2 _ (List.mem_cons_of_mem _ (List.mem_cons_of_mem _ (List.mem_cons_of_mem _ (List.mem_cons_of_mem _ (List.mem_cons_of_mem _ (List.mem_cons_of_mem _ (List.mem_cons_of_mem _ (List.mem_cons_of_mem _ (List.mem_cons_of_mem _ (List.mem_cons_self)))))))))))
  have h8 := k158.mp (hF.2 _ (List.mem_cons_of_mem _ (List.mem_cons_of_mem _ (List.mem_cons_of_mem _ (List.mem_cons_of_mem _ (List.mem_cons_of_mem _ (List.mem_cons_of_mem _ (List.mem_cons_of_mem _ (List.mem_cons_of_mem _ (List.mem_cons_of_mem _ (List.mem_cons_of_mem _ (List.mem_cons_self))))))))))))
  have h5 := k155.mp (hF.2 _ (List.mem_cons_of_mem _ (List.mem_cons_of_mem _ (List.mem_cons_of_mem _ (List.mem_cons_of_mem _ (List.mem_cons_of_mem _ (List.mem_cons_of_mem _ (List.mem_cons_of_mem _ (List.mem_cons_of_mem _ (List.mem_cons_of_mem _ (List.mem_cons_of_mem _ (List.mem_cons_of_mem _ (List.mem_cons_self)))))))))))))
  obtain ⟨v0, v4⟩ := ev_m4 (m := 100) (by decide) (h5 100 (by decide))
  have en : ρ.1 60000 = (ρ.2.2.2.1 64353 100).toInt32 := of_decide_eq_true (hF.2 _ (List.mem_cons_of_mem _ (List.mem_cons_of_mem _ (List.mem_cons_of_mem _ (List.mem_cons_of_mem _ (List.mem_cons_of_mem _ (List.mem_cons_of_mem _ (List.mem_cons_of_mem _ (List.mem_cons_of_mem _ (List.mem_cons_self))))))))))
  have hc : (100925506 : Int) = amcode (ρ.2.2.2.1 64353) 100 (ρ.1 60000).toInt.toNat := of_decide_eq_true (hF.2 _ (List.mem_cons_of_mem _ (List.mem_cons_of_mem _ (List.mem_cons_of_mem _ (List.mem_cons_of_mem _ (List.mem_cons_of_mem _ (List.mem_cons_of_mem _ (List.mem_cons_of_mem _ (List.mem_cons_self)))))))))
  rw [en, mv_l v0 (by omega)] at hc
  have hm : 100 ∈ amps := by decide
  have hn : ¬ amcode (ρ.2.2.2.1 64353) 100 (ρ.2.2.2.1 64353 100).toInt.toNat = 0 := by rw [← hc]; decide
  have eA : ρ3.2.2.2.1 64321 = ρ.2.2.2.1 64321 := funext hA
  have x7 : sc X ρ3 (157, .add (.elem (.arg 64321) (.int 0)) (.add (.elem (.arg 64353) (.int 0)) (.arg 1308)), .int 8) = true := k157.mpr (by rw [eA, eD]; exact amn_m d0 d4 hm h7 h5 hn (fun j _ hj => hBn j hj) hBf)
  have x8 : sc X ρ3 (158, .elem (.arg 64353) (.int 0), .int 6) = true := k158.mpr (ampm_t (K := 5) (m := 100) rfl (fun x hx => by
    have hx2 : x ∈ amps := of_decide_eq_true (List.all_eq_true.mp ampm_i x (List.mem_of_mem_take hx))
    by_cases e : x = 100
    · rw [e]; exact amf_0 d0 d4 hm hBf
    · rw [amo_c hm hx2 e h5 (fun j _ hj => hBn j hj)]; exact h8 x hx) (amf_0 d0 d4 hm hBf))
  have x5 : sc X ρ3 (155, .elem (.arg 64353) (.int 0), .int 0) = true := k155.mpr (fun j hj => by
    by_cases hi : 100 ≤ j ∧ j < 100 + 5
    · rw [hBf j hi.1 hi.2]; exact evf_k d0 d4 hj
    · rw [hBn j hi]; exact h5 j hj)
  have lg60129 : ρ3.2.1 60129 = ρ.2.1 60129 := (m4.1 60129 (by decide) (by decide)).2.trans (k4.1 60129 (by decide) (by decide)).2.symm
  have lg60065 : ρ3.2.1 60065 = ρ.2.1 60065 := (m4.1 60065 (by decide) (by decide)).2.trans (k4.1 60065 (by decide) (by decide)).2.symm
  have lg60097 : ρ3.2.1 60097 = ρ.2.1 60097 := (m4.1 60097 (by decide) (by decide)).2.trans (k4.1 60097 (by decide) (by decide)).2.symm
  have z1 : sc X ρ3 (6, .elem (.arg 64321) (.int 1), .arg 60129) = true := decide_eq_true (show ρ3.2.2.2.1 64321 1 = ρ3.2.1 60129 by
    rw [hA, lg60129]
    exact of_decide_eq_true (hF.2 _ (List.mem_cons_of_mem _ (List.mem_cons_of_mem _ (List.mem_cons_of_mem _ (List.mem_cons_of_mem _ (List.mem_cons_of_mem _ (List.mem_cons_of_mem _ (List.mem_cons_of_mem _ (List.mem_cons_of_mem _ (List.mem_cons_of_mem _ (List.mem_cons_of_mem _ (List.mem_cons_of_mem _ (List.mem_cons_of_mem _ (List.mem_cons_self)))))))))))))))
  have z2 : sc X ρ3 (6, .elem (.arg 64353) (.int 114), .arg 60065) = true := decide_eq_true (show ρ3.2.2.2.1 64353 114 = ρ3.2.1 60065 by
    rw [hBn 114 (by decide), lg60065]
    exact of_decide_eq_true (hF.2 _ (List.mem_cons_of_mem _ (List.mem_cons_of_mem _ (List.mem_cons_of_mem _ (List.mem_cons_of_mem _ (List.mem_cons_of_mem _ (List.mem_cons_of_mem _ (List.mem_cons_of_mem _ (List.mem_cons_of_mem _ (List.mem_cons_of_mem _ (List.mem_cons_of_mem _ (List.mem_cons_of_mem _ (List.mem_cons_of_mem _ (List.mem_cons_of_mem _ (List.mem_cons_self))))))))))))))))
  have z3 : sc X ρ3 (6, .elem (.arg 64353) (.int 123), .arg 60097) = true := decide_eq_true (show ρ3.2.2.2.1 64353 123 = ρ3.2.1 60097 by
    rw [hBn 123 (by decide), lg60097]
    exact of_decide_eq_true (hF.2 _ (List.mem_cons_of_mem _ (List.mem_cons_of_mem _ (List.mem_cons_of_mem _ (List.mem_cons_of_mem _ (List.mem_cons_of_mem _ (List.mem_cons_of_mem _ (List.mem_cons_of_mem _ (List.mem_cons_of_mem _ (List.mem_cons_of_mem _ (List.mem_cons_of_mem _ (List.mem_cons_of_mem _ (List.mem_cons_of_mem _ (List.mem_cons_of_mem _ (List.mem_cons_of_mem _ (List.mem_cons_self)))))))))))))))))
  exact t_omm6 hv ρ3 m1 ⟨m2.1, fcn (x7) (fcn (x8) (fcn (x5) (fcn (z1) (fcn (z2) (fcn (z3) (m2.2))))))⟩ m3 m4)))
theorem t_oma5 {X : pX} {ρ0 : sR} (hv : vok X ρ0) : CUTOK X kR zWB c_bn0 13 ρ0 q_oma5 := fun ρ k1 hF hI k4 => by
  have h5 := k155.mp (hF.2 _ (List.mem_cons_of_mem _ (List.mem_cons_of_mem _ (List.mem_cons_of_mem _ (List.mem_cons_self)))))
  obtain ⟨v0, v4⟩ := ev_m4 (m := 100) (by decide) (h5 100 (by decide))
  have f0 := s9_n (X := X) (ρ := ρ) (ix := 6658) (s := 0) (p := 100) (by decide +kernel)
  have f1 := s9_n (X := X) (ρ := ρ) (ix := 6658) (s := 1) (p := 101) (by decide +kernel)
  have f2 := s9_n (X := X) (ρ := ρ) (ix := 6658) (s := 2) (p := 102) (by decide +kernel)
  have f3 := s9_n (X := X) (ρ := ρ) (ix := 6658) (s := 3) (p := 103) (by decide +kernel)
  have f4 := s9_n (X := X) (ρ := ρ) (ix := 6658) (s := 4) (p := 104) (by decide +kernel)
  have en : ρ.1 60000 = (ρ.2.2.2.1 64353 100).toInt32 := of_decide_eq_true (hF.2 _ (List.mem_cons_self))
  have ev : (ρ.1 60000).toInt = (ρ.2.2.2.1 64353 100).toInt := by rw [en]; exact mv_l v0 (by omega)
  rcases am_3 (g := ρ.2.2.2.1 64353) (m := 100) (n := (ρ.1 60000).toInt.toNat) with h | h | h
  · exact t_oma5o hv ρ k1 ⟨hF.1, fcn (f0) (fcn (f1) (fcn (f2) (fcn (f3) (fcn (f4) (fcn (di_lf (x := ρ.1 60000) (y := 0) (by rw [ev]; show (0 : Int) ≤ _; exact v0)) (fcn (di_lf (x := 4) (y := ρ.1 60000) (by rw [ev]; show _ ≤ (4 : Int); exact v4)) (fcn (decide_eq_true (show (0 : Int) = amcode (ρ.2.2.2.1 64353) 100 (ρ.1 60000).toInt.toNat from h.symm)) (hF.2))))))))⟩ hI k4
  · exact t_oma5n hv ρ k1 ⟨hF.1, fcn (f0) (fcn (f1) (fcn (f2) (fcn (f3) (fcn (f4) (fcn (di_lf (x := ρ.1 60000) (y := 0) (by rw [ev]; show (0 : Int) ≤ _; exact v0)) (fcn (di_lf (x := 4) (y := ρ.1 60000) (by rw [ev]; show _ ≤ (4 : Int); exact v4)) (fcn (decide_eq_true (show (100925505 : Int) = amcode (ρ.2.2.2.1 64353) 100 (ρ.1 60000).toInt.toNat from h.symm)) (hF.2))))))))⟩ hI k4
  · exact t_oma5l hv ρ k1 ⟨hF.1, fcn (f0) (fcn (f1) (fcn (f2) (fcn (f3) (fcn (f4) (fcn (di_lf (x := ρ.1 60000) (y := 0) (by rw [ev]; show (0 : Int) ≤ _; exact v0)) (fcn (di_lf (x := 4) (y := ρ.1 60000) (by rw [ev]; show _ ≤ (4 : Int); exact v4)) (fcn (decide_eq_true (show (100925506 : Int) = amcode (ρ.2.2.2.1 64353) 100 (ρ.1 60000).toInt.toNat from h.symm)) (hF.2))))))))⟩ hI k4
noncomputable def q_omm5 : sCut := ((fr 0 95 34 [(0, tr 75), (1, .int 90), (2, .int 3)] [], [fr 0 93 73 [(0, tr 75)] [], fr 0 60 30 [(0, tr 39), (1, .int 0)] [], fBot], 11), (fr 0 297 75 [(0, tr 219), (1, .arg 1308), (5, .int 2)] [], [fr 0 300 36 [(0, tr 219), (1, .arg 1308)] [], fBot], 12), [zf98zzzp_15, zf98zzzp_35, zf98zzzp_17, zf98zzzp_2, zf98zzzp_3, zf98zzzp_4, zf98zzzp_5, ((0, .arg 1702, .int 0), true), ((0, .arg 3360, .int 0), true), ((0, .arg 1350, .int 0), true), ((0, .arg 1826, .int 0), true), zf98zzzp_6, zf98zzzp_14], i_bz)
noncomputable def q_omm5g : sCut := ((fr 0 95 34 [(0, tr 75), (1, .int 90), (2, .int 3)] [], [fr 0 93 73 [(0, tr 75)] [], fr 0 60 30 [(0, tr 39), (1, .int 0)] [], fBot], 11), (fr 0 297 75 [(0, tr 219), (1, .arg 1308), (5, .int 2)] [], [fr 0 300 36 [(0, tr 219), (1, .arg 1308)] [], fBot], 12), [zf98zzzp_36, zf98zzzp_15, zf98zzzp_35, zf98zzzp_17, zf98zzzp_2, zf98zzzp_3, zf98zzzp_4, zf98zzzp_5, ((0, .arg 1702, .int 0), true), ((0, .arg 3360, .int 0), true), ((0, .arg 1350, .int 0), true), ((0, .arg 1826, .int 0), true), zf98zzzp_6, zf98zzzp_14], i_bz)
theorem k_omm5g : cbody kR [(zWP, c_fndl)] (cpl1 zWB c_bn0 [q_oma5]) (cpl2 zWB c_bn0 [q_oma5]) (cleaf kR zWB c_bn0 [q_oma5]) 200 false true q_omm5g.2.2.1 q_omm5g.2.2.2 (cst zWB c_bn0.2.2.1.1 q_omm5g.1) (cst zWB c_bn0.2.2.1.2 q_omm5g.2.1) = true := by decide +kernel
theorem t_omm5g {X : pX} {ρ0 : sR} (hv : vok X ρ0) : CUTOK X kR zWB c_bn0 13 ρ0 q_omm5g := CUT_run kR_x kR_0 (Cs := [(zWP, c_fndl)]) (fun C hC => by rw [List.mem_singleton.mp hC]; exact s_fndl) c_bn0_f (Q := [q_oma5]) hv (fun q hq => by
    simp only [List.mem_cons, List.not_mem_nil, or_false] at hq
    rw [hq]; exact t_oma5 hv) 200 (b1 := false) (b2 := true) k_omm5g
theorem t_omm5 {X : pX} {ρ0 : sR} (hv : vok X ρ0) : CUTOK X kR zWB c_bn0 13 ρ0 q_omm5 := fun ρ k1 hF hI k4 => by
  exact t_omm5g hv ρ k1 ⟨hF.1, fcn (s9_n (X := X) (ρ := ρ) (ix := 6658) (s := 0) (p := 100) (by decide +kernel)) (hF.2)⟩ hI k4
noncomputable def zf98zzzp_41 : sQ × Bool := ((0, .arg 60000, .op1 .l2i (.elem (.arg 64353) (.int 60))), true)
noncomputable def zf98zzzp_42 : sQ × Bool := ((158, .elem (.arg 64353) (.int 0), .int 4), true)
noncomputable def q_oma4 : sCut := ((fr 0 95 34 [(0, tr 75), (1, .int 90), (2, .int 3)] [], [fr 0 93 73 [(0, tr 75)] [], fr 0 60 30 [(0, tr 39), (1, .int 0)] [], fBot], 11), (fr 0 298 9 [(0, tr 219), (1, .arg 1308), (2, .int 5634)] [.arg 60000, .int 5634, .arg 1308, tr 219], [fr 0 297 75 [(0, tr 219), (1, .arg 1308), (5, .int 2)] [], fr 0 300 36 [(0, tr 219), (1, .arg 1308)] [], fBot], 11), [zf98zzzp_41, zf98zzzp_15, zf98zzzp_42, zf98zzzp_17, zf98zzzp_2, zf98zzzp_3, zf98zzzp_4, zf98zzzp_5, ((0, .arg 1702, .int 0), true), ((0, .arg 3360, .int 0), true), ((0, .arg 1350, .int 0), true), ((0, .arg 1826, .int 0), true), zf98zzzp_6, zf98zzzp_14], i_bz)
noncomputable def zf98zzzp_43 : sQ × Bool := ((109, .add (.int 5634) (.int 0), .int 60), true)
noncomputable def zf98zzzp_44 : sQ × Bool := ((109, .add (.int 5634) (.int 1), .int 61), true)
noncomputable def zf98zzzp_45 : sQ × Bool := ((109, .add (.int 5634) (.int 2), .int 62), true)
noncomputable def zf98zzzp_46 : sQ × Bool := ((109, .add (.int 5634) (.int 3), .int 63), true)
noncomputable def zf98zzzp_47 : sQ × Bool := ((109, .add (.int 5634) (.int 4), .int 64), true)
noncomputable def q_oma4o : sCut := ((fr 0 95 34 [(0, tr 75), (1, .int 90), (2, .int 3)] [], [fr 0 93 73 [(0, tr 75)] [], fr 0 60 30 [(0, tr 39), (1, .int 0)] [], fBot], 11), (fr 0 298 9 [(0, tr 219), (1, .arg 1308), (2, .int 5634)] [.arg 60000, .int 5634, .arg 1308, tr 219], [fr 0 297 75 [(0, tr 219), (1, .arg 1308), (5, .int 2)] [], fr 0 300 36 [(0, tr 219), (1, .arg 1308)] [], fBot], 11), [zf98zzzp_43, zf98zzzp_44, zf98zzzp_45, zf98zzzp_46, zf98zzzp_47, zf98zzzp_25, zf98zzzp_26, ((139, .add (.elem (.arg 64353) (.int 0)) (.add (.int 60) (.arg 60000)), .int 0), true), zf98zzzp_41, zf98zzzp_15, zf98zzzp_42, zf98zzzp_17, zf98zzzp_2, zf98zzzp_3, zf98zzzp_4, zf98zzzp_5, ((0, .arg 1702, .int 0), true), ((0, .arg 3360, .int 0), true), ((0, .arg 1350, .int 0), true), ((0, .arg 1826, .int 0), true), zf98zzzp_6, zf98zzzp_14], i_bz)
noncomputable def w_oma4o : List (sCut × List (Nat × sT) × List (Nat × sT × List (sT × sT))) := [(q_omm5T, [], [(64321, .arg 64321, []), (64353, .arg 64353, [])])]
theorem k_oma4o : cbody kR [(zWP, c_fndl), (zWB, c_mmo)] (cpl1 zWB c_bn0 [q_omm5T]) (cpl2 zWB c_bn0 [q_omm5T]) (cleafB kR zWB c_bn0 w_oma4o) 700 false false q_oma4o.2.2.1 q_oma4o.2.2.2 (cst zWB c_bn0.2.2.1.1 q_oma4o.1) (cst zWB c_bn0.2.2.1.2 q_oma4o.2.1) = true := by decide +kernel
theorem t_oma4o {X : pX} {ρ0 : sR} (hv : vok X ρ0) : CUTOK X kR zWB c_bn0 13 ρ0 q_oma4o := CUTOK_AT (fun ρ k1 hF hI k4 => AT_of (q := q_oma4o) rfl rfl (SEM_runB kR_x kR_0 (Cs := [(zWP, c_fndl), (zWB, c_mmo)]) (fun C hC => by
    simp only [List.mem_cons, List.not_mem_nil, or_false] at hC
    rcases hC with hC | hC
    · rw [hC]; exact s_fndl
    · rw [hC]; exact s_mmo) c_bn0_f (Q := w_oma4o) hv 700 (b1 := false) (b2 := false) k_oma4o k1 hF hI k4 (fun p hp ρ3 m1 m2 m3 m4 m5 m6 => by
  rw [List.mem_singleton.mp hp] at m2 m3 m5 m6 ⊢
  have eD : ρ3.1 1308 = ρ.1 1308 := (m4.1 1308 (by decide) (by decide)).1.trans (k4.1 1308 (by decide) (by decide)).1.symm
  obtain ⟨d0, d4⟩ := d_r hF.1
  have hA : ∀ j, ρ3.2.2.2.1 64321 j = ρ.2.2.2.1 64321 j := fun j => by
    have hw := m6 (64321, .arg 64321, []) (List.mem_cons_self) j
    have hw : Value.long (ρ3.2.2.2.1 64321 j) = Value.long (ρ.2.2.2.1 64321 j) := hw
    exact Value.long.inj hw
  have hB : ∀ j, ρ3.2.2.2.1 64353 j = ρ.2.2.2.1 64353 j := fun j => by
    have hw := m6 (64353, .arg 64353, []) (List.mem_cons_of_mem _ (List.mem_cons_self)) j
    have hw : Value.long (ρ3.2.2.2.1 64353 j) = Value.long (ρ.2.2.2.1 64353 j) := hw
    exact Value.long.inj hw
  have h7 := k157.mp (hF.2 _ (List.mem_cons_of_mem _ (List.mem_cons_of_mem _ (List.mem_cons_of_mem _ (List.mem_cons_of_mem _ (List.mem_cons_of_mem _ (List.mem_cons_of_mem _ (List.mem_cons_of_mem _ (List.mem_cons_of_mem _ (List.mem_cons_of_mem _ (List.mem_cons_self)))))))))))
  have h8 := k158.mp (hF.2 _ (List.mem_cons_of_mem _ (List.mem_cons_of_mem _ (List.mem_cons_of_mem _ (List.mem_cons_of_mem _ (List.mem_cons_of_mem _ (List.mem_cons_of_mem _ (List.mem_cons_of_mem _ (List.mem_cons_of_mem _ (List.mem_cons_of_mem _ (List.mem_cons_of_mem _ (List.mem_cons_self))))))))))))
  have h5 := k155.mp (hF.2 _ (List.mem_cons_of_mem _ (List.mem_cons_of_mem _ (List.mem_cons_of_mem _ (List.mem_cons_of_mem _ (List.mem_cons_of_mem _ (List.mem_cons_of_mem _ (List.mem_cons_of_mem _ (List.mem_cons_of_mem _ (List.mem_cons_of_mem _ (List.mem_cons_of_mem _ (List.mem_cons_of_mem _ (List.mem_cons_self)))))))))))))
  obtain ⟨v0, v4⟩ := ev_m4 (m := 60) (by decide) (h5 60 (by decide))
  have en : ρ.1 60000 = (ρ.2.2.2.1 64353 60).toInt32 := of_decide_eq_true (hF.2 _ (List.mem_cons_of_mem _ (List.mem_cons_of_mem _ (List.mem_cons_of_mem _ (List.mem_cons_of_mem _ (List.mem_cons_of_mem _ (List.mem_cons_of_mem _ (List.mem_cons_of_mem _ (List.mem_cons_of_mem _ (List.mem_cons_self))))))))))
  have hc : (0 : Int) = amcode (ρ.2.2.2.1 64353) 60 (ρ.1 60000).toInt.toNat := of_decide_eq_true (hF.2 _ (List.mem_cons_of_mem _ (List.mem_cons_of_mem _ (List.mem_cons_of_mem _ (List.mem_cons_of_mem _ (List.mem_cons_of_mem _ (List.mem_cons_of_mem _ (List.mem_cons_of_mem _ (List.mem_cons_self)))))))))
  rw [en, mv_l v0 (by omega)] at hc
  have eA : ρ3.2.2.2.1 64321 = ρ.2.2.2.1 64321 := funext hA
  have eB : ρ3.2.2.2.1 64353 = ρ.2.2.2.1 64353 := funext hB
  have x7 : sc X ρ3 (157, .add (.elem (.arg 64321) (.int 0)) (.add (.elem (.arg 64353) (.int 0)) (.arg 1308)), .int 8) = true := k157.mpr (by rw [eA, eB, eD]; exact h7)
  have x8 : sc X ρ3 (158, .elem (.arg 64353) (.int 0), .int 5) = true := k158.mpr (by rw [eB]; exact ampm_t (K := 4) (m := 60) rfl h8 hc.symm)
  have x5 : sc X ρ3 (155, .elem (.arg 64353) (.int 0), .int 0) = true := k155.mpr (by rw [eB]; exact h5)
  have lg60129 : ρ3.2.1 60129 = ρ.2.1 60129 := (m4.1 60129 (by decide) (by decide)).2.trans (k4.1 60129 (by decide) (by decide)).2.symm
  have lg60065 : ρ3.2.1 60065 = ρ.2.1 60065 := (m4.1 60065 (by decide) (by decide)).2.trans (k4.1 60065 (by decide) (by decide)).2.symm
  have lg60097 : ρ3.2.1 60097 = ρ.2.1 60097 := (m4.1 60097 (by decide) (by decide)).2.trans (k4.1 60097 (by decide) (by decide)).2.symm
  have z1 : sc X ρ3 (6, .elem (.arg 64321) (.int 1), .arg 60129) = true := decide_eq_true (show ρ3.2.2.2.1 64321 1 = ρ3.2.1 60129 by
    rw [hA, lg60129]
    exact of_decide_eq_true (hF.2 _ (List.mem_cons_of_mem _ (List.mem_cons_of_mem _ (List.mem_cons_of_mem _ (List.mem_cons_of_mem _ (List.mem_cons_of_mem _ (List.mem_cons_of_mem _ (List.mem_cons_of_mem _ (List.mem_cons_of_mem _ (List.mem_cons_of_mem _ (List.mem_cons_of_mem _ (List.mem_cons_of_mem _ (List.mem_cons_of_mem _ (List.mem_cons_self)))))))))))))))
  have z2 : sc X ρ3 (6, .elem (.arg 64353) (.int 114), .arg 60065) = true := decide_eq_true (show ρ3.2.2.2.1 64353 114 = ρ3.2.1 60065 by
    rw [hB, lg60065]
    exact of_decide_eq_true (hF.2 _ (List.mem_cons_of_mem _ (List.mem_cons_of_mem _ (List.mem_cons_of_mem _ (List.mem_cons_of_mem _ (List.mem_cons_of_mem _ (List.mem_cons_of_mem _ (List.mem_cons_of_mem _ (List.mem_cons_of_mem _ (List.mem_cons_of_mem _ (List.mem_cons_of_mem _ (List.mem_cons_of_mem _ (List.mem_cons_of_mem _ (List.mem_cons_of_mem _ (List.mem_cons_self))))))))))))))))
  have z3 : sc X ρ3 (6, .elem (.arg 64353) (.int 123), .arg 60097) = true := decide_eq_true (show ρ3.2.2.2.1 64353 123 = ρ3.2.1 60097 by
    rw [hB, lg60097]
    exact of_decide_eq_true (hF.2 _ (List.mem_cons_of_mem _ (List.mem_cons_of_mem _ (List.mem_cons_of_mem _ (List.mem_cons_of_mem _ (List.mem_cons_of_mem _ (List.mem_cons_of_mem _ (List.mem_cons_of_mem _ (List.mem_cons_of_mem _ (List.mem_cons_of_mem _ (List.mem_cons_of_mem _ (List.mem_cons_of_mem _ (List.mem_cons_of_mem _ (List.mem_cons_of_mem _ (List.mem_cons_of_mem _ (List.mem_cons_self)))))))))))))))))
  exact t_omm5 hv ρ3 m1 ⟨m2.1, fcn (x7) (fcn (x8) (fcn (x5) (fcn (z1) (fcn (z2) (fcn (z3) (m2.2))))))⟩ m3 m4)))
noncomputable def q_oma4n : sCut := ((fr 0 95 34 [(0, tr 75), (1, .int 90), (2, .int 3)] [], [fr 0 93 73 [(0, tr 75)] [], fr 0 60 30 [(0, tr 39), (1, .int 0)] [], fBot], 11), (fr 0 298 9 [(0, tr 219), (1, .arg 1308), (2, .int 5634)] [.arg 60000, .int 5634, .arg 1308, tr 219], [fr 0 297 75 [(0, tr 219), (1, .arg 1308), (5, .int 2)] [], fr 0 300 36 [(0, tr 219), (1, .arg 1308)] [], fBot], 11), [zf98zzzp_43, zf98zzzp_44, zf98zzzp_45, zf98zzzp_46, zf98zzzp_47, zf98zzzp_25, zf98zzzp_26, ((139, .add (.elem (.arg 64353) (.int 0)) (.add (.int 60) (.arg 60000)), .int 100925505), true), zf98zzzp_41, zf98zzzp_15, zf98zzzp_42, zf98zzzp_17, zf98zzzp_2, zf98zzzp_3, zf98zzzp_4, zf98zzzp_5, ((0, .arg 1702, .int 0), true), ((0, .arg 3360, .int 0), true), ((0, .arg 1350, .int 0), true), ((0, .arg 1826, .int 0), true), zf98zzzp_6, zf98zzzp_14], i_bz)
noncomputable def w_oma4n : List (sCut × List (Nat × sT) × List (Nat × sT × List (sT × sT))) := [(q_omm5T, [], [(64321, .arg 64321, []), (64353, .arg 64353, [(.int 64, .long 0), (.int 63, .long 0), (.int 62, .long 0), (.int 61, .long 0), (.int 60, .long 0)])])]
theorem k_oma4n : cbody kR [(zWP, c_fndl), (zWB, c_mmn)] (cpl1 zWB c_bn0 [q_omm5T]) (cpl2 zWB c_bn0 [q_omm5T]) (cleafB kR zWB c_bn0 w_oma4n) 700 false false q_oma4n.2.2.1 q_oma4n.2.2.2 (cst zWB c_bn0.2.2.1.1 q_oma4n.1) (cst zWB c_bn0.2.2.1.2 q_oma4n.2.1) = true := by decide +kernel
theorem t_oma4n {X : pX} {ρ0 : sR} (hv : vok X ρ0) : CUTOK X kR zWB c_bn0 13 ρ0 q_oma4n := CUTOK_AT (fun ρ k1 hF hI k4 => AT_of (q := q_oma4n) rfl rfl (SEM_runB kR_x kR_0 (Cs := [(zWP, c_fndl), (zWB, c_mmn)]) (fun C hC => by
    simp only [List.mem_cons, List.not_mem_nil, or_false] at hC
    rcases hC with hC | hC
    · rw [hC]; exact s_fndl
    · rw [hC]; exact s_mmn) c_bn0_f (Q := w_oma4n) hv 700 (b1 := false) (b2 := false) k_oma4n k1 hF hI k4 (fun p hp ρ3 m1 m2 m3 m4 m5 m6 => by
  rw [List.mem_singleton.mp hp] at m2 m3 m5 m6 ⊢
  have eD : ρ3.1 1308 = ρ.1 1308 := (m4.1 1308 (by decide) (by decide)).1.trans (k4.1 1308 (by decide) (by decide)).1.symm
  obtain ⟨d0, d4⟩ := d_r hF.1
  have hA : ∀ j, ρ3.2.2.2.1 64321 j = ρ.2.2.2.1 64321 j := fun j => by
    have hw := m6 (64321, .arg 64321, []) (List.mem_cons_self) j
    have hw : Value.long (ρ3.2.2.2.1 64321 j) = Value.long (ρ.2.2.2.1 64321 j) := hw
    exact Value.long.inj hw
  obtain ⟨hBn, hBf⟩ := fiv_w (f := ρ.2.2.2.1 64353) (g := ρ3.2.2.2.1 64353) (m := 60) (d := (ρ.1 1308).toInt) (v0 := 0) (v1 := 0) (v2 := 0) (v3 := 0) (v4 := 0) (fun j => m6 (64353, .arg 64353, [(.int 64, .long 0), (.int 63, .long 0), (.int 62, .long 0), (.int 61, .long 0), (.int 60, .long 0)]) (List.mem_cons_of_mem _ (List.mem_cons_self)) j) (amw_60 d0 d4 (i := 0) (by decide)) (amw_60 d0 d4 (i := 1) (by decide)) (amw_60 d0 d4 (i := 2) (by decide)) (amw_60 d0 d4 (i := 3) (by decide)) (amw_60 d0 d4 (i := 4) (by decide))
  have h7 := k157.mp (hF.2 _ (List.mem_cons_of_mem _ (List.mem_cons_of_mem _ (List.mem_cons_of_mem _ (List.mem_cons_of_mem _ (List.mem_cons_of_mem _ (List.mem_cons_of_mem _ (List.mem_cons_of_mem _ (List.mem_cons_of_mem _ (List.mem_cons_of_mem _ (List.mem_cons_self)))))))))))
  have h8 := k158.mp (hF.2 _ (List.mem_cons_of_mem _ (List.mem_cons_of_mem _ (List.mem_cons_of_mem _ (List.mem_cons_of_mem _ (List.mem_cons_of_mem _ (List.mem_cons_of_mem _ (List.mem_cons_of_mem _ (List.mem_cons_of_mem _ (List.mem_cons_of_mem _ (List.mem_cons_of_mem _ (List.mem_cons_self))))))))))))
  have h5 := k155.mp (hF.2 _ (List.mem_cons_of_mem _ (List.mem_cons_of_mem _ (List.mem_cons_of_mem _ (List.mem_cons_of_mem _ (List.mem_cons_of_mem _ (List.mem_cons_of_mem _ (List.mem_cons_of_mem _ (List.mem_cons_of_mem _ (List.mem_cons_of_mem _ (List.mem_cons_of_mem _ (List.mem_cons_of_mem _ (List.mem_cons_self)))))))))))))
  obtain ⟨v0, v4⟩ := ev_m4 (m := 60) (by decide) (h5 60 (by decide))
  have en : ρ.1 60000 = (ρ.2.2.2.1 64353 60).toInt32 := of_decide_eq_true (hF.2 _ (List.mem_cons_of_mem _ (List.mem_cons_of_mem _ (List.mem_cons_of_mem _ (List.mem_cons_of_mem _ (List.mem_cons_of_mem _ (List.mem_cons_of_mem _ (List.mem_cons_of_mem _ (List.mem_cons_of_mem _ (List.mem_cons_self))))))))))
  have hc : (100925505 : Int) = amcode (ρ.2.2.2.1 64353) 60 (ρ.1 60000).toInt.toNat := of_decide_eq_true (hF.2 _ (List.mem_cons_of_mem _ (List.mem_cons_of_mem _ (List.mem_cons_of_mem _ (List.mem_cons_of_mem _ (List.mem_cons_of_mem _ (List.mem_cons_of_mem _ (List.mem_cons_of_mem _ (List.mem_cons_self)))))))))
  rw [en, mv_l v0 (by omega)] at hc
  have hm : 60 ∈ amps := by decide
  have hn : ¬ amcode (ρ.2.2.2.1 64353) 60 (ρ.2.2.2.1 64353 60).toInt.toNat = 0 := by rw [← hc]; decide
  have eA : ρ3.2.2.2.1 64321 = ρ.2.2.2.1 64321 := funext hA
  have x7 : sc X ρ3 (157, .add (.elem (.arg 64321) (.int 0)) (.add (.elem (.arg 64353) (.int 0)) (.arg 1308)), .int 8) = true := k157.mpr (by rw [eA, eD]; exact amn_m d0 d4 hm h7 h5 hn (fun j _ hj => hBn j hj) hBf)
  have x8 : sc X ρ3 (158, .elem (.arg 64353) (.int 0), .int 5) = true := k158.mpr (ampm_t (K := 4) (m := 60) rfl (fun x hx => by
    have hx2 : x ∈ amps := of_decide_eq_true (List.all_eq_true.mp ampm_i x (List.mem_of_mem_take hx))
    by_cases e : x = 60
    · rw [e]; exact amf_0 d0 d4 hm hBf
    · rw [amo_c hm hx2 e h5 (fun j _ hj => hBn j hj)]; exact h8 x hx) (amf_0 d0 d4 hm hBf))
  have x5 : sc X ρ3 (155, .elem (.arg 64353) (.int 0), .int 0) = true := k155.mpr (fun j hj => by
    by_cases hi : 60 ≤ j ∧ j < 60 + 5
    · rw [hBf j hi.1 hi.2]; exact evf_k d0 d4 hj
    · rw [hBn j hi]; exact h5 j hj)
  have lg60129 : ρ3.2.1 60129 = ρ.2.1 60129 := (m4.1 60129 (by decide) (by decide)).2.trans (k4.1 60129 (by decide) (by decide)).2.symm
  have lg60065 : ρ3.2.1 60065 = ρ.2.1 60065 := (m4.1 60065 (by decide) (by decide)).2.trans (k4.1 60065 (by decide) (by decide)).2.symm
  have lg60097 : ρ3.2.1 60097 = ρ.2.1 60097 := (m4.1 60097 (by decide) (by decide)).2.trans (k4.1 60097 (by decide) (by decide)).2.symm
  have z1 : sc X ρ3 (6, .elem (.arg 64321) (.int 1), .arg 60129) = true := decide_eq_true (show ρ3.2.2.2.1 64321 1 = ρ3.2.1 60129 by
    rw [hA, lg60129]
    exact of_decide_eq_true (hF.2 _ (List.mem_cons_of_mem _ (List.mem_cons_of_mem _ (List.mem_cons_of_mem _ (List.mem_cons_of_mem _ (List.mem_cons_of_mem _ (List.mem_cons_of_mem _ (List.mem_cons_of_mem _ (List.mem_cons_of_mem _ (List.mem_cons_of_mem _ (List.mem_cons_of_mem _ (List.mem_cons_of_mem _ (List.mem_cons_of_mem _ (List.mem_cons_self)))))))))))))))
  have z2 : sc X ρ3 (6, .elem (.arg 64353) (.int 114), .arg 60065) = true := decide_eq_true (show ρ3.2.2.2.1 64353 114 = ρ3.2.1 60065 by
    rw [hBn 114 (by decide), lg60065]
    exact of_decide_eq_true (hF.2 _ (List.mem_cons_of_mem _ (List.mem_cons_of_mem _ (List.mem_cons_of_mem _ (List.mem_cons_of_mem _ (List.mem_cons_of_mem _ (List.mem_cons_of_mem _ (List.mem_cons_of_mem _ (List.mem_cons_of_mem _ (List.mem_cons_of_mem _ (List.mem_cons_of_mem _ (List.mem_cons_of_mem _ (List.mem_cons_of_mem _ (List.mem_cons_of_mem _ (List.mem_cons_self))))))))))))))))
  have z3 : sc X ρ3 (6, .elem (.arg 64353) (.int 123), .arg 60097) = true := decide_eq_true (show ρ3.2.2.2.1 64353 123 = ρ3.2.1 60097 by
    rw [hBn 123 (by decide), lg60097]
    exact of_decide_eq_true (hF.2 _ (List.mem_cons_of_mem _ (List.mem_cons_of_mem _ (List.mem_cons_of_mem _ (List.mem_cons_of_mem _ (List.mem_cons_of_mem _ (List.mem_cons_of_mem _ (List.mem_cons_of_mem _ (List.mem_cons_of_mem _ (List.mem_cons_of_mem _ (List.mem_cons_of_mem _ (List.mem_cons_of_mem _ (List.mem_cons_of_mem _ (List.mem_cons_of_mem _ (List.mem_cons_of_mem _ (List.mem_cons_self)))))))))))))))))
  exact t_omm5 hv ρ3 m1 ⟨m2.1, fcn (x7) (fcn (x8) (fcn (x5) (fcn (z1) (fcn (z2) (fcn (z3) (m2.2))))))⟩ m3 m4)))
noncomputable def q_oma4l : sCut := ((fr 0 95 34 [(0, tr 75), (1, .int 90), (2, .int 3)] [], [fr 0 93 73 [(0, tr 75)] [], fr 0 60 30 [(0, tr 39), (1, .int 0)] [], fBot], 11), (fr 0 298 9 [(0, tr 219), (1, .arg 1308), (2, .int 5634)] [.arg 60000, .int 5634, .arg 1308, tr 219], [fr 0 297 75 [(0, tr 219), (1, .arg 1308), (5, .int 2)] [], fr 0 300 36 [(0, tr 219), (1, .arg 1308)] [], fBot], 11), [zf98zzzp_43, zf98zzzp_44, zf98zzzp_45, zf98zzzp_46, zf98zzzp_47, zf98zzzp_25, zf98zzzp_26, ((139, .add (.elem (.arg 64353) (.int 0)) (.add (.int 60) (.arg 60000)), .int 100925506), true), zf98zzzp_41, zf98zzzp_15, zf98zzzp_42, zf98zzzp_17, zf98zzzp_2, zf98zzzp_3, zf98zzzp_4, zf98zzzp_5, ((0, .arg 1702, .int 0), true), ((0, .arg 3360, .int 0), true), ((0, .arg 1350, .int 0), true), ((0, .arg 1826, .int 0), true), zf98zzzp_6, zf98zzzp_14], i_bz)
noncomputable def w_oma4l : List (sCut × List (Nat × sT) × List (Nat × sT × List (sT × sT))) := [(q_omm5T, [], [(64321, .arg 64321, []), (64353, .arg 64353, [(.int 64, .long 0), (.int 63, .long 0), (.int 62, .long 0), (.int 61, .long 0), (.int 60, .long 0)])])]
theorem k_oma4l : cbody kR [(zWP, c_fndl), (zWB, c_mml)] (cpl1 zWB c_bn0 [q_omm5T]) (cpl2 zWB c_bn0 [q_omm5T]) (cleafB kR zWB c_bn0 w_oma4l) 700 false false q_oma4l.2.2.1 q_oma4l.2.2.2 (cst zWB c_bn0.2.2.1.1 q_oma4l.1) (cst zWB c_bn0.2.2.1.2 q_oma4l.2.1) = true := by decide +kernel
theorem t_oma4l {X : pX} {ρ0 : sR} (hv : vok X ρ0) : CUTOK X kR zWB c_bn0 13 ρ0 q_oma4l := CUTOK_AT (fun ρ k1 hF hI k4 => AT_of (q := q_oma4l) rfl rfl (SEM_runB kR_x kR_0 (Cs := [(zWP, c_fndl), (zWB, c_mml)]) (fun C hC => by
    simp only [List.mem_cons, List.not_mem_nil, or_false] at hC
    rcases hC with hC | hC
    · rw [hC]; exact s_fndl
    · rw [hC]; exact s_mml) c_bn0_f (Q := w_oma4l) hv 700 (b1 := false) (b2 := false) k_oma4l k1 hF hI k4 (fun p hp ρ3 m1 m2 m3 m4 m5 m6 => by
  rw [List.mem_singleton.mp hp] at m2 m3 m5 m6 ⊢
  have eD : ρ3.1 1308 = ρ.1 1308 := (m4.1 1308 (by decide) (by decide)).1.trans (k4.1 1308 (by decide) (by decide)).1.symm
  obtain ⟨d0, d4⟩ := d_r hF.1
  have hA : ∀ j, ρ3.2.2.2.1 64321 j = ρ.2.2.2.1 64321 j := fun j => by
    have hw := m6 (64321, .arg 64321, []) (List.mem_cons_self) j
    have hw : Value.long (ρ3.2.2.2.1 64321 j) = Value.long (ρ.2.2.2.1 64321 j) := hw
    exact Value.long.inj hw
  obtain ⟨hBn, hBf⟩ := fiv_w (f := ρ.2.2.2.1 64353) (g := ρ3.2.2.2.1 64353) (m := 60) (d := (ρ.1 1308).toInt) (v0 := 0) (v1 := 0) (v2 := 0) (v3 := 0) (v4 := 0) (fun j => m6 (64353, .arg 64353, [(.int 64, .long 0), (.int 63, .long 0), (.int 62, .long 0), (.int 61, .long 0), (.int 60, .long 0)]) (List.mem_cons_of_mem _ (List.mem_cons_self)) j) (amw_60 d0 d4 (i := 0) (by decide)) (amw_60 d0 d4 (i := 1) (by decide)) (amw_60 d0 d4 (i := 2) (by decide)) (amw_60 d0 d4 (i := 3) (by decide)) (amw_60 d0 d4 (i := 4) (by decide))
  have h7 := k157.mp (hF.2 _ (List.mem_cons_of_mem _ (List.mem_cons_of_mem _ (List.mem_cons_of_mem _ (List.mem_cons_of_mem _ (List.mem_cons_of_mem _ (List.mem_cons_of_mem _ (List.mem_cons_of_mem _ (List.mem_cons_of_mem _ (List.mem_cons_of_mem _ (List.mem_cons_self)))))))))))
  have h8 := k158.mp (hF.2 _ (List.mem_cons_of_mem _ (List.mem_cons_of_mem _ (List.mem_cons_of_mem _ (List.mem_cons_of_mem _ (List.mem_cons_of_mem _ (List.mem_cons_of_mem _ (List.mem_cons_of_mem _ (List.mem_cons_of_mem _ (List.mem_cons_of_mem _ (List.mem_cons_of_mem _ (List.mem_cons_self))))))))))))
  have h5 := k155.mp (hF.2 _ (List.mem_cons_of_mem _ (List.mem_cons_of_mem _ (List.mem_cons_of_mem _ (List.mem_cons_of_mem _ (List.mem_cons_of_mem _ (List.mem_cons_of_mem _ (List.mem_cons_of_mem _ (List.mem_cons_of_mem _ (List.mem_cons_of_mem _ (List.mem_cons_of_mem _ (List.mem_cons_of_mem _ (List.mem_cons_self)))))))))))))
  obtain ⟨v0, v4⟩ := ev_m4 (m := 60) (by decide) (h5 60 (by decide))
  have en : ρ.1 60000 = (ρ.2.2.2.1 64353 60).toInt32 := of_decide_eq_true (hF.2 _ (List.mem_cons_of_mem _ (List.mem_cons_of_mem _ (List.mem_cons_of_mem _ (List.mem_cons_of_mem _ (List.mem_cons_of_mem _ (List.mem_cons_of_mem _ (List.mem_cons_of_mem _ (List.mem_cons_of_mem _ (List.mem_cons_self))))))))))
  have hc : (100925506 : Int) = amcode (ρ.2.2.2.1 64353) 60 (ρ.1 60000).toInt.toNat := of_decide_eq_true (hF.2 _ (List.mem_cons_of_mem _ (List.mem_cons_of_mem _ (List.mem_cons_of_mem _ (List.mem_cons_of_mem _ (List.mem_cons_of_mem _ (List.mem_cons_of_mem _ (List.mem_cons_of_mem _ (List.mem_cons_self)))))))))
  rw [en, mv_l v0 (by omega)] at hc
  have hm : 60 ∈ amps := by decide
  have hn : ¬ amcode (ρ.2.2.2.1 64353) 60 (ρ.2.2.2.1 64353 60).toInt.toNat = 0 := by rw [← hc]; decide
  have eA : ρ3.2.2.2.1 64321 = ρ.2.2.2.1 64321 := funext hA
  have x7 : sc X ρ3 (157, .add (.elem (.arg 64321) (.int 0)) (.add (.elem (.arg 64353) (.int 0)) (.arg 1308)), .int 8) = true := k157.mpr (by rw [eA, eD]; exact amn_m d0 d4 hm h7 h5 hn (fun j _ hj => hBn j hj) hBf)
  have x8 : sc X ρ3 (158, .elem (.arg 64353) (.int 0), .int 5) = true := k158.mpr (ampm_t (K := 4) (m := 60) rfl (fun x hx => by
    have hx2 : x ∈ amps := of_decide_eq_true (List.all_eq_true.mp ampm_i x (List.mem_of_mem_take hx))
    by_cases e : x = 60
    · rw [e]; exact amf_0 d0 d4 hm hBf
    · rw [amo_c hm hx2 e h5 (fun j _ hj => hBn j hj)]; exact h8 x hx) (amf_0 d0 d4 hm hBf))
  have x5 : sc X ρ3 (155, .elem (.arg 64353) (.int 0), .int 0) = true := k155.mpr (fun j hj => by
    by_cases hi : 60 ≤ j ∧ j < 60 + 5
    · rw [hBf j hi.1 hi.2]; exact evf_k d0 d4 hj
    · rw [hBn j hi]; exact h5 j hj)
  have lg60129 : ρ3.2.1 60129 = ρ.2.1 60129 := (m4.1 60129 (by decide) (by decide)).2.trans (k4.1 60129 (by decide) (by decide)).2.symm
  have lg60065 : ρ3.2.1 60065 = ρ.2.1 60065 := (m4.1 60065 (by decide) (by decide)).2.trans (k4.1 60065 (by decide) (by decide)).2.symm
  have lg60097 : ρ3.2.1 60097 = ρ.2.1 60097 := (m4.1 60097 (by decide) (by decide)).2.trans (k4.1 60097 (by decide) (by decide)).2.symm
  have z1 : sc X ρ3 (6, .elem (.arg 64321) (.int 1), .arg 60129) = true := decide_eq_true (show ρ3.2.2.2.1 64321 1 = ρ3.2.1 60129 by
    rw [hA, lg60129]
    exact of_decide_eq_true (hF.2 _ (List.mem_cons_of_mem _ (List.mem_cons_of_mem _ (List.mem_cons_of_mem _ (List.mem_cons_of_mem _ (List.mem_cons_of_mem _ (List.mem_cons_of_mem _ (List.mem_cons_of_mem _ (List.mem_cons_of_mem _ (List.mem_cons_of_mem _ (List.mem_cons_of_mem _ (List.mem_cons_of_mem _ (List.mem_cons_of_mem _ (List.mem_cons_self)))))))))))))))
  have z2 : sc X ρ3 (6, .elem (.arg 64353) (.int 114), .arg 60065) = true := decide_eq_true (show ρ3.2.2.2.1 64353 114 = ρ3.2.1 60065 by
    rw [hBn 114 (by decide), lg60065]
    exact of_decide_eq_true (hF.2 _ (List.mem_cons_of_mem _ (List.mem_cons_of_mem _ (List.mem_cons_of_mem _ (List.mem_cons_of_mem _ (List.mem_cons_of_mem _ (List.mem_cons_of_mem _ (List.mem_cons_of_mem _ (List.mem_cons_of_mem _ (List.mem_cons_of_mem _ (List.mem_cons_of_mem _ (List.mem_cons_of_mem _ (List.mem_cons_of_mem _ (List.mem_cons_of_mem _ (List.mem_cons_self))))))))))))))))
  have z3 : sc X ρ3 (6, .elem (.arg 64353) (.int 123), .arg 60097) = true := decide_eq_true (show ρ3.2.2.2.1 64353 123 = ρ3.2.1 60097 by
    rw [hBn 123 (by decide), lg60097]
    exact of_decide_eq_true (hF.2 _ (List.mem_cons_of_mem _ (List.mem_cons_of_mem _ (List.mem_cons_of_mem _ (List.mem_cons_of_mem _ (List.mem_cons_of_mem _ (List.mem_cons_of_mem _ (List.mem_cons_of_mem _ (List.mem_cons_of_mem _ (List.mem_cons_of_mem _ (List.mem_cons_of_mem _ (List.mem_cons_of_mem _ (List.mem_cons_of_mem _ (List.mem_cons_of_mem _ (List.mem_cons_of_mem _ (List.mem_cons_self)))))))))))))))))
  exact t_omm5 hv ρ3 m1 ⟨m2.1, fcn (x7) (fcn (x8) (fcn (x5) (fcn (z1) (fcn (z2) (fcn (z3) (m2.2))))))⟩ m3 m4)))
theorem t_oma4 {X : pX} {ρ0 : sR} (hv : vok X ρ0) : CUTOK X kR zWB c_bn0 13 ρ0 q_oma4 := fun ρ k1 hF hI k4 => by
  have h5 := k155.mp (hF.2 _ (List.mem_cons_of_mem _ (List.mem_cons_of_mem _ (List.mem_cons_of_mem _ (List.mem_cons_self)))))
  obtain ⟨v0, v4⟩ := ev_m4 (m := 60) (by decide) (h5 60 (by decide))
  have f0 := s9_n (X := X) (ρ := ρ) (ix := 5634) (s := 0) (p := 60) (by decide +kernel)
  have f1 := s9_n (X := X) (ρ := ρ) (ix := 5634) (s := 1) (p := 61) (by decide +kernel)
  have f2 := s9_n (X := X) (ρ := ρ) (ix := 5634) (s := 2) (p := 62) (by decide +kernel)
  have f3 := s9_n (X := X) (ρ := ρ) (ix := 5634) (s := 3) (p := 63) (by decide +kernel)
  have f4 := s9_n (X := X) (ρ := ρ) (ix := 5634) (s := 4) (p := 64) (by decide +kernel)
  have en : ρ.1 60000 = (ρ.2.2.2.1 64353 60).toInt32 := of_decide_eq_true (hF.2 _ (List.mem_cons_self))
  have ev : (ρ.1 60000).toInt = (ρ.2.2.2.1 64353 60).toInt := by rw [en]; exact mv_l v0 (by omega)
  rcases am_3 (g := ρ.2.2.2.1 64353) (m := 60) (n := (ρ.1 60000).toInt.toNat) with h | h | h
  · exact t_oma4o hv ρ k1 ⟨hF.1, fcn (f0) (fcn (f1) (fcn (f2) (fcn (f3) (fcn (f4) (fcn (di_lf (x := ρ.1 60000) (y := 0) (by rw [ev]; show (0 : Int) ≤ _; exact v0)) (fcn (di_lf (x := 4) (y := ρ.1 60000) (by rw [ev]; show _ ≤ (4 : Int); exact v4)) (fcn (decide_eq_true (show (0 : Int) = amcode (ρ.2.2.2.1 64353) 60 (ρ.1 60000).toInt.toNat from h.symm)) (hF.2))))))))⟩ hI k4
  · exact t_oma4n hv ρ k1 ⟨hF.1, fcn (f0) (fcn (f1) (fcn (f2) (fcn (f3) (fcn (f4) (fcn (di_lf (x := ρ.1 60000) (y := 0) (by rw [ev]; show (0 : Int) ≤ _; exact v0)) (fcn (di_lf (x := 4) (y := ρ.1 60000) (by rw [ev]; show _ ≤ (4 : Int); exact v4)) (fcn (decide_eq_true (show (100925505 : Int) = amcode (ρ.2.2.2.1 64353) 60 (ρ.1 60000).toInt.toNat from h.symm)) (hF.2))))))))⟩ hI k4
  · exact t_oma4l hv ρ k1 ⟨hF.1, fcn (f0) (fcn (f1) (fcn (f2) (fcn (f3) (fcn (f4) (fcn (di_lf (x := ρ.1 60000) (y := 0) (by rw [ev]; show (0 : Int) ≤ _; exact v0)) (fcn (di_lf (x := 4) (y := ρ.1 60000) (by rw [ev]; show _ ≤ (4 : Int); exact v4)) (fcn (decide_eq_true (show (100925506 : Int) = amcode (ρ.2.2.2.1 64353) 60 (ρ.1 60000).toInt.toNat from h.symm)) (hF.2))))))))⟩ hI k4
noncomputable def q_omm4 : sCut := ((fr 0 95 34 [(0, tr 75), (1, .int 90), (2, .int 3)] [], [fr 0 93 73 [(0, tr 75)] [], fr 0 60 30 [(0, tr 39), (1, .int 0)] [], fBot], 11), (fr 0 297 81 [(0, tr 219), (1, .arg 1308), (5, .int 1)] [], [fr 0 300 36 [(0, tr 219), (1, .arg 1308)] [], fBot], 12), [zf98zzzp_15, zf98zzzp_42, zf98zzzp_17, zf98zzzp_2, zf98zzzp_3, zf98zzzp_4, zf98zzzp_5, ((0, .arg 1702, .int 0), true), ((0, .arg 3360, .int 0), true), ((0, .arg 1350, .int 0), true), ((0, .arg 1826, .int 0), true), zf98zzzp_6, zf98zzzp_14], i_bz)
noncomputable def q_omm4g : sCut := ((fr 0 95 34 [(0, tr 75), (1, .int 90), (2, .int 3)] [], [fr 0 93 73 [(0, tr 75)] [], fr 0 60 30 [(0, tr 39), (1, .int 0)] [], fBot], 11), (fr 0 297 81 [(0, tr 219), (1, .arg 1308), (5, .int 1)] [], [fr 0 300 36 [(0, tr 219), (1, .arg 1308)] [], fBot], 12), [zf98zzzp_43, zf98zzzp_15, zf98zzzp_42, zf98zzzp_17, zf98zzzp_2, zf98zzzp_3, zf98zzzp_4, zf98zzzp_5, ((0, .arg 1702, .int 0), true), ((0, .arg 3360, .int 0), true), ((0, .arg 1350, .int 0), true), ((0, .arg 1826, .int 0), true), zf98zzzp_6, zf98zzzp_14], i_bz)
theorem k_omm4g : cbody kR [(zWP, c_fndl)] (cpl1 zWB c_bn0 [q_oma4]) (cpl2 zWB c_bn0 [q_oma4]) (cleaf kR zWB c_bn0 [q_oma4]) 200 false true q_omm4g.2.2.1 q_omm4g.2.2.2 (cst zWB c_bn0.2.2.1.1 q_omm4g.1) (cst zWB c_bn0.2.2.1.2 q_omm4g.2.1) = true := by decide +kernel
theorem t_omm4g {X : pX} {ρ0 : sR} (hv : vok X ρ0) : CUTOK X kR zWB c_bn0 13 ρ0 q_omm4g := CUT_run kR_x kR_0 (Cs := [(zWP, c_fndl)]) (fun C hC => by rw [List.mem_singleton.mp hC]; exact s_fndl) c_bn0_f (Q := [q_oma4]) hv (fun q hq => by
    simp only [List.mem_cons, List.not_mem_nil, or_false] at hq
    rw [hq]; exact t_oma4 hv) 200 (b1 := false) (b2 := true) k_omm4g
theorem t_omm4 {X : pX} {ρ0 : sR} (hv : vok X ρ0) : CUTOK X kR zWB c_bn0 13 ρ0 q_omm4 := fun ρ k1 hF hI k4 => by
  exact t_omm4g hv ρ k1 ⟨hF.1, fcn (s9_n (X := X) (ρ := ρ) (ix := 5634) (s := 0) (p := 60) (by decide +kernel)) (hF.2)⟩ hI k4
noncomputable def zf98zzzp_48 : sQ × Bool := ((0, .arg 60000, .op1 .l2i (.elem (.arg 64353) (.int 95))), true)
noncomputable def zf98zzzp_49 : sQ × Bool := ((158, .elem (.arg 64353) (.int 0), .int 3), true)
noncomputable def q_oma3 : sCut := ((fr 0 95 34 [(0, tr 75), (1, .int 90), (2, .int 3)] [], [fr 0 93 73 [(0, tr 75)] [], fr 0 60 30 [(0, tr 39), (1, .int 0)] [], fBot], 11), (fr 0 298 9 [(0, tr 219), (1, .arg 1308), (2, .int 6657)] [.arg 60000, .int 6657, .arg 1308, tr 219], [fr 0 297 81 [(0, tr 219), (1, .arg 1308), (5, .int 1)] [], fr 0 300 36 [(0, tr 219), (1, .arg 1308)] [], fBot], 11), [zf98zzzp_48, zf98zzzp_15, zf98zzzp_49, zf98zzzp_17, zf98zzzp_2, zf98zzzp_3, zf98zzzp_4, zf98zzzp_5, ((0, .arg 1702, .int 0), true), ((0, .arg 3360, .int 0), true), ((0, .arg 1350, .int 0), true), ((0, .arg 1826, .int 0), true), zf98zzzp_6, zf98zzzp_14], i_bz)
noncomputable def zf98zzzp_50 : sQ × Bool := ((109, .add (.int 6657) (.int 0), .int 95), true)
noncomputable def zf98zzzp_51 : sQ × Bool := ((109, .add (.int 6657) (.int 1), .int 96), true)
noncomputable def zf98zzzp_52 : sQ × Bool := ((109, .add (.int 6657) (.int 2), .int 97), true)
noncomputable def zf98zzzp_53 : sQ × Bool := ((109, .add (.int 6657) (.int 3), .int 98), true)
noncomputable def zf98zzzp_54 : sQ × Bool := ((109, .add (.int 6657) (.int 4), .int 99), true)
noncomputable def q_oma3o : sCut := ((fr 0 95 34 [(0, tr 75), (1, .int 90), (2, .int 3)] [], [fr 0 93 73 [(0, tr 75)] [], fr 0 60 30 [(0, tr 39), (1, .int 0)] [], fBot], 11), (fr 0 298 9 [(0, tr 219), (1, .arg 1308), (2, .int 6657)] [.arg 60000, .int 6657, .arg 1308, tr 219], [fr 0 297 81 [(0, tr 219), (1, .arg 1308), (5, .int 1)] [], fr 0 300 36 [(0, tr 219), (1, .arg 1308)] [], fBot], 11), [zf98zzzp_50, zf98zzzp_51, zf98zzzp_52, zf98zzzp_53, zf98zzzp_54, zf98zzzp_25, zf98zzzp_26, ((139, .add (.elem (.arg 64353) (.int 0)) (.add (.int 95) (.arg 60000)), .int 0), true), zf98zzzp_48, zf98zzzp_15, zf98zzzp_49, zf98zzzp_17, zf98zzzp_2, zf98zzzp_3, zf98zzzp_4, zf98zzzp_5, ((0, .arg 1702, .int 0), true), ((0, .arg 3360, .int 0), true), ((0, .arg 1350, .int 0), true), ((0, .arg 1826, .int 0), true), zf98zzzp_6, zf98zzzp_14], i_bz)
noncomputable def w_oma3o : List (sCut × List (Nat × sT) × List (Nat × sT × List (sT × sT))) := [(q_omm4T, [], [(64321, .arg 64321, []), (64353, .arg 64353, [])])]
theorem k_oma3o : cbody kR [(zWP, c_fndl), (zWB, c_mmo)] (cpl1 zWB c_bn0 [q_omm4T]) (cpl2 zWB c_bn0 [q_omm4T]) (cleafB kR zWB c_bn0 w_oma3o) 700 false false q_oma3o.2.2.1 q_oma3o.2.2.2 (cst zWB c_bn0.2.2.1.1 q_oma3o.1) (cst zWB c_bn0.2.2.1.2 q_oma3o.2.1) = true := by decide +kernel
theorem t_oma3o {X : pX} {ρ0 : sR} (hv : vok X ρ0) : CUTOK X kR zWB c_bn0 13 ρ0 q_oma3o := CUTOK_AT (fun ρ k1 hF hI k4 => AT_of (q := q_oma3o) rfl rfl (SEM_runB kR_x kR_0 (Cs := [(zWP, c_fndl), (zWB, c_mmo)]) (fun C hC => by
    simp only [List.mem_cons, List.not_mem_nil, or_false] at hC
    rcases hC with hC | hC
    · rw [hC]; exact s_fndl
    · rw [hC]; exact s_mmo) c_bn0_f (Q := w_oma3o) hv 700 (b1 := false) (b2 := false) k_oma3o k1 hF hI k4 (fun p hp ρ3 m1 m2 m3 m4 m5 m6 => by
  rw [List.mem_singleton.mp hp] at m2 m3 m5 m6 ⊢
  have eD : ρ3.1 1308 = ρ.1 1308 := (m4.1 1308 (by decide) (by decide)).1.trans (k4.1 1308 (by decide) (by decide)).1.symm
  obtain ⟨d0, d4⟩ := d_r hF.1
  have hA : ∀ j, ρ3.2.2.2.1 64321 j = ρ.2.2.2.1 64321 j := fun j => by
    have hw := m6 (64321, .arg 64321, []) (List.mem_cons_self) j
    have hw : Value.long (ρ3.2.2.2.1 64321 j) = Value.long (ρ.2.2.2.1 64321 j) := hw
    exact Value.long.inj hw
  have hB : ∀ j, ρ3.2.2.2.1 64353 j = ρ.2.2.2.1 64353 j := fun j => by
    have hw := m6 (64353, .arg 64353, []) (List.mem_cons_of_mem _ (List.mem_cons_self)) j
    have hw : Value.long (ρ3.2.2.2.1 64353 j) = Value.long (ρ.2.2.2.1 64353 j) := hw
    exact Value.long.inj hw
  have h7 := k157.mp (hF.2 _ (List.mem_cons_of_mem _ (List.mem_cons_of_mem _ (List.mem_cons_of_mem _ (List.mem_cons_of_mem _ (List.mem_cons_of_mem _ (List.mem_cons_of_mem _ (List.mem_cons_of_mem _ (List.mem_cons_of_mem _ (List.mem_cons_of_mem _ (List.mem_cons_self)))))))))))
  have h8 := k158.mp (hF.2 _ (List.mem_cons_of_mem _ (List.mem_cons_of_mem _ (List.mem_cons_of_mem _ (List.mem_cons_of_mem _ (List.mem_cons_of_mem _ (List.mem_cons_of_mem _ (List.mem_cons_of_mem _ (List.mem_cons_of_mem _ (List.mem_cons_of_mem _ (List.mem_cons_of_mem _ (List.mem_cons_self))))))))))))
  have h5 := k155.mp (hF.2 _ (List.mem_cons_of_mem _ (List.mem_cons_of_mem _ (List.mem_cons_of_mem _ (List.mem_cons_of_mem _ (List.mem_cons_of_mem _ (List.mem_cons_of_mem _ (List.mem_cons_of_mem _ (List.mem_cons_of_mem _ (List.mem_cons_of_mem _ (List.mem_cons_of_mem _ (List.mem_cons_of_mem _ (List.mem_cons_self)))))))))))))
  obtain ⟨v0, v4⟩ := ev_m4 (m := 95) (by decide) (h5 95 (by decide))
  have en : ρ.1 60000 = (ρ.2.2.2.1 64353 95).toInt32 := of_decide_eq_true (hF.2 _ (List.mem_cons_of_mem _ (List.mem_cons_of_mem _ (List.mem_cons_of_mem _ (List.mem_cons_of_mem _ (List.mem_cons_of_mem _ (List.mem_cons_of_mem _ (List.mem_cons_of_mem _ (List.mem_cons_of_mem _ (List.mem_cons_self))))))))))
  have hc : (0 : Int) = amcode (ρ.2.2.2.1 64353) 95 (ρ.1 60000).toInt.toNat := of_decide_eq_true (hF.2 _ (List.mem_cons_of_mem _ (List.mem_cons_of_mem _ (List.mem_cons_of_mem _ (List.mem_cons_of_mem _ (List.mem_cons_of_mem _ (List.mem_cons_of_mem _ (List.mem_cons_of_mem _ (List.mem_cons_self)))))))))
  rw [en, mv_l v0 (by omega)] at hc
  have eA : ρ3.2.2.2.1 64321 = ρ.2.2.2.1 64321 := funext hA
  have eB : ρ3.2.2.2.1 64353 = ρ.2.2.2.1 64353 := funext hB
  have x7 : sc X ρ3 (157, .add (.elem (.arg 64321) (.int 0)) (.add (.elem (.arg 64353) (.int 0)) (.arg 1308)), .int 8) = true := k157.mpr (by rw [eA, eB, eD]; exact h7)
  have x8 : sc X ρ3 (158, .elem (.arg 64353) (.int 0), .int 4) = true := k158.mpr (by rw [eB]; exact ampm_t (K := 3) (m := 95) rfl h8 hc.symm)
  have x5 : sc X ρ3 (155, .elem (.arg 64353) (.int 0), .int 0) = true := k155.mpr (by rw [eB]; exact h5)
  have lg60129 : ρ3.2.1 60129 = ρ.2.1 60129 := (m4.1 60129 (by decide) (by decide)).2.trans (k4.1 60129 (by decide) (by decide)).2.symm
  have lg60065 : ρ3.2.1 60065 = ρ.2.1 60065 := (m4.1 60065 (by decide) (by decide)).2.trans (k4.1 60065 (by decide) (by decide)).2.symm
  have lg60097 : ρ3.2.1 60097 = ρ.2.1 60097 := (m4.1 60097 (by decide) (by decide)).2.trans (k4.1 60097 (by decide) (by decide)).2.symm
  have z1 : sc X ρ3 (6, .elem (.arg 64321) (.int 1), .arg 60129) = true := decide_eq_true (show ρ3.2.2.2.1 64321 1 = ρ3.2.1 60129 by
    rw [hA, lg60129]
    exact of_decide_eq_true (hF.2 _ (List.mem_cons_of_mem _ (List.mem_cons_of_mem _ (List.mem_cons_of_mem _ (List.mem_cons_of_mem _ (List.mem_cons_of_mem _ (List.mem_cons_of_mem _ (List.mem_cons_of_mem _ (List.mem_cons_of_mem _ (List.mem_cons_of_mem _ (List.mem_cons_of_mem _ (List.mem_cons_of_mem _ (List.mem_cons_of_mem _ (List.mem_cons_self)))))))))))))))
  have z2 : sc X ρ3 (6, .elem (.arg 64353) (.int 114), .arg 60065) = true := decide_eq_true (show ρ3.2.2.2.1 64353 114 = ρ3.2.1 60065 by
    rw [hB, lg60065]
    exact of_decide_eq_true (hF.2 _ (List.mem_cons_of_mem _ (List.mem_cons_of_mem _ (List.mem_cons_of_mem _ (List.mem_cons_of_mem _ (List.mem_cons_of_mem _ (List.mem_cons_of_mem _ (List.mem_cons_of_mem _ (List.mem_cons_of_mem _ (List.mem_cons_of_mem _ (List.mem_cons_of_mem _ (List.mem_cons_of_mem _ (List.mem_cons_of_mem _ (List.mem_cons_of_mem _ (List.mem_cons_self))))))))))))))))
  have z3 : sc X ρ3 (6, .elem (.arg 64353) (.int 123), .arg 60097) = true := decide_eq_true (show ρ3.2.2.2.1 64353 123 = ρ3.2.1 60097 by
    rw [hB, lg60097]
    exact of_decide_eq_true (hF.2 _ (List.mem_cons_of_mem _ (List.mem_cons_of_mem _ (List.mem_cons_of_mem _ (List.mem_cons_of_mem _ (List.mem_cons_of_mem _ (List.mem_cons_of_mem _ (List.mem_cons_of_mem _ (List.mem_cons_of_mem _ (List.mem_cons_of_mem _ (List.mem_cons_of_mem _ (List.mem_cons_of_mem _ (List.mem_cons_of_mem _ (List.mem_cons_of_mem _ (List.mem_cons_of_mem _ (List.mem_cons_self)))))))))))))))))
  exact t_omm4 hv ρ3 m1 ⟨m2.1, fcn (x7) (fcn (x8) (fcn (x5) (fcn (z1) (fcn (z2) (fcn (z3) (m2.2))))))⟩ m3 m4)))
noncomputable def q_oma3n : sCut := ((fr 0 95 34 [(0, tr 75), (1, .int 90), (2, .int 3)] [], [fr 0 93 73 [(0, tr 75)] [], fr 0 60 30 [(0, tr 39), (1, .int 0)] [], fBot], 11), (fr 0 298 9 [(0, tr 219), (1, .arg 1308), (2, .int 6657)] [.arg 60000, .int 6657, .arg 1308, tr 219], [fr 0 297 81 [(0, tr 219), (1, .arg 1308), (5, .int 1)] [], fr 0 300 36 [(0, tr 219), (1, .arg 1308)] [], fBot], 11), [zf98zzzp_50, zf98zzzp_51, zf98zzzp_52, zf98zzzp_53, zf98zzzp_54, zf98zzzp_25, zf98zzzp_26, ((139, .add (.elem (.arg 64353) (.int 0)) (.add (.int 95) (.arg 60000)), .int 100925505), true), zf98zzzp_48, zf98zzzp_15, zf98zzzp_49, zf98zzzp_17, zf98zzzp_2, zf98zzzp_3, zf98zzzp_4, zf98zzzp_5, ((0, .arg 1702, .int 0), true), ((0, .arg 3360, .int 0), true), ((0, .arg 1350, .int 0), true), ((0, .arg 1826, .int 0), true), zf98zzzp_6, zf98zzzp_14], i_bz)
noncomputable def w_oma3n : List (sCut × List (Nat × sT) × List (Nat × sT × List (sT × sT))) := [(q_omm4T, [], [(64321, .arg 64321, []), (64353, .arg 64353, [(.int 99, .long 0), (.int 98, .long 0), (.int 97, .long 0), (.int 96, .long 0), (.int 95, .long 0)])])]
theorem k_oma3n : cbody kR [(zWP, c_fndl), (zWB, c_mmn)] (cpl1 zWB c_bn0 [q_omm4T]) (cpl2 zWB c_bn0 [q_omm4T]) (cleafB kR zWB c_bn0 w_oma3n) 700 false false q_oma3n.2.2.1 q_oma3n.2.2.2 (cst zWB c_bn0.2.2.1.1 q_oma3n.1) (cst zWB c_bn0.2.2.1.2 q_oma3n.2.1) = true := by decide +kernel
theorem t_oma3n {X : pX} {ρ0 : sR} (hv : vok X ρ0) : CUTOK X kR zWB c_bn0 13 ρ0 q_oma3n := CUTOK_AT (fun ρ k1 hF hI k4 => AT_of (q := q_oma3n) rfl rfl (SEM_runB kR_x kR_0 (Cs := [(zWP, c_fndl), (zWB, c_mmn)]) (fun C hC => by
    simp only [List.mem_cons, List.not_mem_nil, or_false] at hC
    rcases hC with hC | hC
    · rw [hC]; exact s_fndl
    · rw [hC]; exact s_mmn) c_bn0_f (Q := w_oma3n) hv 700 (b1 := false) (b2 := false) k_oma3n k1 hF hI k4 (fun p hp ρ3 m1 m2 m3 m4 m5 m6 => by
  rw [List.mem_singleton.mp hp] at m2 m3 m5 m6 ⊢
  have eD : ρ3.1 1308 = ρ.1 1308 := (m4.1 1308 (by decide) (by decide)).1.trans (k4.1 1308 (by decide) (by decide)).1.symm
  obtain ⟨d0, d4⟩ := d_r hF.1
  have hA : ∀ j, ρ3.2.2.2.1 64321 j = ρ.2.2.2.1 64321 j := fun j => by
    have hw := m6 (64321, .arg 64321, []) (List.mem_cons_self) j
    have hw : Value.long (ρ3.2.2.2.1 64321 j) = Value.long (ρ.2.2.2.1 64321 j) := hw
    exact Value.long.inj hw
  obtain ⟨hBn, hBf⟩ := fiv_w (f := ρ.2.2.2.1 64353) (g := ρ3.2.2.2.1 64353) (m := 95) (d := (ρ.1 1308).toInt) (v0 := 0) (v1 := 0) (v2 := 0) (v3 := 0) (v4 := 0) (fun j => m6 (64353, .arg 64353, [(.int 99, .long 0), (.int 98, .long 0), (.int 97, .long 0), (.int 96, .long 0), (.int 95, .long 0)]) (List.mem_cons_of_mem _ (List.mem_cons_self)) j) (amw_95 d0 d4 (i := 0) (by decide)) (amw_95 d0 d4 (i := 1) (by decide)) (amw_95 d0 d4 (i := 2) (by decide)) (amw_95 d0 d4 (i := 3) (by decide)) (amw_95 d0 d4 (i := 4) (by decide))
  have h7 := k157.mp (hF.2 _ (List.mem_cons_of_mem _ (List.mem_cons_of_mem _ (List.mem_cons_of_mem _ (List.mem_cons_of_mem _ (List.mem_cons_of_mem _ (List.mem_cons_of_mem _ (List.mem_cons_of_mem _ (List.mem_cons_of_mem _ (List.mem_cons_of_mem _ (List.mem_cons_self)))))))))))
  have h8 := k158.mp (hF.2 _ (List.mem_cons_of_mem _ (List.mem_cons_of_mem _ (List.mem_cons_of_mem _ (List.mem_cons_of_mem _ (List.mem_cons_of_mem _ (List.mem_cons_of_mem _ (List.mem_cons_of_mem _ (List.mem_cons_of_mem _ (List.mem_cons_of_mem _ (List.mem_cons_of_mem _ (List.mem_cons_self))))))))))))
  have h5 := k155.mp (hF.2 _ (List.mem_cons_of_mem _ (List.mem_cons_of_mem _ (List.mem_cons_of_mem _ (List.mem_cons_of_mem _ (List.mem_cons_of_mem _ (List.mem_cons_of_mem _ (List.mem_cons_of_mem _ (List.mem_cons_of_mem _ (List.mem_cons_of_mem _ (List.mem_cons_of_mem _ (List.mem_cons_of_mem _ (List.mem_cons_self)))))))))))))
  obtain ⟨v0, v4⟩ := ev_m4 (m := 95) (by decide) (h5 95 (by decide))
  have en : ρ.1 60000 = (ρ.2.2.2.1 64353 95).toInt32 := of_decide_eq_true (hF.2 _ (List.mem_cons_of_mem _ (List.mem_cons_of_mem _ (List.mem_cons_of_mem _ (List.mem_cons_of_mem _ (List.mem_cons_of_mem _ (List.mem_cons_of_mem _ (List.mem_cons_of_mem _ (List.mem_cons_of_mem _ (List.mem_cons_self))))))))))
  have hc : (100925505 : Int) = amcode (ρ.2.2.2.1 64353) 95 (ρ.1 60000).toInt.toNat := of_decide_eq_true (hF.2 _ (List.mem_cons_of_mem _ (List.mem_cons_of_mem _ (List.mem_cons_of_mem _ (List.mem_cons_of_mem _ (List.mem_cons_of_mem _ (List.mem_cons_of_mem _ (List.mem_cons_of_mem _ (List.mem_cons_self)))))))))
  rw [en, mv_l v0 (by omega)] at hc
  have hm : 95 ∈ amps := by decide
  have hn : ¬ amcode (ρ.2.2.2.1 64353) 95 (ρ.2.2.2.1 64353 95).toInt.toNat = 0 := by rw [← hc]; decide
  have eA : ρ3.2.2.2.1 64321 = ρ.2.2.2.1 64321 := funext hA
  have x7 : sc X ρ3 (157, .add (.elem (.arg 64321) (.int 0)) (.add (.elem (.arg 64353) (.int 0)) (.arg 1308)), .int 8) = true := k157.mpr (by rw [eA, eD]; exact amn_m d0 d4 hm h7 h5 hn (fun j _ hj => hBn j hj) hBf)
  have x8 : sc X ρ3 (158, .elem (.arg 64353) (.int 0), .int 4) = true := k158.mpr (ampm_t (K := 3) (m := 95) rfl (fun x hx => by
    have hx2 : x ∈ amps := of_decide_eq_true (List.all_eq_true.mp ampm_i x (List.mem_of_mem_take hx))
    by_cases e : x = 95
    · rw [e]; exact amf_0 d0 d4 hm hBf
    · rw [amo_c hm hx2 e h5 (fun j _ hj => hBn j hj)]; exact h8 x hx) (amf_0 d0 d4 hm hBf))
  have x5 : sc X ρ3 (155, .elem (.arg 64353) (.int 0), .int 0) = true := k155.mpr (fun j hj => by
    by_cases hi : 95 ≤ j ∧ j < 95 + 5
    · rw [hBf j hi.1 hi.2]; exact evf_k d0 d4 hj
    · rw [hBn j hi]; exact h5 j hj)
  have lg60129 : ρ3.2.1 60129 = ρ.2.1 60129 := (m4.1 60129 (by decide) (by decide)).2.trans (k4.1 60129 (by decide) (by decide)).2.symm
  have lg60065 : ρ3.2.1 60065 = ρ.2.1 60065 := (m4.1 60065 (by decide) (by decide)).2.trans (k4.1 60065 (by decide) (by decide)).2.symm
  have lg60097 : ρ3.2.1 60097 = ρ.2.1 60097 := (m4.1 60097 (by decide) (by decide)).2.trans (k4.1 60097 (by decide) (by decide)).2.symm
  have z1 : sc X ρ3 (6, .elem (.arg 64321) (.int 1), .arg 60129) = true := decide_eq_true (show ρ3.2.2.2.1 64321 1 = ρ3.2.1 60129 by
    rw [hA, lg60129]
    exact of_decide_eq_true (hF.2 _ (List.mem_cons_of_mem _ (List.mem_cons_of_mem _ (List.mem_cons_of_mem _ (List.mem_cons_of_mem _ (List.mem_cons_of_mem _ (List.mem_cons_of_mem _ (List.mem_cons_of_mem _ (List.mem_cons_of_mem _ (List.mem_cons_of_mem _ (List.mem_cons_of_mem _ (List.mem_cons_of_mem _ (List.mem_cons_of_mem _ (List.mem_cons_self)))))))))))))))
  have z2 : sc X ρ3 (6, .elem (.arg 64353) (.int 114), .arg 60065) = true := decide_eq_true (show ρ3.2.2.2.1 64353 114 = ρ3.2.1 60065 by
    rw [hBn 114 (by decide), lg60065]
    exact of_decide_eq_true (hF.2 _ (List.mem_cons_of_mem _ (List.mem_cons_of_mem _ (List.mem_cons_of_mem _ (List.mem_cons_of_mem _ (List.mem_cons_of_mem _ (List.mem_cons_of_mem _ (List.mem_cons_of_mem _ (List.mem_cons_of_mem _ (List.mem_cons_of_mem _ (List.mem_cons_of_mem _ (List.mem_cons_of_mem _ (List.mem_cons_of_mem _ (List.mem_cons_of_mem _ (List.mem_cons_self))))))))))))))))
  have z3 : sc X ρ3 (6, .elem (.arg 64353) (.int 123), .arg 60097) = true := decide_eq_true (show ρ3.2.2.2.1 64353 123 = ρ3.2.1 60097 by
    rw [hBn 123 (by decide), lg60097]
    exact of_decide_eq_true (hF.2 _ (List.mem_cons_of_mem _ (List.mem_cons_of_mem _ (List.mem_cons_of_mem _ (List.mem_cons_of_mem _ (List.mem_cons_of_mem _ (List.mem_cons_of_mem _ (List.mem_cons_of_mem _ (List.mem_cons_of_mem _ (List.mem_cons_of_mem _ (List.mem_cons_of_mem _ (List.mem_cons_of_mem _ (List.mem_cons_of_mem _ (List.mem_cons_of_mem _ (List.mem_cons_of_mem _ (List.mem_cons_self)))))))))))))))))
  exact t_omm4 hv ρ3 m1 ⟨m2.1, fcn (x7) (fcn (x8) (fcn (x5) (fcn (z1) (fcn (z2) (fcn (z3) (m2.2))))))⟩ m3 m4)))
noncomputable def q_oma3l : sCut := ((fr 0 95 34 [(0, tr 75), (1, .int 90), (2, .int 3)] [], [fr 0 93 73 [(0, tr 75)] [], fr 0 60 30 [(0, tr 39), (1, .int 0)] [], fBot], 11), (fr 0 298 9 [(0, tr 219), (1, .arg 1308), (2, .int 6657)] [.arg 60000, .int 6657, .arg 1308, tr 219], [fr 0 297 81 [(0, tr 219), (1, .arg 1308), (5, .int 1)] [], fr 0 300 36 [(0, tr 219), (1, .arg 1308)] [], fBot], 11), [zf98zzzp_50, zf98zzzp_51, zf98zzzp_52, zf98zzzp_53, zf98zzzp_54, zf98zzzp_25, zf98zzzp_26, ((139, .add (.elem (.arg 64353) (.int 0)) (.add (.int 95) (.arg 60000)), .int 100925506), true), zf98zzzp_48, zf98zzzp_15, zf98zzzp_49, zf98zzzp_17, zf98zzzp_2, zf98zzzp_3, zf98zzzp_4, zf98zzzp_5, ((0, .arg 1702, .int 0), true), ((0, .arg 3360, .int 0), true), ((0, .arg 1350, .int 0), true), ((0, .arg 1826, .int 0), true), zf98zzzp_6, zf98zzzp_14], i_bz)
noncomputable def w_oma3l : List (sCut × List (Nat × sT) × List (Nat × sT × List (sT × sT))) := [(q_omm4T, [], [(64321, .arg 64321, []), (64353, .arg 64353, [(.int 99, .long 0), (.int 98, .long 0), (.int 97, .long 0), (.int 96, .long 0), (.int 95, .long 0)])])]
theorem k_oma3l : cbody kR [(zWP, c_fndl), (zWB, c_mml)] (cpl1 zWB c_bn0 [q_omm4T]) (cpl2 zWB c_bn0 [q_omm4T]) (cleafB kR zWB c_bn0 w_oma3l) 700 false false q_oma3l.2.2.1 q_oma3l.2.2.2 (cst zWB c_bn0.2.2.1.1 q_oma3l.1) (cst zWB c_bn0.2.2.1.2 q_oma3l.2.1) = true := by decide +kernel
theorem t_oma3l {X : pX} {ρ0 : sR} (hv : vok X ρ0) : CUTOK X kR zWB c_bn0 13 ρ0 q_oma3l := CUTOK_AT (fun ρ k1 hF hI k4 => AT_of (q := q_oma3l) rfl rfl (SEM_runB kR_x kR_0 (Cs := [(zWP, c_fndl), (zWB, c_mml)]) (fun C hC => by
    simp only [List.mem_cons, List.not_mem_nil, or_false] at hC
    rcases hC with hC | hC
    · rw [hC]; exact s_fndl
    · rw [hC]; exact s_mml) c_bn0_f (Q := w_oma3l) hv 700 (b1 := false) (b2 := false) k_oma3l k1 hF hI k4 (fun p hp ρ3 m1 m2 m3 m4 m5 m6 => by
  rw [List.mem_singleton.mp hp] at m2 m3 m5 m6 ⊢
  have eD : ρ3.1 1308 = ρ.1 1308 := (m4.1 1308 (by decide) (by decide)).1.trans (k4.1 1308 (by decide) (by decide)).1.symm
  obtain ⟨d0, d4⟩ := d_r hF.1
  have hA : ∀ j, ρ3.2.2.2.1 64321 j = ρ.2.2.2.1 64321 j := fun j => by
    have hw := m6 (64321, .arg 64321, []) (List.mem_cons_self) j
    have hw : Value.long (ρ3.2.2.2.1 64321 j) = Value.long (ρ.2.2.2.1 64321 j) := hw
    exact Value.long.inj hw
  obtain ⟨hBn, hBf⟩ := fiv_w (f := ρ.2.2.2.1 64353) (g := ρ3.2.2.2.1 64353) (m := 95) (d := (ρ.1 1308).toInt) (v0 := 0) (v1 := 0) (v2 := 0) (v3 := 0) (v4 := 0) (fun j => m6 (64353, .arg 64353, [(.int 99, .long 0), (.int 98, .long 0), (.int 97, .long 0), (.int 96, .long 0), (.int 95, .long 0)]) (List.mem_cons_of_mem _ (List.mem_cons_self)) j) (amw_95 d0 d4 (i := 0) (by decide)) (amw_95 d0 d4 (i := 1) (by decide)) (amw_95 d0 d4 (i := 2) (by decide)) (amw_95 d0 d4 (i := 3) (by decide)) (amw_95 d0 d4 (i := 4) (by decide))
  have h7 := k157.mp (hF.2 _ (List.mem_cons_of_mem _ (List.mem_cons_of_mem _ (List.mem_cons_of_mem _ (List.mem_cons_of_mem _ (List.mem_cons_of_mem _ (List.mem_cons_of_mem _ (List.mem_cons_of_mem _ (List.mem_cons_of_mem _ (List.mem_cons_of_mem _ (List.mem_cons_self)))))))))))
  have h8 := k158.mp (hF.2 _ (List.mem_cons_of_mem _ (List.mem_cons_of_mem _ (List.mem_cons_of_mem _ (List.mem_cons_of_mem _ (List.mem_cons_of_mem _ (List.mem_cons_of_mem _ (List.mem_cons_of_mem _ (List.mem_cons_of_mem _ (List.mem_cons_of_mem _ (List.mem_cons_of_mem _ (List.mem_cons_self))))))))))))
  have h5 := k155.mp (hF.2 _ (List.mem_cons_of_mem _ (List.mem_cons_of_mem _ (List.mem_cons_of_mem _ (List.mem_cons_of_mem _ (List.mem_cons_of_mem _ (List.mem_cons_of_mem _ (List.mem_cons_of_mem _ (List.mem_cons_of_mem _ (List.mem_cons_of_mem _ (List.mem_cons_of_mem _ (List.mem_cons_of_mem _ (List.mem_cons_self)))))))))))))
  obtain ⟨v0, v4⟩ := ev_m4 (m := 95) (by decide) (h5 95 (by decide))
  have en : ρ.1 60000 = (ρ.2.2.2.1 64353 95).toInt32 := of_decide_eq_true (hF.2 _ (List.mem_cons_of_mem _ (List.mem_cons_of_mem _ (List.mem_cons_of_mem _ (List.mem_cons_of_mem _ (List.mem_cons_of_mem _ (List.mem_cons_of_mem _ (List.mem_cons_of_mem _ (List.mem_cons_of_mem _ (List.mem_cons_self))))))))))
  have hc : (100925506 : Int) = amcode (ρ.2.2.2.1 64353) 95 (ρ.1 60000).toInt.toNat := of_decide_eq_true (hF.2 _ (List.mem_cons_of_mem _ (List.mem_cons_of_mem _ (List.mem_cons_of_mem _ (List.mem_cons_of_mem _ (List.mem_cons_of_mem _ (List.mem_cons_of_mem _ (List.mem_cons_of_mem _ (List.mem_cons_self)))))))))
  rw [en, mv_l v0 (by omega)] at hc
  have hm : 95 ∈ amps := by decide
  have hn : ¬ amcode (ρ.2.2.2.1 64353) 95 (ρ.2.2.2.1 64353 95).toInt.toNat = 0 := by rw [← hc]; decide
  have eA : ρ3.2.2.2.1 64321 = ρ.2.2.2.1 64321 := funext hA
  have x7 : sc X ρ3 (157, .add (.elem (.arg 64321) (.int 0)) (.add (.elem (.arg 64353) (.int 0)) (.arg 1308)), .int 8) = true := k157.mpr (by rw [eA, eD]; exact amn_m d0 d4 hm h7 h5 hn (fun j _ hj => hBn j hj) hBf)
  have x8 : sc X ρ3 (158, .elem (.arg 64353) (.int 0), .int 4) = true := k158.mpr (ampm_t (K := 3) (m := 95) rfl (fun x hx => by
    have hx2 : x ∈ amps := of_decide_eq_true (List.all_eq_true.mp ampm_i x (List.mem_of_mem_take hx))
    by_cases e : x = 95
    · rw [e]; exact amf_0 d0 d4 hm hBf
    · rw [amo_c hm hx2 e h5 (fun j _ hj => hBn j hj)]; exact h8 x hx) (amf_0 d0 d4 hm hBf))
  have x5 : sc X ρ3 (155, .elem (.arg 64353) (.int 0), .int 0) = true := k155.mpr (fun j hj => by
    by_cases hi : 95 ≤ j ∧ j < 95 + 5
    · rw [hBf j hi.1 hi.2]; exact evf_k d0 d4 hj
    · rw [hBn j hi]; exact h5 j hj)
  have lg60129 : ρ3.2.1 60129 = ρ.2.1 60129 := (m4.1 60129 (by decide) (by decide)).2.trans (k4.1 60129 (by decide) (by decide)).2.symm
  have lg60065 : ρ3.2.1 60065 = ρ.2.1 60065 := (m4.1 60065 (by decide) (by decide)).2.trans (k4.1 60065 (by decide) (by decide)).2.symm
  have lg60097 : ρ3.2.1 60097 = ρ.2.1 60097 := (m4.1 60097 (by decide) (by decide)).2.trans (k4.1 60097 (by decide) (by decide)).2.symm
  have z1 : sc X ρ3 (6, .elem (.arg 64321) (.int 1), .arg 60129) = true := decide_eq_true (show ρ3.2.2.2.1 64321 1 = ρ3.2.1 60129 by
    rw [hA, lg60129]
    exact of_decide_eq_true (hF.2 _ (List.mem_cons_of_mem _ (List.mem_cons_of_mem _ (List.mem_cons_of_mem _ (List.mem_cons_of_mem _ (List.mem_cons_of_mem _ (List.mem_cons_of_mem _ (List.mem_cons_of_mem _ (List.mem_cons_of_mem _ (List.mem_cons_of_mem _ (List.mem_cons_of_mem _ (List.mem_cons_of_mem _ (List.mem_cons_of_mem _ (List.mem_cons_self)))))))))))))))
  have z2 : sc X ρ3 (6, .elem (.arg 64353) (.int 114), .arg 60065) = true := decide_eq_true (show ρ3.2.2.2.1 64353 114 = ρ3.2.1 60065 by
    rw [hBn 114 (by decide), lg60065]
    exact of_decide_eq_true (hF.2 _ (List.mem_cons_of_mem _ (List.mem_cons_of_mem _ (List.mem_cons_of_mem _ (List.mem_cons_of_mem _ (List.mem_cons_of_mem _ (List.mem_cons_of_mem _ (List.mem_cons_of_mem _ (List.mem_cons_of_mem _ (List.mem_cons_of_mem _ (List.mem_cons_of_mem _ (List.mem_cons_of_mem _ (List.mem_cons_of_mem _ (List.mem_cons_of_mem _ (List.mem_cons_self))))))))))))))))
  have z3 : sc X ρ3 (6, .elem (.arg 64353) (.int 123), .arg 60097) = true := decide_eq_true (show ρ3.2.2.2.1 64353 123 = ρ3.2.1 60097 by
    rw [hBn 123 (by decide), lg60097]
    exact of_decide_eq_true (hF.2 _ (List.mem_cons_of_mem _ (List.mem_cons_of_mem _ (List.mem_cons_of_mem _ (List.mem_cons_of_mem _ (List.mem_cons_of_mem _ (List.mem_cons_of_mem _ (List.mem_cons_of_mem _ (List.mem_cons_of_mem _ (List.mem_cons_of_mem _ (List.mem_cons_of_mem _ (List.mem_cons_of_mem _ (List.mem_cons_of_mem _ (List.mem_cons_of_mem _ (List.mem_cons_of_mem _ (List.mem_cons_self)))))))))))))))))
  exact t_omm4 hv ρ3 m1 ⟨m2.1, fcn (x7) (fcn (x8) (fcn (x5) (fcn (z1) (fcn (z2) (fcn (z3) (m2.2))))))⟩ m3 m4)))
theorem t_oma3 {X : pX} {ρ0 : sR} (hv : vok X ρ0) : CUTOK X kR zWB c_bn0 13 ρ0 q_oma3 := fun ρ k1 hF hI k4 => by
  have h5 := k155.mp (hF.2 _ (List.mem_cons_of_mem _ (List.mem_cons_of_mem _ (List.mem_cons_of_mem _ (List.mem_cons_self)))))
  obtain ⟨v0, v4⟩ := ev_m4 (m := 95) (by decide) (h5 95 (by decide))
  have f0 := s9_n (X := X) (ρ := ρ) (ix := 6657) (s := 0) (p := 95) (by decide +kernel)
  have f1 := s9_n (X := X) (ρ := ρ) (ix := 6657) (s := 1) (p := 96) (by decide +kernel)
  have f2 := s9_n (X := X) (ρ := ρ) (ix := 6657) (s := 2) (p := 97) (by decide +kernel)
  have f3 := s9_n (X := X) (ρ := ρ) (ix := 6657) (s := 3) (p := 98) (by decide +kernel)
  have f4 := s9_n (X := X) (ρ := ρ) (ix := 6657) (s := 4) (p := 99) (by decide +kernel)
  have en : ρ.1 60000 = (ρ.2.2.2.1 64353 95).toInt32 := of_decide_eq_true (hF.2 _ (List.mem_cons_self))
  have ev : (ρ.1 60000).toInt = (ρ.2.2.2.1 64353 95).toInt := by rw [en]; exact mv_l v0 (by omega)
  rcases am_3 (g := ρ.2.2.2.1 64353) (m := 95) (n := (ρ.1 60000).toInt.toNat) with h | h | h
  · exact t_oma3o hv ρ k1 ⟨hF.1, fcn (f0) (fcn (f1) (fcn (f2) (fcn (f3) (fcn (f4) (fcn (di_lf (x := ρ.1 60000) (y := 0) (by rw [ev]; show (0 : Int) ≤ _; exact v0)) (fcn (di_lf (x := 4) (y := ρ.1 60000) (by rw [ev]; show _ ≤ (4 : Int); exact v4)) (fcn (decide_eq_true (show (0 : Int) = amcode (ρ.2.2.2.1 64353) 95 (ρ.1 60000).toInt.toNat from h.symm)) (hF.2))))))))⟩ hI k4
  · exact t_oma3n hv ρ k1 ⟨hF.1, fcn (f0) (fcn (f1) (fcn (f2) (fcn (f3) (fcn (f4) (fcn (di_lf (x := ρ.1 60000) (y := 0) (by rw [ev]; show (0 : Int) ≤ _; exact v0)) (fcn (di_lf (x := 4) (y := ρ.1 60000) (by rw [ev]; show _ ≤ (4 : Int); exact v4)) (fcn (decide_eq_true (show (100925505 : Int) = amcode (ρ.2.2.2.1 64353) 95 (ρ.1 60000).toInt.toNat from h.symm)) (hF.2))))))))⟩ hI k4
  · exact t_oma3l hv ρ k1 ⟨hF.1, fcn (f0) (fcn (f1) (fcn (f2) (fcn (f3) (fcn (f4) (fcn (di_lf (x := ρ.1 60000) (y := 0) (by rw [ev]; show (0 : Int) ≤ _; exact v0)) (fcn (di_lf (x := 4) (y := ρ.1 60000) (by rw [ev]; show _ ≤ (4 : Int); exact v4)) (fcn (decide_eq_true (show (100925506 : Int) = amcode (ρ.2.2.2.1 64353) 95 (ρ.1 60000).toInt.toNat from h.symm)) (hF.2))))))))⟩ hI k4
noncomputable def q_omm3 : sCut := ((fr 0 95 34 [(0, tr 75), (1, .int 90), (2, .int 3)] [], [fr 0 93 73 [(0, tr 75)] [], fr 0 60 30 [(0, tr 39), (1, .int 0)] [], fBot], 11), (fr 0 297 75 [(0, tr 219), (1, .arg 1308), (5, .int 1)] [], [fr 0 300 36 [(0, tr 219), (1, .arg 1308)] [], fBot], 12), [zf98zzzp_15, zf98zzzp_49, zf98zzzp_17, zf98zzzp_2, zf98zzzp_3, zf98zzzp_4, zf98zzzp_5, ((0, .arg 1702, .int 0), true), ((0, .arg 3360, .int 0), true), ((0, .arg 1350, .int 0), true), ((0, .arg 1826, .int 0), true), zf98zzzp_6, zf98zzzp_14], i_bz)
noncomputable def q_omm3g : sCut := ((fr 0 95 34 [(0, tr 75), (1, .int 90), (2, .int 3)] [], [fr 0 93 73 [(0, tr 75)] [], fr 0 60 30 [(0, tr 39), (1, .int 0)] [], fBot], 11), (fr 0 297 75 [(0, tr 219), (1, .arg 1308), (5, .int 1)] [], [fr 0 300 36 [(0, tr 219), (1, .arg 1308)] [], fBot], 12), [zf98zzzp_50, zf98zzzp_15, zf98zzzp_49, zf98zzzp_17, zf98zzzp_2, zf98zzzp_3, zf98zzzp_4, zf98zzzp_5, ((0, .arg 1702, .int 0), true), ((0, .arg 3360, .int 0), true), ((0, .arg 1350, .int 0), true), ((0, .arg 1826, .int 0), true), zf98zzzp_6, zf98zzzp_14], i_bz)
theorem k_omm3g : cbody kR [(zWP, c_fndl)] (cpl1 zWB c_bn0 [q_oma3]) (cpl2 zWB c_bn0 [q_oma3]) (cleaf kR zWB c_bn0 [q_oma3]) 200 false true q_omm3g.2.2.1 q_omm3g.2.2.2 (cst zWB c_bn0.2.2.1.1 q_omm3g.1) (cst zWB c_bn0.2.2.1.2 q_omm3g.2.1) = true := by decide +kernel
theorem t_omm3g {X : pX} {ρ0 : sR} (hv : vok X ρ0) : CUTOK X kR zWB c_bn0 13 ρ0 q_omm3g := CUT_run kR_x kR_0 (Cs := [(zWP, c_fndl)]) (fun C hC => by rw [List.mem_singleton.mp hC]; exact s_fndl) c_bn0_f (Q := [q_oma3]) hv (fun q hq => by
    simp only [List.mem_cons, List.not_mem_nil, or_false] at hq
    rw [hq]; exact t_oma3 hv) 200 (b1 := false) (b2 := true) k_omm3g
theorem t_omm3 {X : pX} {ρ0 : sR} (hv : vok X ρ0) : CUTOK X kR zWB c_bn0 13 ρ0 q_omm3 := fun ρ k1 hF hI k4 => by
  exact t_omm3g hv ρ k1 ⟨hF.1, fcn (s9_n (X := X) (ρ := ρ) (ix := 6657) (s := 0) (p := 95) (by decide +kernel)) (hF.2)⟩ hI k4
noncomputable def zf98zzzp_55 : sQ × Bool := ((0, .arg 60000, .op1 .l2i (.elem (.arg 64353) (.int 55))), true)
noncomputable def zf98zzzp_56 : sQ × Bool := ((158, .elem (.arg 64353) (.int 0), .int 2), true)
noncomputable def q_oma2 : sCut := ((fr 0 95 34 [(0, tr 75), (1, .int 90), (2, .int 3)] [], [fr 0 93 73 [(0, tr 75)] [], fr 0 60 30 [(0, tr 39), (1, .int 0)] [], fBot], 11), (fr 0 298 9 [(0, tr 219), (1, .arg 1308), (2, .int 5633)] [.arg 60000, .int 5633, .arg 1308, tr 219], [fr 0 297 75 [(0, tr 219), (1, .arg 1308), (5, .int 1)] [], fr 0 300 36 [(0, tr 219), (1, .arg 1308)] [], fBot], 11), [zf98zzzp_55, zf98zzzp_15, zf98zzzp_56, zf98zzzp_17, zf98zzzp_2, zf98zzzp_3, zf98zzzp_4, zf98zzzp_5, ((0, .arg 1702, .int 0), true), ((0, .arg 3360, .int 0), true), ((0, .arg 1350, .int 0), true), ((0, .arg 1826, .int 0), true), zf98zzzp_6, zf98zzzp_14], i_bz)
noncomputable def zf98zzzp_57 : sQ × Bool := ((109, .add (.int 5633) (.int 0), .int 55), true)
noncomputable def zf98zzzp_58 : sQ × Bool := ((109, .add (.int 5633) (.int 1), .int 56), true)
noncomputable def zf98zzzp_59 : sQ × Bool := ((109, .add (.int 5633) (.int 2), .int 57), true)
noncomputable def zf98zzzp_60 : sQ × Bool := ((109, .add (.int 5633) (.int 3), .int 58), true)
noncomputable def zf98zzzp_61 : sQ × Bool := ((109, .add (.int 5633) (.int 4), .int 59), true)
noncomputable def q_oma2o : sCut := ((fr 0 95 34 [(0, tr 75), (1, .int 90), (2, .int 3)] [], [fr 0 93 73 [(0, tr 75)] [], fr 0 60 30 [(0, tr 39), (1, .int 0)] [], fBot], 11), (fr 0 298 9 [(0, tr 219), (1, .arg 1308), (2, .int 5633)] [.arg 60000, .int 5633, .arg 1308, tr 219], [fr 0 297 75 [(0, tr 219), (1, .arg 1308), (5, .int 1)] [], fr 0 300 36 [(0, tr 219), (1, .arg 1308)] [], fBot], 11), [zf98zzzp_57, zf98zzzp_58, zf98zzzp_59, zf98zzzp_60, zf98zzzp_61, zf98zzzp_25, zf98zzzp_26, ((139, .add (.elem (.arg 64353) (.int 0)) (.add (.int 55) (.arg 60000)), .int 0), true), zf98zzzp_55, zf98zzzp_15, zf98zzzp_56, zf98zzzp_17, zf98zzzp_2, zf98zzzp_3, zf98zzzp_4, zf98zzzp_5, ((0, .arg 1702, .int 0), true), ((0, .arg 3360, .int 0), true), ((0, .arg 1350, .int 0), true), ((0, .arg 1826, .int 0), true), zf98zzzp_6, zf98zzzp_14], i_bz)
noncomputable def w_oma2o : List (sCut × List (Nat × sT) × List (Nat × sT × List (sT × sT))) := [(q_omm3T, [], [(64321, .arg 64321, []), (64353, .arg 64353, [])])]
theorem k_oma2o : cbody kR [(zWP, c_fndl), (zWB, c_mmo)] (cpl1 zWB c_bn0 [q_omm3T]) (cpl2 zWB c_bn0 [q_omm3T]) (cleafB kR zWB c_bn0 w_oma2o) 700 false false q_oma2o.2.2.1 q_oma2o.2.2.2 (cst zWB c_bn0.2.2.1.1 q_oma2o.1) (cst zWB c_bn0.2.2.1.2 q_oma2o.2.1) = true := by decide +kernel
theorem t_oma2o {X : pX} {ρ0 : sR} (hv : vok X ρ0) : CUTOK X kR zWB c_bn0 13 ρ0 q_oma2o := CUTOK_AT (fun ρ k1 hF hI k4 => AT_of (q := q_oma2o) rfl rfl (SEM_runB kR_x kR_0 (Cs := [(zWP, c_fndl), (zWB, c_mmo)]) (fun C hC => by
    simp only [List.mem_cons, List.not_mem_nil, or_false] at hC
    rcases hC with hC | hC
    · rw [hC]; exact s_fndl
    · rw [hC]; exact s_mmo) c_bn0_f (Q := w_oma2o) hv 700 (b1 := false) (b2 := false) k_oma2o k1 hF hI k4 (fun p hp ρ3 m1 m2 m3 m4 m5 m6 => by
  rw [List.mem_singleton.mp hp] at m2 m3 m5 m6 ⊢
  have eD : ρ3.1 1308 = ρ.1 1308 := (m4.1 1308 (by decide) (by decide)).1.trans (k4.1 1308 (by decide) (by decide)).1.symm
  obtain ⟨d0, d4⟩ := d_r hF.1
  have hA : ∀ j, ρ3.2.2.2.1 64321 j = ρ.2.2.2.1 64321 j := fun j => by
    have hw := m6 (64321, .arg 64321, []) (List.mem_cons_self) j
    have hw : Value.long (ρ3.2.2.2.1 64321 j) = Value.long (ρ.2.2.2.1 64321 j) := hw
    exact Value.long.inj hw
  have hB : ∀ j, ρ3.2.2.2.1 64353 j = ρ.2.2.2.1 64353 j := fun j => by
    have hw := m6 (64353, .arg 64353, []) (List.mem_cons_of_mem _ (List.mem_cons_self)) j
    have hw : Value.long (ρ3.2.2.2.1 64353 j) = Value.long (ρ.2.2.2.1 64353 j) := hw
    exact Value.long.inj hw
  have h7 := k157.mp (hF.2 _ (List.mem_cons_of_mem _ (List.mem_cons_of_mem _ (List.mem_cons_of_mem _ (List.mem_cons_of_mem _ (List.mem_cons_of_mem _ (List.mem_cons_of_mem _ (List.mem_cons_of_mem _ (List.mem_cons_of_mem _ (List.mem_cons_of_mem _ (List.mem_cons_self)))))))))))
  have h8 := k158.mp (hF.2 _ (List.mem_cons_of_mem _ (List.mem_cons_of_mem _ (List.mem_cons_of_mem _ (List.mem_cons_of_mem _ (List.mem_cons_of_mem _ (List.mem_cons_of_mem _ (List.mem_cons_of_mem _ (List.mem_cons_of_mem _ (List.mem_cons_of_mem _ (List.mem_cons_of_mem _ (List.mem_cons_self))))))))))))
  have h5 := k155.mp (hF.2 _ (List.mem_cons_of_mem _ (List.mem_cons_of_mem _ (List.mem_cons_of_mem _ (List.mem_cons_of_mem _ (List.mem_cons_of_mem _ (List.mem_cons_of_mem _ (List.mem_cons_of_mem _ (List.mem_cons_of_mem _ (List.mem_cons_of_mem _ (List.mem_cons_of_mem _ (List.mem_cons_of_mem _ (List.mem_cons_self)))))))))))))
  obtain ⟨v0, v4⟩ := ev_m4 (m := 55) (by decide) (h5 55 (by decide))
  have en : ρ.1 60000 = (ρ.2.2.2.1 64353 55).toInt32 := of_decide_eq_true (hF.2 _ (List.mem_cons_of_mem _ (List.mem_cons_of_mem _ (List.mem_cons_of_mem _ (List.mem_cons_of_mem _ (List.mem_cons_of_mem _ (List.mem_cons_of_mem _ (List.mem_cons_of_mem _ (List.mem_cons_of_mem _ (List.mem_cons_self))))))))))
  have hc : (0 : Int) = amcode (ρ.2.2.2.1 64353) 55 (ρ.1 60000).toInt.toNat := of_decide_eq_true (hF.2 _ (List.mem_cons_of_mem _ (List.mem_cons_of_mem _ (List.mem_cons_of_mem _ (List.mem_cons_of_mem _ (List.mem_cons_of_mem _ (List.mem_cons_of_mem _ (List.mem_cons_of_mem _ (List.mem_cons_self)))))))))
  rw [en, mv_l v0 (by omega)] at hc
  have eA : ρ3.2.2.2.1 64321 = ρ.2.2.2.1 64321 := funext hA
  have eB : ρ3.2.2.2.1 64353 = ρ.2.2.2.1 64353 := funext hB
  have x7 : sc X ρ3 (157, .add (.elem (.arg 64321) (.int 0)) (.add (.elem (.arg 64353) (.int 0)) (.arg 1308)), .int 8) = true := k157.mpr (by rw [eA, eB, eD]; exact h7)
  have x8 : sc X ρ3 (158, .elem (.arg 64353) (.int 0), .int 3) = true := k158.mpr (by rw [eB]; exact ampm_t (K := 2) (m := 55) rfl h8 hc.symm)
  have x5 : sc X ρ3 (155, .elem (.arg 64353) (.int 0), .int 0) = true := k155.mpr (by rw [eB]; exact h5)
  have lg60129 : ρ3.2.1 60129 = ρ.2.1 60129 := (m4.1 60129 (by decide) (by decide)).2.trans (k4.1 60129 (by decide) (by decide)).2.symm
  have lg60065 : ρ3.2.1 60065 = ρ.2.1 60065 := (m4.1 60065 (by decide) (by decide)).2.trans (k4.1 60065 (by decide) (by decide)).2.symm
  have lg60097 : ρ3.2.1 60097 = ρ.2.1 60097 := (m4.1 60097 (by decide) (by decide)).2.trans (k4.1 60097 (by decide) (by decide)).2.symm
  have z1 : sc X ρ3 (6, .elem (.arg 64321) (.int 1), .arg 60129) = true := decide_eq_true (show ρ3.2.2.2.1 64321 1 = ρ3.2.1 60129 by
    rw [hA, lg60129]
    exact of_decide_eq_true (hF.2 _ (List.mem_cons_of_mem _ (List.mem_cons_of_mem _ (List.mem_cons_of_mem _ (List.mem_cons_of_mem _ (List.mem_cons_of_mem _ (List.mem_cons_of_mem _ (List.mem_cons_of_mem _ (List.mem_cons_of_mem _ (List.mem_cons_of_mem _ (List.mem_cons_of_mem _ (List.mem_cons_of_mem _ (List.mem_cons_of_mem _ (List.mem_cons_self)))))))))))))))
  have z2 : sc X ρ3 (6, .elem (.arg 64353) (.int 114), .arg 60065) = true := decide_eq_true (show ρ3.2.2.2.1 64353 114 = ρ3.2.1 60065 by
    rw [hB, lg60065]
    exact of_decide_eq_true (hF.2 _ (List.mem_cons_of_mem _ (List.mem_cons_of_mem _ (List.mem_cons_of_mem _ (List.mem_cons_of_mem _ (List.mem_cons_of_mem _ (List.mem_cons_of_mem _ (List.mem_cons_of_mem _ (List.mem_cons_of_mem _ (List.mem_cons_of_mem _ (List.mem_cons_of_mem _ (List.mem_cons_of_mem _ (List.mem_cons_of_mem _ (List.mem_cons_of_mem _ (List.mem_cons_self))))))))))))))))
  have z3 : sc X ρ3 (6, .elem (.arg 64353) (.int 123), .arg 60097) = true := decide_eq_true (show ρ3.2.2.2.1 64353 123 = ρ3.2.1 60097 by
    rw [hB, lg60097]
    exact of_decide_eq_true (hF.2 _ (List.mem_cons_of_mem _ (List.mem_cons_of_mem _ (List.mem_cons_of_mem _ (List.mem_cons_of_mem _ (List.mem_cons_of_mem _ (List.mem_cons_of_mem _ (List.mem_cons_of_mem _ (List.mem_cons_of_mem _ (List.mem_cons_of_mem _ (List.mem_cons_of_mem _ (List.mem_cons_of_mem _ (List.mem_cons_of_mem _ (List.mem_cons_of_mem _ (List.mem_cons_of_mem _ (List.mem_cons_self)))))))))))))))))
  exact t_omm3 hv ρ3 m1 ⟨m2.1, fcn (x7) (fcn (x8) (fcn (x5) (fcn (z1) (fcn (z2) (fcn (z3) (m2.2))))))⟩ m3 m4)))
noncomputable def q_oma2n : sCut := ((fr 0 95 34 [(0, tr 75), (1, .int 90), (2, .int 3)] [], [fr 0 93 73 [(0, tr 75)] [], fr 0 60 30 [(0, tr 39), (1, .int 0)] [], fBot], 11), (fr 0 298 9 [(0, tr 219), (1, .arg 1308), (2, .int 5633)] [.arg 60000, .int 5633, .arg 1308, tr 219], [fr 0 297 75 [(0, tr 219), (1, .arg 1308), (5, .int 1)] [], fr 0 300 36 [(0, tr 219), (1, .arg 1308)] [], fBot], 11), [zf98zzzp_57, zf98zzzp_58, zf98zzzp_59, zf98zzzp_60, zf98zzzp_61, zf98zzzp_25, zf98zzzp_26, ((139, .add (.elem (.arg 64353) (.int 0)) (.add (.int 55) (.arg 60000)), .int 100925505), true), zf98zzzp_55, zf98zzzp_15, zf98zzzp_56, zf98zzzp_17, zf98zzzp_2, zf98zzzp_3, zf98zzzp_4, zf98zzzp_5, ((0, .arg 1702, .int 0), true), ((0, .arg 3360, .int 0), true), ((0, .arg 1350, .int 0), true), ((0, .arg 1826, .int 0), true), zf98zzzp_6, zf98zzzp_14], i_bz)
noncomputable def w_oma2n : List (sCut × List (Nat × sT) × List (Nat × sT × List (sT × sT))) := [(q_omm3T, [], [(64321, .arg 64321, []), (64353, .arg 64353, [(.int 59, .long 0), (.int 58, .long 0), (.int 57, .long 0), (.int 56, .long 0), (.int 55, .long 0)])])]
theorem k_oma2n : cbody kR [(zWP, c_fndl), (zWB, c_mmn)] (cpl1 zWB c_bn0 [q_omm3T]) (cpl2 zWB c_bn0 [q_omm3T]) (cleafB kR zWB c_bn0 w_oma2n) 700 false false q_oma2n.2.2.1 q_oma2n.2.2.2 (cst zWB c_bn0.2.2.1.1 q_oma2n.1) (cst zWB c_bn0.2.2.1.2 q_oma2n.2.1) = true := by decide +kernel
theorem t_oma2n {X : pX} {ρ0 : sR} (hv : vok X ρ0) : CUTOK X kR zWB c_bn0 13 ρ0 q_oma2n := CUTOK_AT (fun ρ k1 hF hI k4 => AT_of (q := q_oma2n) rfl rfl (SEM_runB kR_x kR_0 (Cs := [(zWP, c_fndl), (zWB, c_mmn)]) (fun C hC => by
    simp only [List.mem_cons, List.not_mem_nil, or_false] at hC
    rcases hC with hC | hC
    · rw [hC]; exact s_fndl
    · rw [hC]; exact s_mmn) c_bn0_f (Q := w_oma2n) hv 700 (b1 := false) (b2 := false) k_oma2n k1 hF hI k4 (fun p hp ρ3 m1 m2 m3 m4 m5 m6 => by
  rw [List.mem_singleton.mp hp] at m2 m3 m5 m6 ⊢
  have eD : ρ3.1 1308 = ρ.1 1308 := (m4.1 1308 (by decide) (by decide)).1.trans (k4.1 1308 (by decide) (by decide)).1.symm
  obtain ⟨d0, d4⟩ := d_r hF.1
  have hA : ∀ j, ρ3.2.2.2.1 64321 j = ρ.2.2.2.1 64321 j := fun j => by
    have hw := m6 (64321, .arg 64321, []) (List.mem_cons_self) j
    have hw : Value.long (ρ3.2.2.2.1 64321 j) = Value.long (ρ.2.2.2.1 64321 j) := hw
    exact Value.long.inj hw
  obtain ⟨hBn, hBf⟩ := fiv_w (f := ρ.2.2.2.1 64353) (g := ρ3.2.2.2.1 64353) (m := 55) (d := (ρ.1 1308).toInt) (v0 := 0) (v1 := 0) (v2 := 0) (v3 := 0) (v4 := 0) (fun j => m6 (64353, .arg 64353, [(.int 59, .long 0), (.int 58, .long 0), (.int 57, .long 0), (.int 56, .long 0), (.int 55, .long 0)]) (List.mem_cons_of_mem _ (List.mem_cons_self)) j) (amw_55 d0 d4 (i := 0) (by decide)) (amw_55 d0 d4 (i := 1) (by decide)) (amw_55 d0 d4 (i := 2) (by decide)) (amw_55 d0 d4 (i := 3) (by decide)) (amw_55 d0 d4 (i := 4) (by decide))
  have h7 := k157.mp (hF.2 _ (List.mem_cons_of_mem _ (List.mem_cons_of_mem _ (List.mem_cons_of_mem _ (List.mem_cons_of_mem _ (List.mem_cons_of_mem _ (List.mem_cons_of_mem _ (List.mem_cons_of_mem _ (List.mem_cons_of_mem _ (List.mem_cons_of_mem _ (List.mem_cons_self)))))))))))
  have h8 := k158.mp (hF.2 _ (List.mem_cons_of_mem _ (List.mem_cons_of_mem _ (List.mem_cons_of_mem _ (List.mem_cons_of_mem _ (List.mem_cons_of_mem _ (List.mem_cons_of_mem _ (List.mem_cons_of_mem _ (List.mem_cons_of_mem _ (List.mem_cons_of_mem _ (List.mem_cons_of_mem _ (List.mem_cons_self))))))))))))
  have h5 := k155.mp (hF.2 _ (List.mem_cons_of_mem _ (List.mem_cons_of_mem _ (List.mem_cons_of_mem _ (List.mem_cons_of_mem _ (List.mem_cons_of_mem _ (List.mem_cons_of_mem _ (List.mem_cons_of_mem _ (List.mem_cons_of_mem _ (List.mem_cons_of_mem _ (List.mem_cons_of_mem _ (List.mem_cons_of_mem _ (List.mem_cons_self)))))))))))))
  obtain ⟨v0, v4⟩ := ev_m4 (m := 55) (by decide) (h5 55 (by decide))
  have en : ρ.1 60000 = (ρ.2.2.2.1 64353 55).toInt32 := of_decide_eq_true (hF.2 _ (List.mem_cons_of_mem _ (List.mem_cons_of_mem _ (List.mem_cons_of_mem _ (List.mem_cons_of_mem _ (List.mem_cons_of_mem _ (List.mem_cons_of_mem _ (List.mem_cons_of_mem _ (List.mem_cons_of_mem _ (List.mem_cons_self))))))))))
  have hc : (100925505 : Int) = amcode (ρ.2.2.2.1 64353) 55 (ρ.1 60000).toInt.toNat := of_decide_eq_true (hF.2 _ (List.mem_cons_of_mem _ (List.mem_cons_of_mem _ (List.mem_cons_of_mem _ (List.mem_cons_of_mem _ (List.mem_cons_of_mem _ (List.mem_cons_of_mem _ (List.mem_cons_of_mem _ (List.mem_cons_self)))))))))
  rw [en, mv_l v0 (by omega)] at hc
  have hm : 55 ∈ amps := by decide
  have hn : ¬ amcode (ρ.2.2.2.1 64353) 55 (ρ.2.2.2.1 64353 55).toInt.toNat = 0 := by rw [← hc]; decide
  have eA : ρ3.2.2.2.1 64321 = ρ.2.2.2.1 64321 := funext hA
  have x7 : sc X ρ3 (157, .add (.elem (.arg 64321) (.int 0)) (.add (.elem (.arg 64353) (.int 0)) (.arg 1308)), .int 8) = true := k157.mpr (by rw [eA, eD]; exact amn_m d0 d4 hm h7 h5 hn (fun j _ hj => hBn j hj) hBf)
  have x8 : sc X ρ3 (158, .elem (.arg 64353) (.int 0), .int 3) = true := k158.mpr (ampm_t (K := 2) (m := 55) rfl (fun x hx => by
    have hx2 : x ∈ amps := of_decide_eq_true (List.all_eq_true.mp ampm_i x (List.mem_of_mem_take hx))
    by_cases e : x = 55
    · rw [e]; exact amf_0 d0 d4 hm hBf
    · rw [amo_c hm hx2 e h5 (fun j _ hj => hBn j hj)]; exact h8 x hx) (amf_0 d0 d4 hm hBf))
  have x5 : sc X ρ3 (155, .elem (.arg 64353) (.int 0), .int 0) = true := k155.mpr (fun j hj => by
    by_cases hi : 55 ≤ j ∧ j < 55 + 5
    · rw [hBf j hi.1 hi.2]; exact evf_k d0 d4 hj
    · rw [hBn j hi]; exact h5 j hj)
  have lg60129 : ρ3.2.1 60129 = ρ.2.1 60129 := (m4.1 60129 (by decide) (by decide)).2.trans (k4.1 60129 (by decide) (by decide)).2.symm
  have lg60065 : ρ3.2.1 60065 = ρ.2.1 60065 := (m4.1 60065 (by decide) (by decide)).2.trans (k4.1 60065 (by decide) (by decide)).2.symm
  have lg60097 : ρ3.2.1 60097 = ρ.2.1 60097 := (m4.1 60097 (by decide) (by decide)).2.trans (k4.1 60097 (by decide) (by decide)).2.symm
  have z1 : sc X ρ3 (6, .elem (.arg 64321) (.int 1), .arg 60129) = true := decide_eq_true (show ρ3.2.2.2.1 64321 1 = ρ3.2.1 60129 by
    rw [hA, lg60129]
    exact of_decide_eq_true (hF.2 _ (List.mem_cons_of_mem _ (List.mem_cons_of_mem _ (List.mem_cons_of_mem _ (List.mem_cons_of_mem _ (List.mem_cons_of_mem _ (List.mem_cons_of_mem _ (List.mem_cons_of_mem _ (List.mem_cons_of_mem _ (List.mem_cons_of_mem _ (List.mem_cons_of_mem _ (List.mem_cons_of_mem _ (List.mem_cons_of_mem _ (List.mem_cons_self)))))))))))))))
  have z2 : sc X ρ3 (6, .elem (.arg 64353) (.int 114), .arg 60065) = true := decide_eq_true (show ρ3.2.2.2.1 64353 114 = ρ3.2.1 60065 by
    rw [hBn 114 (by decide), lg60065]
    exact of_decide_eq_true (hF.2 _ (List.mem_cons_of_mem _ (List.mem_cons_of_mem _ (List.mem_cons_of_mem _ (List.mem_cons_of_mem _ (List.mem_cons_of_mem _ (List.mem_cons_of_mem _ (List.mem_cons_of_mem _ (List.mem_cons_of_mem _ (List.mem_cons_of_mem _ (List.mem_cons_of_mem _ (List.mem_cons_of_mem _ (List.mem_cons_of_mem _ (List.mem_cons_of_mem _ (List.mem_cons_self))))))))))))))))
  have z3 : sc X ρ3 (6, .elem (.arg 64353) (.int 123), .arg 60097) = true := decide_eq_true (show ρ3.2.2.2.1 64353 123 = ρ3.2.1 60097 by
    rw [hBn 123 (by decide), lg60097]
    exact of_decide_eq_true (hF.2 _ (List.mem_cons_of_mem _ (List.mem_cons_of_mem _ (List.mem_cons_of_mem _ (List.mem_cons_of_mem _ (List.mem_cons_of_mem _ (List.mem_cons_of_mem _ (List.mem_cons_of_mem _ (List.mem_cons_of_mem _ (List.mem_cons_of_mem _ (List.mem_cons_of_mem _ (List.mem_cons_of_mem _ (List.mem_cons_of_mem _ (List.mem_cons_of_mem _ (List.mem_cons_of_mem _ (List.mem_cons_self)))))))))))))))))
  exact t_omm3 hv ρ3 m1 ⟨m2.1, fcn (x7) (fcn (x8) (fcn (x5) (fcn (z1) (fcn (z2) (fcn (z3) (m2.2))))))⟩ m3 m4)))
noncomputable def q_oma2l : sCut := ((fr 0 95 34 [(0, tr 75), (1, .int 90), (2, .int 3)] [], [fr 0 93 73 [(0, tr 75)] [], fr 0 60 30 [(0, tr 39), (1, .int 0)] [], fBot], 11), (fr 0 298 9 [(0, tr 219), (1, .arg 1308), (2, .int 5633)] [.arg 60000, .int 5633, .arg 1308, tr 219], [fr 0 297 75 [(0, tr 219), (1, .arg 1308), (5, .int 1)] [], fr 0 300 36 [(0, tr 219), (1, .arg 1308)] [], fBot], 11), [zf98zzzp_57, zf98zzzp_58, zf98zzzp_59, zf98zzzp_60, zf98zzzp_61, zf98zzzp_25, zf98zzzp_26, ((139, .add (.elem (.arg 64353) (.int 0)) (.add (.int 55) (.arg 60000)), .int 100925506), true), zf98zzzp_55, zf98zzzp_15, zf98zzzp_56, zf98zzzp_17, zf98zzzp_2, zf98zzzp_3, zf98zzzp_4, zf98zzzp_5, ((0, .arg 1702, .int 0), true), ((0, .arg 3360, .int 0), true), ((0, .arg 1350, .int 0), true), ((0, .arg 1826, .int 0), true), zf98zzzp_6, zf98zzzp_14], i_bz)
noncomputable def w_oma2l : List (sCut × List (Nat × sT) × List (Nat × sT × List (sT × sT))) := [(q_omm3T, [], [(64321, .arg 64321, []), (64353, .arg 64353, [(.int 59, .long 0), (.int 58, .long 0), (.int 57, .long 0), (.int 56, .long 0), (.int 55, .long 0)])])]
theorem k_oma2l : cbody kR [(zWP, c_fndl), (zWB, c_mml)] (cpl1 zWB c_bn0 [q_omm3T]) (cpl2 zWB c_bn0 [q_omm3T]) (cleafB kR zWB c_bn0 w_oma2l) 700 false false q_oma2l.2.2.1 q_oma2l.2.2.2 (cst zWB c_bn0.2.2.1.1 q_oma2l.1) (cst zWB c_bn0.2.2.1.2 q_oma2l.2.1) = true := by decide +kernel
theorem t_oma2l {X : pX} {ρ0 : sR} (hv : vok X ρ0) : CUTOK X kR zWB c_bn0 13 ρ0 q_oma2l := CUTOK_AT (fun ρ k1 hF hI k4 => AT_of (q := q_oma2l) rfl rfl (SEM_runB kR_x kR_0 (Cs := [(zWP, c_fndl), (zWB, c_mml)]) (fun C hC => by
    simp only [List.mem_cons, List.not_mem_nil, or_false] at hC
    rcases hC with hC | hC
    · rw [hC]; exact s_fndl
    · rw [hC]; exact s_mml) c_bn0_f (Q := w_oma2l) hv 700 (b1 := false) (b2 := false) k_oma2l k1 hF hI k4 (fun p hp ρ3 m1 m2 m3 m4 m5 m6 => by
  rw [List.mem_singleton.mp hp] at m2 m3 m5 m6 ⊢
  have eD : ρ3.1 1308 = ρ.1 1308 := (m4.1 1308 (by decide) (by decide)).1.trans (k4.1 1308 (by decide) (by decide)).1.symm
  obtain ⟨d0, d4⟩ := d_r hF.1
  have hA : ∀ j, ρ3.2.2.2.1 64321 j = ρ.2.2.2.1 64321 j := fun j => by
    have hw := m6 (64321, .arg 64321, []) (List.mem_cons_self) j
    have hw : Value.long (ρ3.2.2.2.1 64321 j) = Value.long (ρ.2.2.2.1 64321 j) := hw
    exact Value.long.inj hw
  obtain ⟨hBn, hBf⟩ := fiv_w (f := ρ.2.2.2.1 64353) (g := ρ3.2.2.2.1 64353) (m := 55) (d := (ρ.1 1308).toInt) (v0 := 0) (v1 := 0) (v2 := 0) (v3 := 0) (v4 := 0) (fun j => m6 (64353, .arg 64353, [(.int 59, .long 0), (.int 58, .long 0), (.int 57, .long 0), (.int 56, .long 0), (.int 55, .long 0)]) (List.mem_cons_of_mem _ (List.mem_cons_self)) j) (amw_55 d0 d4 (i := 0) (by decide)) (amw_55 d0 d4 (i := 1) (by decide)) (amw_55 d0 d4 (i := 2) (by decide)) (amw_55 d0 d4 (i := 3) (by decide)) (amw_55 d0 d4 (i := 4) (by decide))
  have h7 := k157.mp (hF.2 _ (List.mem_cons_of_mem _ (List.mem_cons_of_mem _ (List.mem_cons_of_mem _ (List.mem_cons_of_mem _ (List.mem_cons_of_mem _ (List.mem_cons_of_mem _ (List.mem_cons_of_mem _ (List.mem_cons_of_mem _ (List.mem_cons_of_mem _ (List.mem_cons_self)))))))))))
  have h8 := k158.mp (hF.2 _ (List.mem_cons_of_mem _ (List.mem_cons_of_mem _ (List.mem_cons_of_mem _ (List.mem_cons_of_mem _ (List.mem_cons_of_mem _ (List.mem_cons_of_mem _ (List.mem_cons_of_mem _ (List.mem_cons_of_mem _ (List.mem_cons_of_mem _ (List.mem_cons_of_mem _ (List.mem_cons_self))))))))))))
  have h5 := k155.mp (hF.2 _ (List.mem_cons_of_mem _ (List.mem_cons_of_mem _ (List.mem_cons_of_mem _ (List.mem_cons_of_mem _ (List.mem_cons_of_mem _ (List.mem_cons_of_mem _ (List.mem_cons_of_mem _ (List.mem_cons_of_mem _ (List.mem_cons_of_mem _ (List.mem_cons_of_mem _ (List.mem_cons_of_mem _ (List.mem_cons_self)))))))))))))
  obtain ⟨v0, v4⟩ := ev_m4 (m := 55) (by decide) (h5 55 (by decide))
  have en : ρ.1 60000 = (ρ.2.2.2.1 64353 55).toInt32 := of_decide_eq_true (hF.2 _ (List.mem_cons_of_mem _ (List.mem_cons_of_mem _ (List.mem_cons_of_mem _ (List.mem_cons_of_mem _ (List.mem_cons_of_mem _ (List.mem_cons_of_mem _ (List.mem_cons_of_mem _ (List.mem_cons_of_mem _ (List.mem_cons_self))))))))))
  have hc : (100925506 : Int) = amcode (ρ.2.2.2.1 64353) 55 (ρ.1 60000).toInt.toNat := of_decide_eq_true (hF.2 _ (List.mem_cons_of_mem _ (List.mem_cons_of_mem _ (List.mem_cons_of_mem _ (List.mem_cons_of_mem _ (List.mem_cons_of_mem _ (List.mem_cons_of_mem _ (List.mem_cons_of_mem _ (List.mem_cons_self)))))))))
  rw [en, mv_l v0 (by omega)] at hc
  have hm : 55 ∈ amps := by decide
  have hn : ¬ amcode (ρ.2.2.2.1 64353) 55 (ρ.2.2.2.1 64353 55).toInt.toNat = 0 := by rw [← hc]; decide
  have eA : ρ3.2.2.2.1 64321 = ρ.2.2.2.1 64321 := funext hA
  have x7 : sc X ρ3 (157, .add (.elem (.arg 64321) (.int 0)) (.add (.elem (.arg 64353) (.int 0)) (.arg 1308)), .int 8) = true := k157.mpr (by rw [eA, eD]; exact amn_m d0 d4 hm h7 h5 hn (fun j _ hj => hBn j hj) hBf)
  have x8 : sc X ρ3 (158, .elem (.arg 64353) (.int 0), .int 3) = true := k158.mpr (ampm_t (K := 2) (m := 55) rfl (fun x hx => by
    have hx2 : x ∈ amps := of_decide_eq_true (List.all_eq_true.mp ampm_i x (List.mem_of_mem_take hx))
    by_cases e : x = 55
    · rw [e]; exact amf_0 d0 d4 hm hBf
    · rw [amo_c hm hx2 e h5 (fun j _ hj => hBn j hj)]; exact h8 x hx) (amf_0 d0 d4 hm hBf))
  have x5 : sc X ρ3 (155, .elem (.arg 64353) (.int 0), .int 0) = true := k155.mpr (fun j hj => by
    by_cases hi : 55 ≤ j ∧ j < 55 + 5
    · rw [hBf j hi.1 hi.2]; exact evf_k d0 d4 hj
    · rw [hBn j hi]; exact h5 j hj)
  have lg60129 : ρ3.2.1 60129 = ρ.2.1 60129 := (m4.1 60129 (by decide) (by decide)).2.trans (k4.1 60129 (by decide) (by decide)).2.symm
  have lg60065 : ρ3.2.1 60065 = ρ.2.1 60065 := (m4.1 60065 (by decide) (by decide)).2.trans (k4.1 60065 (by decide) (by decide)).2.symm
  have lg60097 : ρ3.2.1 60097 = ρ.2.1 60097 := (m4.1 60097 (by decide) (by decide)).2.trans (k4.1 60097 (by decide) (by decide)).2.symm
  have z1 : sc X ρ3 (6, .elem (.arg 64321) (.int 1), .arg 60129) = true := decide_eq_true (show ρ3.2.2.2.1 64321 1 = ρ3.2.1 60129 by
    rw [hA, lg60129]
    exact of_decide_eq_true (hF.2 _ (List.mem_cons_of_mem _ (List.mem_cons_of_mem _ (List.mem_cons_of_mem _ (List.mem_cons_of_mem _ (List.mem_cons_of_mem _ (List.mem_cons_of_mem _ (List.mem_cons_of_mem _ (List.mem_cons_of_mem _ (List.mem_cons_of_mem _ (List.mem_cons_of_mem _ (List.mem_cons_of_mem _ (List.mem_cons_of_mem _ (List.mem_cons_self)))))))))))))))
  have z2 : sc X ρ3 (6, .elem (.arg 64353) (.int 114), .arg 60065) = true := decide_eq_true (show ρ3.2.2.2.1 64353 114 = ρ3.2.1 60065 by
    rw [hBn 114 (by decide), lg60065]
    exact of_decide_eq_true (hF.2 _ (List.mem_cons_of_mem _ (List.mem_cons_of_mem _ (List.mem_cons_of_mem _ (List.mem_cons_of_mem _ (List.mem_cons_of_mem _ (List.mem_cons_of_mem _ (List.mem_cons_of_mem _ (List.mem_cons_of_mem _ (List.mem_cons_of_mem _ (List.mem_cons_of_mem _ (List.mem_cons_of_mem _ (List.mem_cons_of_mem _ (List.mem_cons_of_mem _ (List.mem_cons_self))))))))))))))))
  have z3 : sc X ρ3 (6, .elem (.arg 64353) (.int 123), .arg 60097) = true := decide_eq_true (show ρ3.2.2.2.1 64353 123 = ρ3.2.1 60097 by
    rw [hBn 123 (by decide), lg60097]
    exact of_decide_eq_true (hF.2 _ (List.mem_cons_of_mem _ (List.mem_cons_of_mem _ (List.mem_cons_of_mem _ (List.mem_cons_of_mem _ (List.mem_cons_of_mem _ (List.mem_cons_of_mem _ (List.mem_cons_of_mem _ (List.mem_cons_of_mem _ (List.mem_cons_of_mem _ (List.mem_cons_of_mem _ (List.mem_cons_of_mem _ (List.mem_cons_of_mem _ (List.mem_cons_of_mem _ (List.mem_cons_of_mem _ (List.mem_cons_self)))))))))))))))))
  exact t_omm3 hv ρ3 m1 ⟨m2.1, fcn (x7) (fcn (x8) (fcn (x5) (fcn (z1) (fcn (z2) (fcn (z3) (m2.2))))))⟩ m3 m4)))
theorem t_oma2 {X : pX} {ρ0 : sR} (hv : vok X ρ0) : CUTOK X kR zWB c_bn0 13 ρ0 q_oma2 := fun ρ k1 hF hI k4 => by
  have h5 := k155.mp (hF.2 _ (List.mem_cons_of_mem _ (List.mem_cons_of_mem _ (List.mem_cons_of_mem _ (List.mem_cons_self)))))
  obtain ⟨v0, v4⟩ := ev_m4 (m := 55) (by decide) (h5 55 (by decide))
  have f0 := s9_n (X := X) (ρ := ρ) (ix := 5633) (s := 0) (p := 55) (by decide +kernel)
  have f1 := s9_n (X := X) (ρ := ρ) (ix := 5633) (s := 1) (p := 56) (by decide +kernel)
  have f2 := s9_n (X := X) (ρ := ρ) (ix := 5633) (s := 2) (p := 57) (by decide +kernel)
  have f3 := s9_n (X := X) (ρ := ρ) (ix := 5633) (s := 3) (p := 58) (by decide +kernel)
  have f4 := s9_n (X := X) (ρ := ρ) (ix := 5633) (s := 4) (p := 59) (by decide +kernel)
  have en : ρ.1 60000 = (ρ.2.2.2.1 64353 55).toInt32 := of_decide_eq_true (hF.2 _ (List.mem_cons_self))
  have ev : (ρ.1 60000).toInt = (ρ.2.2.2.1 64353 55).toInt := by rw [en]; exact mv_l v0 (by omega)
  rcases am_3 (g := ρ.2.2.2.1 64353) (m := 55) (n := (ρ.1 60000).toInt.toNat) with h | h | h
  · exact t_oma2o hv ρ k1 ⟨hF.1, fcn (f0) (fcn (f1) (fcn (f2) (fcn (f3) (fcn (f4) (fcn (di_lf (x := ρ.1 60000) (y := 0) (by rw [ev]; show (0 : Int) ≤ _; exact v0)) (fcn (di_lf (x := 4) (y := ρ.1 60000) (by rw [ev]; show _ ≤ (4 : Int); exact v4)) (fcn (decide_eq_true (show (0 : Int) = amcode (ρ.2.2.2.1 64353) 55 (ρ.1 60000).toInt.toNat from h.symm)) (hF.2))))))))⟩ hI k4
  · exact t_oma2n hv ρ k1 ⟨hF.1, fcn (f0) (fcn (f1) (fcn (f2) (fcn (f3) (fcn (f4) (fcn (di_lf (x := ρ.1 60000) (y := 0) (by rw [ev]; show (0 : Int) ≤ _; exact v0)) (fcn (di_lf (x := 4) (y := ρ.1 60000) (by rw [ev]; show _ ≤ (4 : Int); exact v4)) (fcn (decide_eq_true (show (100925505 : Int) = amcode (ρ.2.2.2.1 64353) 55 (ρ.1 60000).toInt.toNat from h.symm)) (hF.2))))))))⟩ hI k4
  · exact t_oma2l hv ρ k1 ⟨hF.1, fcn (f0) (fcn (f1) (fcn (f2) (fcn (f3) (fcn (f4) (fcn (di_lf (x := ρ.1 60000) (y := 0) (by rw [ev]; show (0 : Int) ≤ _; exact v0)) (fcn (di_lf (x := 4) (y := ρ.1 60000) (by rw [ev]; show _ ≤ (4 : Int); exact v4)) (fcn (decide_eq_true (show (100925506 : Int) = amcode (ρ.2.2.2.1 64353) 55 (ρ.1 60000).toInt.toNat from h.symm)) (hF.2))))))))⟩ hI k4
noncomputable def q_omm2 : sCut := ((fr 0 95 34 [(0, tr 75), (1, .int 90), (2, .int 3)] [], [fr 0 93 73 [(0, tr 75)] [], fr 0 60 30 [(0, tr 39), (1, .int 0)] [], fBot], 11), (fr 0 297 81 [(0, tr 219), (1, .arg 1308), (5, .int 0)] [], [fr 0 300 36 [(0, tr 219), (1, .arg 1308)] [], fBot], 12), [zf98zzzp_15, zf98zzzp_56, zf98zzzp_17, zf98zzzp_2, zf98zzzp_3, zf98zzzp_4, zf98zzzp_5, ((0, .arg 1702, .int 0), true), ((0, .arg 3360, .int 0), true), ((0, .arg 1350, .int 0), true), ((0, .arg 1826, .int 0), true), zf98zzzp_6, zf98zzzp_14], i_bz)
noncomputable def q_omm2g : sCut := ((fr 0 95 34 [(0, tr 75), (1, .int 90), (2, .int 3)] [], [fr 0 93 73 [(0, tr 75)] [], fr 0 60 30 [(0, tr 39), (1, .int 0)] [], fBot], 11), (fr 0 297 81 [(0, tr 219), (1, .arg 1308), (5, .int 0)] [], [fr 0 300 36 [(0, tr 219), (1, .arg 1308)] [], fBot], 12), [zf98zzzp_57, zf98zzzp_15, zf98zzzp_56, zf98zzzp_17, zf98zzzp_2, zf98zzzp_3, zf98zzzp_4, zf98zzzp_5, ((0, .arg 1702, .int 0), true), ((0, .arg 3360, .int 0), true), ((0, .arg 1350, .int 0), true), ((0, .arg 1826, .int 0), true), zf98zzzp_6, zf98zzzp_14], i_bz)
theorem k_omm2g : cbody kR [(zWP, c_fndl)] (cpl1 zWB c_bn0 [q_oma2]) (cpl2 zWB c_bn0 [q_oma2]) (cleaf kR zWB c_bn0 [q_oma2]) 200 false true q_omm2g.2.2.1 q_omm2g.2.2.2 (cst zWB c_bn0.2.2.1.1 q_omm2g.1) (cst zWB c_bn0.2.2.1.2 q_omm2g.2.1) = true := by decide +kernel
theorem t_omm2g {X : pX} {ρ0 : sR} (hv : vok X ρ0) : CUTOK X kR zWB c_bn0 13 ρ0 q_omm2g := CUT_run kR_x kR_0 (Cs := [(zWP, c_fndl)]) (fun C hC => by rw [List.mem_singleton.mp hC]; exact s_fndl) c_bn0_f (Q := [q_oma2]) hv (fun q hq => by
    simp only [List.mem_cons, List.not_mem_nil, or_false] at hq
    rw [hq]; exact t_oma2 hv) 200 (b1 := false) (b2 := true) k_omm2g
theorem t_omm2 {X : pX} {ρ0 : sR} (hv : vok X ρ0) : CUTOK X kR zWB c_bn0 13 ρ0 q_omm2 := fun ρ k1 hF hI k4 => by
  exact t_omm2g hv ρ k1 ⟨hF.1, fcn (s9_n (X := X) (ρ := ρ) (ix := 5633) (s := 0) (p := 55) (by decide +kernel)) (hF.2)⟩ hI k4
noncomputable def zf98zzzp_62 : sQ × Bool := ((0, .arg 60000, .op1 .l2i (.elem (.arg 64353) (.int 90))), true)
noncomputable def zf98zzzp_63 : sQ × Bool := ((158, .elem (.arg 64353) (.int 0), .int 1), true)
noncomputable def q_oma1 : sCut := ((fr 0 95 34 [(0, tr 75), (1, .int 90), (2, .int 3)] [], [fr 0 93 73 [(0, tr 75)] [], fr 0 60 30 [(0, tr 39), (1, .int 0)] [], fBot], 11), (fr 0 298 9 [(0, tr 219), (1, .arg 1308), (2, .int 6656)] [.arg 60000, .int 6656, .arg 1308, tr 219], [fr 0 297 81 [(0, tr 219), (1, .arg 1308), (5, .int 0)] [], fr 0 300 36 [(0, tr 219), (1, .arg 1308)] [], fBot], 11), [zf98zzzp_62, zf98zzzp_15, zf98zzzp_63, zf98zzzp_17, zf98zzzp_2, zf98zzzp_3, zf98zzzp_4, zf98zzzp_5, ((0, .arg 1702, .int 0), true), ((0, .arg 3360, .int 0), true), ((0, .arg 1350, .int 0), true), ((0, .arg 1826, .int 0), true), zf98zzzp_6, zf98zzzp_14], i_bz)
noncomputable def zf98zzzp_64 : sQ × Bool := ((109, .add (.int 6656) (.int 0), .int 90), true)
noncomputable def zf98zzzp_65 : sQ × Bool := ((109, .add (.int 6656) (.int 1), .int 91), true)
noncomputable def zf98zzzp_66 : sQ × Bool := ((109, .add (.int 6656) (.int 2), .int 92), true)
noncomputable def zf98zzzp_67 : sQ × Bool := ((109, .add (.int 6656) (.int 3), .int 93), true)
noncomputable def zf98zzzp_68 : sQ × Bool := ((109, .add (.int 6656) (.int 4), .int 94), true)
noncomputable def q_oma1o : sCut := ((fr 0 95 34 [(0, tr 75), (1, .int 90), (2, .int 3)] [], [fr 0 93 73 [(0, tr 75)] [], fr 0 60 30 [(0, tr 39), (1, .int 0)] [], fBot], 11), (fr 0 298 9 [(0, tr 219), (1, .arg 1308), (2, .int 6656)] [.arg 60000, .int 6656, .arg 1308, tr 219], [fr 0 297 81 [(0, tr 219), (1, .arg 1308), (5, .int 0)] [], fr 0 300 36 [(0, tr 219), (1, .arg 1308)] [], fBot], 11), [zf98zzzp_64, zf98zzzp_65, zf98zzzp_66, zf98zzzp_67, zf98zzzp_68, zf98zzzp_25, zf98zzzp_26, ((139, .add (.elem (.arg 64353) (.int 0)) (.add (.int 90) (.arg 60000)), .int 0), true), zf98zzzp_62, zf98zzzp_15, zf98zzzp_63, zf98zzzp_17, zf98zzzp_2, zf98zzzp_3, zf98zzzp_4, zf98zzzp_5, ((0, .arg 1702, .int 0), true), ((0, .arg 3360, .int 0), true), ((0, .arg 1350, .int 0), true), ((0, .arg 1826, .int 0), true), zf98zzzp_6, zf98zzzp_14], i_bz)
noncomputable def w_oma1o : List (sCut × List (Nat × sT) × List (Nat × sT × List (sT × sT))) := [(q_omm2T, [], [(64321, .arg 64321, []), (64353, .arg 64353, [])])]
theorem k_oma1o : cbody kR [(zWP, c_fndl), (zWB, c_mmo)] (cpl1 zWB c_bn0 [q_omm2T]) (cpl2 zWB c_bn0 [q_omm2T]) (cleafB kR zWB c_bn0 w_oma1o) 700 false false q_oma1o.2.2.1 q_oma1o.2.2.2 (cst zWB c_bn0.2.2.1.1 q_oma1o.1) (cst zWB c_bn0.2.2.1.2 q_oma1o.2.1) = true := by decide +kernel
theorem t_oma1o {X : pX} {ρ0 : sR} (hv : vok X ρ0) : CUTOK X kR zWB c_bn0 13 ρ0 q_oma1o := CUTOK_AT (fun ρ k1 hF hI k4 => AT_of (q := q_oma1o) rfl rfl (SEM_runB kR_x kR_0 (Cs := [(zWP, c_fndl), (zWB, c_mmo)]) (fun C hC => by
    simp only [List.mem_cons, List.not_mem_nil, or_false] at hC
    rcases hC with hC | hC
    · rw [hC]; exact s_fndl
    · rw [hC]; exact s_mmo) c_bn0_f (Q := w_oma1o) hv 700 (b1 := false) (b2 := false) k_oma1o k1 hF hI k4 (fun p hp ρ3 m1 m2 m3 m4 m5 m6 => by
  rw [List.mem_singleton.mp hp] at m2 m3 m5 m6 ⊢
  have eD : ρ3.1 1308 = ρ.1 1308 := (m4.1 1308 (by decide) (by decide)).1.trans (k4.1 1308 (by decide) (by decide)).1.symm
  obtain ⟨d0, d4⟩ := d_r hF.1
  have hA : ∀ j, ρ3.2.2.2.1 64321 j = ρ.2.2.2.1 64321 j := fun j => by
    have hw := m6 (64321, .arg 64321, []) (List.mem_cons_self) j
    have hw : Value.long (ρ3.2.2.2.1 64321 j) = Value.long (ρ.2.2.2.1 64321 j) := hw
    exact Value.long.inj hw
  have hB : ∀ j, ρ3.2.2.2.1 64353 j = ρ.2.2.2.1 64353 j := fun j => by
    have hw := m6 (64353, .arg 64353, []) (List.mem_cons_of_mem _ (List.mem_cons_self)) j
    have hw : Value.long (ρ3.2.2.2.1 64353 j) = Value.long (ρ.2.2.2.1 64353 j) := hw
    exact Value.long.inj hw
  have h7 := k157.mp (hF.2 _ (List.mem_cons_of_mem _ (List.mem_cons_of_mem _ (List.mem_cons_of_mem _ (List.mem_cons_of_mem _ (List.mem_cons_of_mem _ (List.mem_cons_of_mem _ (List.mem_cons_of_mem _ (List.mem_cons_of_mem _ (List.mem_cons_of_mem _ (List.mem_cons_self)))))))))))
  have h8 := k158.mp (hF.2 _ (List.mem_cons_of_mem _ (List.mem_cons_of_mem _ (List.mem_cons_of_mem _ (List.mem_cons_of_mem _ (List.mem_cons_of_mem _ (List.mem_cons_of_mem _ (List.mem_cons_of_mem _ (List.mem_cons_of_mem _ (List.mem_cons_of_mem _ (List.mem_cons_of_mem _ (List.mem_cons_self))))))))))))
  have h5 := k155.mp (hF.2 _ (List.mem_cons_of_mem _ (List.mem_cons_of_mem _ (List.mem_cons_of_mem _ (List.mem_cons_of_mem _ (List.mem_cons_of_mem _ (List.mem_cons_of_mem _ (List.mem_cons_of_mem _ (List.mem_cons_of_mem _ (List.mem_cons_of_mem _ (List.mem_cons_of_mem _ (List.mem_cons_of_mem _ (List.mem_cons_self)))))))))))))
  obtain ⟨v0, v4⟩ := ev_m4 (m := 90) (by decide) (h5 90 (by decide))
  have en : ρ.1 60000 = (ρ.2.2.2.1 64353 90).toInt32 := of_decide_eq_true (hF.2 _ (List.mem_cons_of_mem _ (List.mem_cons_of_mem _ (List.mem_cons_of_mem _ (List.mem_cons_of_mem _ (List.mem_cons_of_mem _ (List.mem_cons_of_mem _ (List.mem_cons_of_mem _ (List.mem_cons_of_mem _ (List.mem_cons_self))))))))))
  have hc : (0 : Int) = amcode (ρ.2.2.2.1 64353) 90 (ρ.1 60000).toInt.toNat := of_decide_eq_true (hF.2 _ (List.mem_cons_of_mem _ (List.mem_cons_of_mem _ (List.mem_cons_of_mem _ (List.mem_cons_of_mem _ (List.mem_cons_of_mem _ (List.mem_cons_of_mem _ (List.mem_cons_of_mem _ (List.mem_cons_self)))))))))
  rw [en, mv_l v0 (by omega)] at hc
  have eA : ρ3.2.2.2.1 64321 = ρ.2.2.2.1 64321 := funext hA
  have eB : ρ3.2.2.2.1 64353 = ρ.2.2.2.1 64353 := funext hB
  have x7 : sc X ρ3 (157, .add (.elem (.arg 64321) (.int 0)) (.add (.elem (.arg 64353) (.int 0)) (.arg 1308)), .int 8) = true := k157.mpr (by rw [eA, eB, eD]; exact h7)
  have x8 : sc X ρ3 (158, .elem (.arg 64353) (.int 0), .int 2) = true := k158.mpr (by rw [eB]; exact ampm_t (K := 1) (m := 90) rfl h8 hc.symm)
  have x5 : sc X ρ3 (155, .elem (.arg 64353) (.int 0), .int 0) = true := k155.mpr (by rw [eB]; exact h5)
  have lg60129 : ρ3.2.1 60129 = ρ.2.1 60129 := (m4.1 60129 (by decide) (by decide)).2.trans (k4.1 60129 (by decide) (by decide)).2.symm
  have lg60065 : ρ3.2.1 60065 = ρ.2.1 60065 := (m4.1 60065 (by decide) (by decide)).2.trans (k4.1 60065 (by decide) (by decide)).2.symm
  have lg60097 : ρ3.2.1 60097 = ρ.2.1 60097 := (m4.1 60097 (by decide) (by decide)).2.trans (k4.1 60097 (by decide) (by decide)).2.symm
  have z1 : sc X ρ3 (6, .elem (.arg 64321) (.int 1), .arg 60129) = true := decide_eq_true (show ρ3.2.2.2.1 64321 1 = ρ3.2.1 60129 by
    rw [hA, lg60129]
    exact of_decide_eq_true (hF.2 _ (List.mem_cons_of_mem _ (List.mem_cons_of_mem _ (List.mem_cons_of_mem _ (List.mem_cons_of_mem _ (List.mem_cons_of_mem _ (List.mem_cons_of_mem _ (List.mem_cons_of_mem _ (List.mem_cons_of_mem _ (List.mem_cons_of_mem _ (List.mem_cons_of_mem _ (List.mem_cons_of_mem _ (List.mem_cons_of_mem _ (List.mem_cons_self)))))))))))))))
  have z2 : sc X ρ3 (6, .elem (.arg 64353) (.int 114), .arg 60065) = true := decide_eq_true (show ρ3.2.2.2.1 64353 114 = ρ3.2.1 60065 by
    rw [hB, lg60065]
    exact of_decide_eq_true (hF.2 _ (List.mem_cons_of_mem _ (List.mem_cons_of_mem _ (List.mem_cons_of_mem _ (List.mem_cons_of_mem _ (List.mem_cons_of_mem _ (List.mem_cons_of_mem _ (List.mem_cons_of_mem _ (List.mem_cons_of_mem _ (List.mem_cons_of_mem _ (List.mem_cons_of_mem _ (List.mem_cons_of_mem _ (List.mem_cons_of_mem _ (List.mem_cons_of_mem _ (List.mem_cons_self))))))))))))))))
  have z3 : sc X ρ3 (6, .elem (.arg 64353) (.int 123), .arg 60097) = true := decide_eq_true (show ρ3.2.2.2.1 64353 123 = ρ3.2.1 60097 by
    rw [hB, lg60097]
    exact of_decide_eq_true (hF.2 _ (List.mem_cons_of_mem _ (List.mem_cons_of_mem _ (List.mem_cons_of_mem _ (List.mem_cons_of_mem _ (List.mem_cons_of_mem _ (List.mem_cons_of_mem _ (List.mem_cons_of_mem _ (List.mem_cons_of_mem _ (List.mem_cons_of_mem _ (List.mem_cons_of_mem _ (List.mem_cons_of_mem _ (List.mem_cons_of_mem _ (List.mem_cons_of_mem _ (List.mem_cons_of_mem _ (List.mem_cons_self)))))))))))))))))
  exact t_omm2 hv ρ3 m1 ⟨m2.1, fcn (x7) (fcn (x8) (fcn (x5) (fcn (z1) (fcn (z2) (fcn (z3) (m2.2))))))⟩ m3 m4)))
noncomputable def q_oma1n : sCut := ((fr 0 95 34 [(0, tr 75), (1, .int 90), (2, .int 3)] [], [fr 0 93 73 [(0, tr 75)] [], fr 0 60 30 [(0, tr 39), (1, .int 0)] [], fBot], 11), (fr 0 298 9 [(0, tr 219), (1, .arg 1308), (2, .int 6656)] [.arg 60000, .int 6656, .arg 1308, tr 219], [fr 0 297 81 [(0, tr 219), (1, .arg 1308), (5, .int 0)] [], fr 0 300 36 [(0, tr 219), (1, .arg 1308)] [], fBot], 11), [zf98zzzp_64, zf98zzzp_65, zf98zzzp_66, zf98zzzp_67, zf98zzzp_68, zf98zzzp_25, zf98zzzp_26, ((139, .add (.elem (.arg 64353) (.int 0)) (.add (.int 90) (.arg 60000)), .int 100925505), true), zf98zzzp_62, zf98zzzp_15, zf98zzzp_63, zf98zzzp_17, zf98zzzp_2, zf98zzzp_3, zf98zzzp_4, zf98zzzp_5, ((0, .arg 1702, .int 0), true), ((0, .arg 3360, .int 0), true), ((0, .arg 1350, .int 0), true), ((0, .arg 1826, .int 0), true), zf98zzzp_6, zf98zzzp_14], i_bz)
noncomputable def w_oma1n : List (sCut × List (Nat × sT) × List (Nat × sT × List (sT × sT))) := [(q_omm2T, [], [(64321, .arg 64321, []), (64353, .arg 64353, [(.int 94, .long 0), (.int 93, .long 0), (.int 92, .long 0), (.int 91, .long 1614872592), (.int 90, .long 1)])])]
theorem k_oma1n : cbody kR [(zWP, c_fndl), (zWB, c_mmn)] (cpl1 zWB c_bn0 [q_omm2T]) (cpl2 zWB c_bn0 [q_omm2T]) (cleafB kR zWB c_bn0 w_oma1n) 700 false false q_oma1n.2.2.1 q_oma1n.2.2.2 (cst zWB c_bn0.2.2.1.1 q_oma1n.1) (cst zWB c_bn0.2.2.1.2 q_oma1n.2.1) = true := by decide +kernel
theorem t_oma1n {X : pX} {ρ0 : sR} (hv : vok X ρ0) : CUTOK X kR zWB c_bn0 13 ρ0 q_oma1n := CUTOK_AT (fun ρ k1 hF hI k4 => AT_of (q := q_oma1n) rfl rfl (SEM_runB kR_x kR_0 (Cs := [(zWP, c_fndl), (zWB, c_mmn)]) (fun C hC => by
    simp only [List.mem_cons, List.not_mem_nil, or_false] at hC
    rcases hC with hC | hC
    · rw [hC]; exact s_fndl
    · rw [hC]; exact s_mmn) c_bn0_f (Q := w_oma1n) hv 700 (b1 := false) (b2 := false) k_oma1n k1 hF hI k4 (fun p hp ρ3 m1 m2 m3 m4 m5 m6 => by
  rw [List.mem_singleton.mp hp] at m2 m3 m5 m6 ⊢
  have eD : ρ3.1 1308 = ρ.1 1308 := (m4.1 1308 (by decide) (by decide)).1.trans (k4.1 1308 (by decide) (by decide)).1.symm
  obtain ⟨d0, d4⟩ := d_r hF.1
  have hA : ∀ j, ρ3.2.2.2.1 64321 j = ρ.2.2.2.1 64321 j := fun j => by
    have hw := m6 (64321, .arg 64321, []) (List.mem_cons_self) j
    have hw : Value.long (ρ3.2.2.2.1 64321 j) = Value.long (ρ.2.2.2.1 64321 j) := hw
    exact Value.long.inj hw
  obtain ⟨hBn, hBf⟩ := fiv_w (f := ρ.2.2.2.1 64353) (g := ρ3.2.2.2.1 64353) (m := 90) (d := (ρ.1 1308).toInt) (v0 := 1) (v1 := 1614872592) (v2 := 0) (v3 := 0) (v4 := 0) (fun j => m6 (64353, .arg 64353, [(.int 94, .long 0), (.int 93, .long 0), (.int 92, .long 0), (.int 91, .long 1614872592), (.int 90, .long 1)]) (List.mem_cons_of_mem _ (List.mem_cons_self)) j) (amw_90 d0 d4 (i := 0) (by decide)) (amw_90 d0 d4 (i := 1) (by decide)) (amw_90 d0 d4 (i := 2) (by decide)) (amw_90 d0 d4 (i := 3) (by decide)) (amw_90 d0 d4 (i := 4) (by decide))
  have h7 := k157.mp (hF.2 _ (List.mem_cons_of_mem _ (List.mem_cons_of_mem _ (List.mem_cons_of_mem _ (List.mem_cons_of_mem _ (List.mem_cons_of_mem _ (List.mem_cons_of_mem _ (List.mem_cons_of_mem _ (List.mem_cons_of_mem _ (List.mem_cons_of_mem _ (List.mem_cons_self)))))))))))
  have h8 := k158.mp (hF.2 _ (List.mem_cons_of_mem _ (List.mem_cons_of_mem _ (List.mem_cons_of_mem _ (List.mem_cons_of_mem _ (List.mem_cons_of_mem _ (List.mem_cons_of_mem _ (List.mem_cons_of_mem _ (List.mem_cons_of_mem _ (List.mem_cons_of_mem _ (List.mem_cons_of_mem _ (List.mem_cons_self))))))))))))
  have h5 := k155.mp (hF.2 _ (List.mem_cons_of_mem _ (List.mem_cons_of_mem _ (List.mem_cons_of_mem _ (List.mem_cons_of_mem _ (List.mem_cons_of_mem _ (List.mem_cons_of_mem _ (List.mem_cons_of_mem _ (List.mem_cons_of_mem _ (List.mem_cons_of_mem _ (List.mem_cons_of_mem _ (List.mem_cons_of_mem _ (List.mem_cons_self)))))))))))))
  obtain ⟨v0, v4⟩ := ev_m4 (m := 90) (by decide) (h5 90 (by decide))
  have en : ρ.1 60000 = (ρ.2.2.2.1 64353 90).toInt32 := of_decide_eq_true (hF.2 _ (List.mem_cons_of_mem _ (List.mem_cons_of_mem _ (List.mem_cons_of_mem _ (List.mem_cons_of_mem _ (List.mem_cons_of_mem _ (List.mem_cons_of_mem _ (List.mem_cons_of_mem _ (List.mem_cons_of_mem _ (List.mem_cons_self))))))))))
  have hc : (100925505 : Int) = amcode (ρ.2.2.2.1 64353) 90 (ρ.1 60000).toInt.toNat := of_decide_eq_true (hF.2 _ (List.mem_cons_of_mem _ (List.mem_cons_of_mem _ (List.mem_cons_of_mem _ (List.mem_cons_of_mem _ (List.mem_cons_of_mem _ (List.mem_cons_of_mem _ (List.mem_cons_of_mem _ (List.mem_cons_self)))))))))
  rw [en, mv_l v0 (by omega)] at hc
  have hm : 90 ∈ amps := by decide
  have hn : ¬ amcode (ρ.2.2.2.1 64353) 90 (ρ.2.2.2.1 64353 90).toInt.toNat = 0 := by rw [← hc]; decide
  have eA : ρ3.2.2.2.1 64321 = ρ.2.2.2.1 64321 := funext hA
  have x7 : sc X ρ3 (157, .add (.elem (.arg 64321) (.int 0)) (.add (.elem (.arg 64353) (.int 0)) (.arg 1308)), .int 8) = true := k157.mpr (by rw [eA, eD]; exact amn_m d0 d4 hm h7 h5 hn (fun j _ hj => hBn j hj) hBf)
  have x8 : sc X ρ3 (158, .elem (.arg 64353) (.int 0), .int 2) = true := k158.mpr (ampm_t (K := 1) (m := 90) rfl (fun x hx => by
    have hx2 : x ∈ amps := of_decide_eq_true (List.all_eq_true.mp ampm_i x (List.mem_of_mem_take hx))
    by_cases e : x = 90
    · rw [e]; exact amf_0 d0 d4 hm hBf
    · rw [amo_c hm hx2 e h5 (fun j _ hj => hBn j hj)]; exact h8 x hx) (amf_0 d0 d4 hm hBf))
  have x5 : sc X ρ3 (155, .elem (.arg 64353) (.int 0), .int 0) = true := k155.mpr (fun j hj => by
    by_cases hi : 90 ≤ j ∧ j < 90 + 5
    · rw [hBf j hi.1 hi.2]; exact evf_k d0 d4 hj
    · rw [hBn j hi]; exact h5 j hj)
  have lg60129 : ρ3.2.1 60129 = ρ.2.1 60129 := (m4.1 60129 (by decide) (by decide)).2.trans (k4.1 60129 (by decide) (by decide)).2.symm
  have lg60065 : ρ3.2.1 60065 = ρ.2.1 60065 := (m4.1 60065 (by decide) (by decide)).2.trans (k4.1 60065 (by decide) (by decide)).2.symm
  have lg60097 : ρ3.2.1 60097 = ρ.2.1 60097 := (m4.1 60097 (by decide) (by decide)).2.trans (k4.1 60097 (by decide) (by decide)).2.symm
  have z1 : sc X ρ3 (6, .elem (.arg 64321) (.int 1), .arg 60129) = true := decide_eq_true (show ρ3.2.2.2.1 64321 1 = ρ3.2.1 60129 by
    rw [hA, lg60129]
    exact of_decide_eq_true (hF.2 _ (List.mem_cons_of_mem _ (List.mem_cons_of_mem _ (List.mem_cons_of_mem _ (List.mem_cons_of_mem _ (List.mem_cons_of_mem _ (List.mem_cons_of_mem _ (List.mem_cons_of_mem _ (List.mem_cons_of_mem _ (List.mem_cons_of_mem _ (List.mem_cons_of_mem _ (List.mem_cons_of_mem _ (List.mem_cons_of_mem _ (List.mem_cons_self)))))))))))))))
  have z2 : sc X ρ3 (6, .elem (.arg 64353) (.int 114), .arg 60065) = true := decide_eq_true (show ρ3.2.2.2.1 64353 114 = ρ3.2.1 60065 by
    rw [hBn 114 (by decide), lg60065]
    exact of_decide_eq_true (hF.2 _ (List.mem_cons_of_mem _ (List.mem_cons_of_mem _ (List.mem_cons_of_mem _ (List.mem_cons_of_mem _ (List.mem_cons_of_mem _ (List.mem_cons_of_mem _ (List.mem_cons_of_mem _ (List.mem_cons_of_mem _ (List.mem_cons_of_mem _ (List.mem_cons_of_mem _ (List.mem_cons_of_mem _ (List.mem_cons_of_mem _ (List.mem_cons_of_mem _ (List.mem_cons_self))))))))))))))))
  have z3 : sc X ρ3 (6, .elem (.arg 64353) (.int 123), .arg 60097) = true := decide_eq_true (show ρ3.2.2.2.1 64353 123 = ρ3.2.1 60097 by
    rw [hBn 123 (by decide), lg60097]
    exact of_decide_eq_true (hF.2 _ (List.mem_cons_of_mem _ (List.mem_cons_of_mem _ (List.mem_cons_of_mem _ (List.mem_cons_of_mem _ (List.mem_cons_of_mem _ (List.mem_cons_of_mem _ (List.mem_cons_of_mem _ (List.mem_cons_of_mem _ (List.mem_cons_of_mem _ (List.mem_cons_of_mem _ (List.mem_cons_of_mem _ (List.mem_cons_of_mem _ (List.mem_cons_of_mem _ (List.mem_cons_of_mem _ (List.mem_cons_self)))))))))))))))))
  exact t_omm2 hv ρ3 m1 ⟨m2.1, fcn (x7) (fcn (x8) (fcn (x5) (fcn (z1) (fcn (z2) (fcn (z3) (m2.2))))))⟩ m3 m4)))
noncomputable def q_oma1l : sCut := ((fr 0 95 34 [(0, tr 75), (1, .int 90), (2, .int 3)] [], [fr 0 93 73 [(0, tr 75)] [], fr 0 60 30 [(0, tr 39), (1, .int 0)] [], fBot], 11), (fr 0 298 9 [(0, tr 219), (1, .arg 1308), (2, .int 6656)] [.arg 60000, .int 6656, .arg 1308, tr 219], [fr 0 297 81 [(0, tr 219), (1, .arg 1308), (5, .int 0)] [], fr 0 300 36 [(0, tr 219), (1, .arg 1308)] [], fBot], 11), [zf98zzzp_64, zf98zzzp_65, zf98zzzp_66, zf98zzzp_67, zf98zzzp_68, zf98zzzp_25, zf98zzzp_26, ((139, .add (.elem (.arg 64353) (.int 0)) (.add (.int 90) (.arg 60000)), .int 100925506), true), zf98zzzp_62, zf98zzzp_15, zf98zzzp_63, zf98zzzp_17, zf98zzzp_2, zf98zzzp_3, zf98zzzp_4, zf98zzzp_5, ((0, .arg 1702, .int 0), true), ((0, .arg 3360, .int 0), true), ((0, .arg 1350, .int 0), true), ((0, .arg 1826, .int 0), true), zf98zzzp_6, zf98zzzp_14], i_bz)
noncomputable def w_oma1l : List (sCut × List (Nat × sT) × List (Nat × sT × List (sT × sT))) := [(q_omm2T, [], [(64321, .arg 64321, []), (64353, .arg 64353, [(.int 94, .long 0), (.int 93, .long 0), (.int 92, .long 0), (.int 91, .long 1614872592), (.int 90, .long 1)])])]
theorem k_oma1l : cbody kR [(zWP, c_fndl), (zWB, c_mml)] (cpl1 zWB c_bn0 [q_omm2T]) (cpl2 zWB c_bn0 [q_omm2T]) (cleafB kR zWB c_bn0 w_oma1l) 700 false false q_oma1l.2.2.1 q_oma1l.2.2.2 (cst zWB c_bn0.2.2.1.1 q_oma1l.1) (cst zWB c_bn0.2.2.1.2 q_oma1l.2.1) = true := by decide +kernel
theorem t_oma1l {X : pX} {ρ0 : sR} (hv : vok X ρ0) : CUTOK X kR zWB c_bn0 13 ρ0 q_oma1l := CUTOK_AT (fun ρ k1 hF hI k4 => AT_of (q := q_oma1l) rfl rfl (SEM_runB kR_x kR_0 (Cs := [(zWP, c_fndl), (zWB, c_mml)]) (fun C hC => by
    simp only [List.mem_cons, List.not_mem_nil, or_false] at hC
    rcases hC with hC | hC
    · rw [hC]; exact s_fndl
    · rw [hC]; exact s_mml) c_bn0_f (Q := w_oma1l) hv 700 (b1 := false) (b2 := false) k_oma1l k1 hF hI k4 (fun p hp ρ3 m1 m2 m3 m4 m5 m6 => by
  rw [List.mem_singleton.mp hp] at m2 m3 m5 m6 ⊢
  have eD : ρ3.1 1308 = ρ.1 1308 := (m4.1 1308 (by decide) (by decide)).1.trans (k4.1 1308 (by decide) (by decide)).1.symm
  obtain ⟨d0, d4⟩ := d_r hF.1
  have hA : ∀ j, ρ3.2.2.2.1 64321 j = ρ.2.2.2.1 64321 j := fun j => by
    have hw := m6 (64321, .arg 64321, []) (List.mem_cons_self) j
    have hw : Value.long (ρ3.2.2.2.1 64321 j) = Value.long (ρ.2.2.2.1 64321 j) := hw
    exact Value.long.inj hw
  obtain ⟨hBn, hBf⟩ := fiv_w (f := ρ.2.2.2.1 64353) (g := ρ3.2.2.2.1 64353) (m := 90) (d := (ρ.1 1308).toInt) (v0 := 1) (v1 := 1614872592) (v2 := 0) (v3 := 0) (v4 := 0) (fun j => m6 (64353, .arg 64353, [(.int 94, .long 0), (.int 93, .long 0), (.int 92, .long 0), (.int 91, .long 1614872592), (.int 90, .long 1)]) (List.mem_cons_of_mem _ (List.mem_cons_self)) j) (amw_90 d0 d4 (i := 0) (by decide)) (amw_90 d0 d4 (i := 1) (by decide)) (amw_90 d0 d4 (i := 2) (by decide)) (amw_90 d0 d4 (i := 3) (by decide)) (amw_90 d0 d4 (i := 4) (by decide))
  have h7 := k157.mp (hF.2 _ (List.mem_cons_of_mem _ (List.mem_cons_of_mem _ (List.mem_cons_of_mem _ (List.mem_cons_of_mem _ (List.mem_cons_of_mem _ (List.mem_cons_of_mem _ (List.mem_cons_of_mem _ (List.mem_cons_of_mem _ (List.mem_cons_of_mem _ (List.mem_cons_self)))))))))))
  have h8 := k158.mp (hF.2 _ (List.mem_cons_of_mem _ (List.mem_cons_of_mem _ (List.mem_cons_of_mem _ (List.mem_cons_of_mem _ (List.mem_cons_of_mem _ (List.mem_cons_of_mem _ (List.mem_cons_of_mem _ (List.mem_cons_of_mem _ (List.mem_cons_of_mem _ (List.mem_cons_of_mem _ (List.mem_cons_self))))))))))))
  have h5 := k155.mp (hF.2 _ (List.mem_cons_of_mem _ (List.mem_cons_of_mem _ (List.mem_cons_of_mem _ (List.mem_cons_of_mem _ (List.mem_cons_of_mem _ (List.mem_cons_of_mem _ (List.mem_cons_of_mem _ (List.mem_cons_of_mem _ (List.mem_cons_of_mem _ (List.mem_cons_of_mem _ (List.mem_cons_of_mem _ (List.mem_cons_self)))))))))))))
  obtain ⟨v0, v4⟩ := ev_m4 (m := 90) (by decide) (h5 90 (by decide))
  have en : ρ.1 60000 = (ρ.2.2.2.1 64353 90).toInt32 := of_decide_eq_true (hF.2 _ (List.mem_cons_of_mem _ (List.mem_cons_of_mem _ (List.mem_cons_of_mem _ (List.mem_cons_of_mem _ (List.mem_cons_of_mem _ (List.mem_cons_of_mem _ (List.mem_cons_of_mem _ (List.mem_cons_of_mem _ (List.mem_cons_self))))))))))
  have hc : (100925506 : Int) = amcode (ρ.2.2.2.1 64353) 90 (ρ.1 60000).toInt.toNat := of_decide_eq_true (hF.2 _ (List.mem_cons_of_mem _ (List.mem_cons_of_mem _ (List.mem_cons_of_mem _ (List.mem_cons_of_mem _ (List.mem_cons_of_mem _ (List.mem_cons_of_mem _ (List.mem_cons_of_mem _ (List.mem_cons_self)))))))))
  rw [en, mv_l v0 (by omega)] at hc
  have hm : 90 ∈ amps := by decide
  have hn : ¬ amcode (ρ.2.2.2.1 64353) 90 (ρ.2.2.2.1 64353 90).toInt.toNat = 0 := by rw [← hc]; decide
  have eA : ρ3.2.2.2.1 64321 = ρ.2.2.2.1 64321 := funext hA
  have x7 : sc X ρ3 (157, .add (.elem (.arg 64321) (.int 0)) (.add (.elem (.arg 64353) (.int 0)) (.arg 1308)), .int 8) = true := k157.mpr (by rw [eA, eD]; exact amn_m d0 d4 hm h7 h5 hn (fun j _ hj => hBn j hj) hBf)
  have x8 : sc X ρ3 (158, .elem (.arg 64353) (.int 0), .int 2) = true := k158.mpr (ampm_t (K := 1) (m := 90) rfl (fun x hx => by
    have hx2 : x ∈ amps := of_decide_eq_true (List.all_eq_true.mp ampm_i x (List.mem_of_mem_take hx))
    by_cases e : x = 90
    · rw [e]; exact amf_0 d0 d4 hm hBf
    · rw [amo_c hm hx2 e h5 (fun j _ hj => hBn j hj)]; exact h8 x hx) (amf_0 d0 d4 hm hBf))
  have x5 : sc X ρ3 (155, .elem (.arg 64353) (.int 0), .int 0) = true := k155.mpr (fun j hj => by
    by_cases hi : 90 ≤ j ∧ j < 90 + 5
    · rw [hBf j hi.1 hi.2]; exact evf_k d0 d4 hj
    · rw [hBn j hi]; exact h5 j hj)
  have lg60129 : ρ3.2.1 60129 = ρ.2.1 60129 := (m4.1 60129 (by decide) (by decide)).2.trans (k4.1 60129 (by decide) (by decide)).2.symm
  have lg60065 : ρ3.2.1 60065 = ρ.2.1 60065 := (m4.1 60065 (by decide) (by decide)).2.trans (k4.1 60065 (by decide) (by decide)).2.symm
  have lg60097 : ρ3.2.1 60097 = ρ.2.1 60097 := (m4.1 60097 (by decide) (by decide)).2.trans (k4.1 60097 (by decide) (by decide)).2.symm
  have z1 : sc X ρ3 (6, .elem (.arg 64321) (.int 1), .arg 60129) = true := decide_eq_true (show ρ3.2.2.2.1 64321 1 = ρ3.2.1 60129 by
    rw [hA, lg60129]
    exact of_decide_eq_true (hF.2 _ (List.mem_cons_of_mem _ (List.mem_cons_of_mem _ (List.mem_cons_of_mem _ (List.mem_cons_of_mem _ (List.mem_cons_of_mem _ (List.mem_cons_of_mem _ (List.mem_cons_of_mem _ (List.mem_cons_of_mem _ (List.mem_cons_of_mem _ (List.mem_cons_of_mem _ (List.mem_cons_of_mem _ (List.mem_cons_of_mem _ (List.mem_cons_self)))))))))))))))
  have z2 : sc X ρ3 (6, .elem (.arg 64353) (.int 114), .arg 60065) = true := decide_eq_true (show ρ3.2.2.2.1 64353 114 = ρ3.2.1 60065 by
    rw [hBn 114 (by decide), lg60065]
    exact of_decide_eq_true (hF.2 _ (List.mem_cons_of_mem _ (List.mem_cons_of_mem _ (List.mem_cons_of_mem _ (List.mem_cons_of_mem _ (List.mem_cons_of_mem _ (List.mem_cons_of_mem _ (List.mem_cons_of_mem _ (List.mem_cons_of_mem _ (List.mem_cons_of_mem _ (List.mem_cons_of_mem _ (List.mem_cons_of_mem _ (List.mem_cons_of_mem _ (List.mem_cons_of_mem _ (List.mem_cons_self))))))))))))))))
  have z3 : sc X ρ3 (6, .elem (.arg 64353) (.int 123), .arg 60097) = true := decide_eq_true (show ρ3.2.2.2.1 64353 123 = ρ3.2.1 60097 by
    rw [hBn 123 (by decide), lg60097]
    exact of_decide_eq_true (hF.2 _ (List.mem_cons_of_mem _ (List.mem_cons_of_mem _ (List.mem_cons_of_mem _ (List.mem_cons_of_mem _ (List.mem_cons_of_mem _ (List.mem_cons_of_mem _ (List.mem_cons_of_mem _ (List.mem_cons_of_mem _ (List.mem_cons_of_mem _ (List.mem_cons_of_mem _ (List.mem_cons_of_mem _ (List.mem_cons_of_mem _ (List.mem_cons_of_mem _ (List.mem_cons_of_mem _ (List.mem_cons_self)))))))))))))))))
  exact t_omm2 hv ρ3 m1 ⟨m2.1, fcn (x7) (fcn (x8) (fcn (x5) (fcn (z1) (fcn (z2) (fcn (z3) (m2.2))))))⟩ m3 m4)))
theorem t_oma1 {X : pX} {ρ0 : sR} (hv : vok X ρ0) : CUTOK X kR zWB c_bn0 13 ρ0 q_oma1 := fun ρ k1 hF hI k4 => by
  have h5 := k155.mp (hF.2 _ (List.mem_cons_of_mem _ (List.mem_cons_of_mem _ (List.mem_cons_of_mem _ (List.mem_cons_self)))))
  obtain ⟨v0, v4⟩ := ev_m4 (m := 90) (by decide) (h5 90 (by decide))
  have f0 := s9_n (X := X) (ρ := ρ) (ix := 6656) (s := 0) (p := 90) (by decide +kernel)
  have f1 := s9_n (X := X) (ρ := ρ) (ix := 6656) (s := 1) (p := 91) (by decide +kernel)
  have f2 := s9_n (X := X) (ρ := ρ) (ix := 6656) (s := 2) (p := 92) (by decide +kernel)
  have f3 := s9_n (X := X) (ρ := ρ) (ix := 6656) (s := 3) (p := 93) (by decide +kernel)
  have f4 := s9_n (X := X) (ρ := ρ) (ix := 6656) (s := 4) (p := 94) (by decide +kernel)
  have en : ρ.1 60000 = (ρ.2.2.2.1 64353 90).toInt32 := of_decide_eq_true (hF.2 _ (List.mem_cons_self))
  have ev : (ρ.1 60000).toInt = (ρ.2.2.2.1 64353 90).toInt := by rw [en]; exact mv_l v0 (by omega)
  rcases am_3 (g := ρ.2.2.2.1 64353) (m := 90) (n := (ρ.1 60000).toInt.toNat) with h | h | h
  · exact t_oma1o hv ρ k1 ⟨hF.1, fcn (f0) (fcn (f1) (fcn (f2) (fcn (f3) (fcn (f4) (fcn (di_lf (x := ρ.1 60000) (y := 0) (by rw [ev]; show (0 : Int) ≤ _; exact v0)) (fcn (di_lf (x := 4) (y := ρ.1 60000) (by rw [ev]; show _ ≤ (4 : Int); exact v4)) (fcn (decide_eq_true (show (0 : Int) = amcode (ρ.2.2.2.1 64353) 90 (ρ.1 60000).toInt.toNat from h.symm)) (hF.2))))))))⟩ hI k4
  · exact t_oma1n hv ρ k1 ⟨hF.1, fcn (f0) (fcn (f1) (fcn (f2) (fcn (f3) (fcn (f4) (fcn (di_lf (x := ρ.1 60000) (y := 0) (by rw [ev]; show (0 : Int) ≤ _; exact v0)) (fcn (di_lf (x := 4) (y := ρ.1 60000) (by rw [ev]; show _ ≤ (4 : Int); exact v4)) (fcn (decide_eq_true (show (100925505 : Int) = amcode (ρ.2.2.2.1 64353) 90 (ρ.1 60000).toInt.toNat from h.symm)) (hF.2))))))))⟩ hI k4
  · exact t_oma1l hv ρ k1 ⟨hF.1, fcn (f0) (fcn (f1) (fcn (f2) (fcn (f3) (fcn (f4) (fcn (di_lf (x := ρ.1 60000) (y := 0) (by rw [ev]; show (0 : Int) ≤ _; exact v0)) (fcn (di_lf (x := 4) (y := ρ.1 60000) (by rw [ev]; show _ ≤ (4 : Int); exact v4)) (fcn (decide_eq_true (show (100925506 : Int) = amcode (ρ.2.2.2.1 64353) 90 (ρ.1 60000).toInt.toNat from h.symm)) (hF.2))))))))⟩ hI k4
noncomputable def q_omm1 : sCut := ((fr 0 95 34 [(0, tr 75), (1, .int 90), (2, .int 3)] [], [fr 0 93 73 [(0, tr 75)] [], fr 0 60 30 [(0, tr 39), (1, .int 0)] [], fBot], 11), (fr 0 297 75 [(0, tr 219), (1, .arg 1308), (5, .int 0)] [], [fr 0 300 36 [(0, tr 219), (1, .arg 1308)] [], fBot], 12), [zf98zzzp_15, zf98zzzp_63, zf98zzzp_17, zf98zzzp_2, zf98zzzp_3, zf98zzzp_4, zf98zzzp_5, ((0, .arg 1702, .int 0), true), ((0, .arg 3360, .int 0), true), ((0, .arg 1350, .int 0), true), ((0, .arg 1826, .int 0), true), zf98zzzp_6, zf98zzzp_14], i_bz)
noncomputable def q_omm1g : sCut := ((fr 0 95 34 [(0, tr 75), (1, .int 90), (2, .int 3)] [], [fr 0 93 73 [(0, tr 75)] [], fr 0 60 30 [(0, tr 39), (1, .int 0)] [], fBot], 11), (fr 0 297 75 [(0, tr 219), (1, .arg 1308), (5, .int 0)] [], [fr 0 300 36 [(0, tr 219), (1, .arg 1308)] [], fBot], 12), [zf98zzzp_64, zf98zzzp_15, zf98zzzp_63, zf98zzzp_17, zf98zzzp_2, zf98zzzp_3, zf98zzzp_4, zf98zzzp_5, ((0, .arg 1702, .int 0), true), ((0, .arg 3360, .int 0), true), ((0, .arg 1350, .int 0), true), ((0, .arg 1826, .int 0), true), zf98zzzp_6, zf98zzzp_14], i_bz)
theorem k_omm1g : cbody kR [(zWP, c_fndl)] (cpl1 zWB c_bn0 [q_oma1]) (cpl2 zWB c_bn0 [q_oma1]) (cleaf kR zWB c_bn0 [q_oma1]) 200 false true q_omm1g.2.2.1 q_omm1g.2.2.2 (cst zWB c_bn0.2.2.1.1 q_omm1g.1) (cst zWB c_bn0.2.2.1.2 q_omm1g.2.1) = true := by decide +kernel
theorem t_omm1g {X : pX} {ρ0 : sR} (hv : vok X ρ0) : CUTOK X kR zWB c_bn0 13 ρ0 q_omm1g := CUT_run kR_x kR_0 (Cs := [(zWP, c_fndl)]) (fun C hC => by rw [List.mem_singleton.mp hC]; exact s_fndl) c_bn0_f (Q := [q_oma1]) hv (fun q hq => by
    simp only [List.mem_cons, List.not_mem_nil, or_false] at hq
    rw [hq]; exact t_oma1 hv) 200 (b1 := false) (b2 := true) k_omm1g
theorem t_omm1 {X : pX} {ρ0 : sR} (hv : vok X ρ0) : CUTOK X kR zWB c_bn0 13 ρ0 q_omm1 := fun ρ k1 hF hI k4 => by
  exact t_omm1g hv ρ k1 ⟨hF.1, fcn (s9_n (X := X) (ρ := ρ) (ix := 6656) (s := 0) (p := 90) (by decide +kernel)) (hF.2)⟩ hI k4
noncomputable def zf98zzzp_69 : sQ × Bool := ((0, .arg 60000, .op1 .l2i (.elem (.arg 64353) (.int 50))), true)
noncomputable def zf98zzzp_70 : sQ × Bool := ((158, .elem (.arg 64353) (.int 0), .int 0), true)
noncomputable def q_oma0 : sCut := ((fr 0 95 34 [(0, tr 75), (1, .int 90), (2, .int 3)] [], [fr 0 93 73 [(0, tr 75)] [], fr 0 60 30 [(0, tr 39), (1, .int 0)] [], fBot], 11), (fr 0 298 9 [(0, tr 219), (1, .arg 1308), (2, .int 5632)] [.arg 60000, .int 5632, .arg 1308, tr 219], [fr 0 297 75 [(0, tr 219), (1, .arg 1308), (5, .int 0)] [], fr 0 300 36 [(0, tr 219), (1, .arg 1308)] [], fBot], 11), [zf98zzzp_69, zf98zzzp_15, zf98zzzp_70, zf98zzzp_17, zf98zzzp_2, zf98zzzp_3, zf98zzzp_4, zf98zzzp_5, ((0, .arg 1702, .int 0), true), ((0, .arg 3360, .int 0), true), ((0, .arg 1350, .int 0), true), ((0, .arg 1826, .int 0), true), zf98zzzp_6, zf98zzzp_14], i_bz)
noncomputable def zf98zzzp_71 : sQ × Bool := ((109, .add (.int 5632) (.int 0), .int 50), true)
noncomputable def zf98zzzp_72 : sQ × Bool := ((109, .add (.int 5632) (.int 1), .int 51), true)
noncomputable def zf98zzzp_73 : sQ × Bool := ((109, .add (.int 5632) (.int 2), .int 52), true)
noncomputable def zf98zzzp_74 : sQ × Bool := ((109, .add (.int 5632) (.int 3), .int 53), true)
noncomputable def zf98zzzp_75 : sQ × Bool := ((109, .add (.int 5632) (.int 4), .int 54), true)
noncomputable def q_oma0o : sCut := ((fr 0 95 34 [(0, tr 75), (1, .int 90), (2, .int 3)] [], [fr 0 93 73 [(0, tr 75)] [], fr 0 60 30 [(0, tr 39), (1, .int 0)] [], fBot], 11), (fr 0 298 9 [(0, tr 219), (1, .arg 1308), (2, .int 5632)] [.arg 60000, .int 5632, .arg 1308, tr 219], [fr 0 297 75 [(0, tr 219), (1, .arg 1308), (5, .int 0)] [], fr 0 300 36 [(0, tr 219), (1, .arg 1308)] [], fBot], 11), [zf98zzzp_71, zf98zzzp_72, zf98zzzp_73, zf98zzzp_74, zf98zzzp_75, zf98zzzp_25, zf98zzzp_26, ((139, .add (.elem (.arg 64353) (.int 0)) (.add (.int 50) (.arg 60000)), .int 0), true), zf98zzzp_69, zf98zzzp_15, zf98zzzp_70, zf98zzzp_17, zf98zzzp_2, zf98zzzp_3, zf98zzzp_4, zf98zzzp_5, ((0, .arg 1702, .int 0), true), ((0, .arg 3360, .int 0), true), ((0, .arg 1350, .int 0), true), ((0, .arg 1826, .int 0), true), zf98zzzp_6, zf98zzzp_14], i_bz)
noncomputable def w_oma0o : List (sCut × List (Nat × sT) × List (Nat × sT × List (sT × sT))) := [(q_omm1T, [], [(64321, .arg 64321, []), (64353, .arg 64353, [])])]
theorem k_oma0o : cbody kR [(zWP, c_fndl), (zWB, c_mmo)] (cpl1 zWB c_bn0 [q_omm1T]) (cpl2 zWB c_bn0 [q_omm1T]) (cleafB kR zWB c_bn0 w_oma0o) 700 false false q_oma0o.2.2.1 q_oma0o.2.2.2 (cst zWB c_bn0.2.2.1.1 q_oma0o.1) (cst zWB c_bn0.2.2.1.2 q_oma0o.2.1) = true := by decide +kernel
theorem t_oma0o {X : pX} {ρ0 : sR} (hv : vok X ρ0) : CUTOK X kR zWB c_bn0 13 ρ0 q_oma0o := CUTOK_AT (fun ρ k1 hF hI k4 => AT_of (q := q_oma0o) rfl rfl (SEM_runB kR_x kR_0 (Cs := [(zWP, c_fndl), (zWB, c_mmo)]) (fun C hC => by
    simp only [List.mem_cons, List.not_mem_nil, or_false] at hC
    rcases hC with hC | hC
    · rw [hC]; exact s_fndl
    · rw [hC]; exact s_mmo) c_bn0_f (Q := w_oma0o) hv 700 (b1 := false) (b2 := false) k_oma0o k1 hF hI k4 (fun p hp ρ3 m1 m2 m3 m4 m5 m6 => by
  rw [List.mem_singleton.mp hp] at m2 m3 m5 m6 ⊢
  have eD : ρ3.1 1308 = ρ.1 1308 := (m4.1 1308 (by decide) (by decide)).1.trans (k4.1 1308 (by decide) (by decide)).1.symm
  obtain ⟨d0, d4⟩ := d_r hF.1
  have hA : ∀ j, ρ3.2.2.2.1 64321 j = ρ.2.2.2.1 64321 j := fun j => by
    have hw := m6 (64321, .arg 64321, []) (List.mem_cons_self) j
    have hw : Value.long (ρ3.2.2.2.1 64321 j) = Value.long (ρ.2.2.2.1 64321 j) := hw
    exact Value.long.inj hw
  have hB : ∀ j, ρ3.2.2.2.1 64353 j = ρ.2.2.2.1 64353 j := fun j => by
    have hw := m6 (64353, .arg 64353, []) (List.mem_cons_of_mem _ (List.mem_cons_self)) j
    have hw : Value.long (ρ3.2.2.2.1 64353 j) = Value.long (ρ.2.2.2.1 64353 j) := hw
    exact Value.long.inj hw
  have h7 := k157.mp (hF.2 _ (List.mem_cons_of_mem _ (List.mem_cons_of_mem _ (List.mem_cons_of_mem _ (List.mem_cons_of_mem _ (List.mem_cons_of_mem _ (List.mem_cons_of_mem _ (List.mem_cons_of_mem _ (List.mem_cons_of_mem _ (List.mem_cons_of_mem _ (List.mem_cons_self)))))))))))
  have h8 := k158.mp (hF.2 _ (List.mem_cons_of_mem _ (List.mem_cons_of_mem _ (List.mem_cons_of_mem _ (List.mem_cons_of_mem _ (List.mem_cons_of_mem _ (List.mem_cons_of_mem _ (List.mem_cons_of_mem _ (List.mem_cons_of_mem _ (List.mem_cons_of_mem _ (List.mem_cons_of_mem _ (List.mem_cons_self))))))))))))
  have h5 := k155.mp (hF.2 _ (List.mem_cons_of_mem _ (List.mem_cons_of_mem _ (List.mem_cons_of_mem _ (List.mem_cons_of_mem _ (List.mem_cons_of_mem _ (List.mem_cons_of_mem _ (List.mem_cons_of_mem _ (List.mem_cons_of_mem _ (List.mem_cons_of_mem _ (List.mem_cons_of_mem _ (List.mem_cons_of_mem _ (List.mem_cons_self)))))))))))))
  obtain ⟨v0, v4⟩ := ev_m4 (m := 50) (by decide) (h5 50 (by decide))
  have en : ρ.1 60000 = (ρ.2.2.2.1 64353 50).toInt32 := of_decide_eq_true (hF.2 _ (List.mem_cons_of_mem _ (List.mem_cons_of_mem _ (List.mem_cons_of_mem _ (List.mem_cons_of_mem _ (List.mem_cons_of_mem _ (List.mem_cons_of_mem _ (List.mem_cons_of_mem _ (List.mem_cons_of_mem _ (List.mem_cons_self))))))))))
  have hc : (0 : Int) = amcode (ρ.2.2.2.1 64353) 50 (ρ.1 60000).toInt.toNat := of_decide_eq_true (hF.2 _ (List.mem_cons_of_mem _ (List.mem_cons_of_mem _ (List.mem_cons_of_mem _ (List.mem_cons_of_mem _ (List.mem_cons_of_mem _ (List.mem_cons_of_mem _ (List.mem_cons_of_mem _ (List.mem_cons_self)))))))))
  rw [en, mv_l v0 (by omega)] at hc
  have eA : ρ3.2.2.2.1 64321 = ρ.2.2.2.1 64321 := funext hA
  have eB : ρ3.2.2.2.1 64353 = ρ.2.2.2.1 64353 := funext hB
  have x7 : sc X ρ3 (157, .add (.elem (.arg 64321) (.int 0)) (.add (.elem (.arg 64353) (.int 0)) (.arg 1308)), .int 8) = true := k157.mpr (by rw [eA, eB, eD]; exact h7)
  have x8 : sc X ρ3 (158, .elem (.arg 64353) (.int 0), .int 1) = true := k158.mpr (by rw [eB]; exact ampm_t (K := 0) (m := 50) rfl h8 hc.symm)
  have x5 : sc X ρ3 (155, .elem (.arg 64353) (.int 0), .int 0) = true := k155.mpr (by rw [eB]; exact h5)
  have lg60129 : ρ3.2.1 60129 = ρ.2.1 60129 := (m4.1 60129 (by decide) (by decide)).2.trans (k4.1 60129 (by decide) (by decide)).2.symm
  have lg60065 : ρ3.2.1 60065 = ρ.2.1 60065 := (m4.1 60065 (by decide) (by decide)).2.trans (k4.1 60065 (by decide) (by decide)).2.symm
  have lg60097 : ρ3.2.1 60097 = ρ.2.1 60097 := (m4.1 60097 (by decide) (by decide)).2.trans (k4.1 60097 (by decide) (by decide)).2.symm
  have z1 : sc X ρ3 (6, .elem (.arg 64321) (.int 1), .arg 60129) = true := decide_eq_true (show ρ3.2.2.2.1 64321 1 = ρ3.2.1 60129 by
    rw [hA, lg60129]
    exact of_decide_eq_true (hF.2 _ (List.mem_cons_of_mem _ (List.mem_cons_of_mem _ (List.mem_cons_of_mem _ (List.mem_cons_of_mem _ (List.mem_cons_of_mem _ (List.mem_cons_of_mem _ (List.mem_cons_of_mem _ (List.mem_cons_of_mem _ (List.mem_cons_of_mem _ (List.mem_cons_of_mem _ (List.mem_cons_of_mem _ (List.mem_cons_of_mem _ (List.mem_cons_self)))))))))))))))
  have z2 : sc X ρ3 (6, .elem (.arg 64353) (.int 114), .arg 60065) = true := decide_eq_true (show ρ3.2.2.2.1 64353 114 = ρ3.2.1 60065 by
    rw [hB, lg60065]
    exact of_decide_eq_true (hF.2 _ (List.mem_cons_of_mem _ (List.mem_cons_of_mem _ (List.mem_cons_of_mem _ (List.mem_cons_of_mem _ (List.mem_cons_of_mem _ (List.mem_cons_of_mem _ (List.mem_cons_of_mem _ (List.mem_cons_of_mem _ (List.mem_cons_of_mem _ (List.mem_cons_of_mem _ (List.mem_cons_of_mem _ (List.mem_cons_of_mem _ (List.mem_cons_of_mem _ (List.mem_cons_self))))))))))))))))
  have z3 : sc X ρ3 (6, .elem (.arg 64353) (.int 123), .arg 60097) = true := decide_eq_true (show ρ3.2.2.2.1 64353 123 = ρ3.2.1 60097 by
    rw [hB, lg60097]
    exact of_decide_eq_true (hF.2 _ (List.mem_cons_of_mem _ (List.mem_cons_of_mem _ (List.mem_cons_of_mem _ (List.mem_cons_of_mem _ (List.mem_cons_of_mem _ (List.mem_cons_of_mem _ (List.mem_cons_of_mem _ (List.mem_cons_of_mem _ (List.mem_cons_of_mem _ (List.mem_cons_of_mem _ (List.mem_cons_of_mem _ (List.mem_cons_of_mem _ (List.mem_cons_of_mem _ (List.mem_cons_of_mem _ (List.mem_cons_self)))))))))))))))))
  exact t_omm1 hv ρ3 m1 ⟨m2.1, fcn (x7) (fcn (x8) (fcn (x5) (fcn (z1) (fcn (z2) (fcn (z3) (m2.2))))))⟩ m3 m4)))
noncomputable def q_oma0n : sCut := ((fr 0 95 34 [(0, tr 75), (1, .int 90), (2, .int 3)] [], [fr 0 93 73 [(0, tr 75)] [], fr 0 60 30 [(0, tr 39), (1, .int 0)] [], fBot], 11), (fr 0 298 9 [(0, tr 219), (1, .arg 1308), (2, .int 5632)] [.arg 60000, .int 5632, .arg 1308, tr 219], [fr 0 297 75 [(0, tr 219), (1, .arg 1308), (5, .int 0)] [], fr 0 300 36 [(0, tr 219), (1, .arg 1308)] [], fBot], 11), [zf98zzzp_71, zf98zzzp_72, zf98zzzp_73, zf98zzzp_74, zf98zzzp_75, zf98zzzp_25, zf98zzzp_26, ((139, .add (.elem (.arg 64353) (.int 0)) (.add (.int 50) (.arg 60000)), .int 100925505), true), zf98zzzp_69, zf98zzzp_15, zf98zzzp_70, zf98zzzp_17, zf98zzzp_2, zf98zzzp_3, zf98zzzp_4, zf98zzzp_5, ((0, .arg 1702, .int 0), true), ((0, .arg 3360, .int 0), true), ((0, .arg 1350, .int 0), true), ((0, .arg 1826, .int 0), true), zf98zzzp_6, zf98zzzp_14], i_bz)
noncomputable def w_oma0n : List (sCut × List (Nat × sT) × List (Nat × sT × List (sT × sT))) := [(q_omm1T, [], [(64321, .arg 64321, []), (64353, .arg 64353, [(.int 54, .long 0), (.int 53, .long 0), (.int 52, .long 0), (.int 51, .long 1614807056), (.int 50, .long 1)])])]
theorem k_oma0n : cbody kR [(zWP, c_fndl), (zWB, c_mmn)] (cpl1 zWB c_bn0 [q_omm1T]) (cpl2 zWB c_bn0 [q_omm1T]) (cleafB kR zWB c_bn0 w_oma0n) 700 false false q_oma0n.2.2.1 q_oma0n.2.2.2 (cst zWB c_bn0.2.2.1.1 q_oma0n.1) (cst zWB c_bn0.2.2.1.2 q_oma0n.2.1) = true := by decide +kernel
theorem t_oma0n {X : pX} {ρ0 : sR} (hv : vok X ρ0) : CUTOK X kR zWB c_bn0 13 ρ0 q_oma0n := CUTOK_AT (fun ρ k1 hF hI k4 => AT_of (q := q_oma0n) rfl rfl (SEM_runB kR_x kR_0 (Cs := [(zWP, c_fndl), (zWB, c_mmn)]) (fun C hC => by
    simp only [List.mem_cons, List.not_mem_nil, or_false] at hC
    rcases hC with hC | hC
    · rw [hC]; exact s_fndl
    · rw [hC]; exact s_mmn) c_bn0_f (Q := w_oma0n) hv 700 (b1 := false) (b2 := false) k_oma0n k1 hF hI k4 (fun p hp ρ3 m1 m2 m3 m4 m5 m6 => by
  rw [List.mem_singleton.mp hp] at m2 m3 m5 m6 ⊢
  have eD : ρ3.1 1308 = ρ.1 1308 := (m4.1 1308 (by decide) (by decide)).1.trans (k4.1 1308 (by decide) (by decide)).1.symm
  obtain ⟨d0, d4⟩ := d_r hF.1
  have hA : ∀ j, ρ3.2.2.2.1 64321 j = ρ.2.2.2.1 64321 j := fun j => by
    have hw := m6 (64321, .arg 64321, []) (List.mem_cons_self) j
    have hw : Value.long (ρ3.2.2.2.1 64321 j) = Value.long (ρ.2.2.2.1 64321 j) := hw
    exact Value.long.inj hw
  obtain ⟨hBn, hBf⟩ := fiv_w (f := ρ.2.2.2.1 64353) (g := ρ3.2.2.2.1 64353) (m := 50) (d := (ρ.1 1308).toInt) (v0 := 1) (v1 := 1614807056) (v2 := 0) (v3 := 0) (v4 := 0) (fun j => m6 (64353, .arg 64353, [(.int 54, .long 0), (.int 53, .long 0), (.int 52, .long 0), (.int 51, .long 1614807056), (.int 50, .long 1)]) (List.mem_cons_of_mem _ (List.mem_cons_self)) j) (amw_50 d0 d4 (i := 0) (by decide)) (amw_50 d0 d4 (i := 1) (by decide)) (amw_50 d0 d4 (i := 2) (by decide)) (amw_50 d0 d4 (i := 3) (by decide)) (amw_50 d0 d4 (i := 4) (by decide))
  have h7 := k157.mp (hF.2 _ (List.mem_cons_of_mem _ (List.mem_cons_of_mem _ (List.mem_cons_of_mem _ (List.mem_cons_of_mem _ (List.mem_cons_of_mem _ (List.mem_cons_of_mem _ (List.mem_cons_of_mem _ (List.mem_cons_of_mem _ (List.mem_cons_of_mem _ (List.mem_cons_self)))))))))))
  have h8 := k158.mp (hF.2 _ (List.mem_cons_of_mem _ (List.mem_cons_of_mem _ (List.mem_cons_of_mem _ (List.mem_cons_of_mem _ (List.mem_cons_of_mem _ (List.mem_cons_of_mem _ (List.mem_cons_of_mem _ (List.mem_cons_of_mem _ (List.mem_cons_of_mem _ (List.mem_cons_of_mem _ (List.mem_cons_self))))))))))))
  have h5 := k155.mp (hF.2 _ (List.mem_cons_of_mem _ (List.mem_cons_of_mem _ (List.mem_cons_of_mem _ (List.mem_cons_of_mem _ (List.mem_cons_of_mem _ (List.mem_cons_of_mem _ (List.mem_cons_of_mem _ (List.mem_cons_of_mem _ (List.mem_cons_of_mem _ (List.mem_cons_of_mem _ (List.mem_cons_of_mem _ (List.mem_cons_self)))))))))))))
  obtain ⟨v0, v4⟩ := ev_m4 (m := 50) (by decide) (h5 50 (by decide))
  have en : ρ.1 60000 = (ρ.2.2.2.1 64353 50).toInt32 := of_decide_eq_true (hF.2 _ (List.mem_cons_of_mem _ (List.mem_cons_of_mem _ (List.mem_cons_of_mem _ (List.mem_cons_of_mem _ (List.mem_cons_of_mem _ (List.mem_cons_of_mem _ (List.mem_cons_of_mem _ (List.mem_cons_of_mem _ (List.mem_cons_self))))))))))
  have hc : (100925505 : Int) = amcode (ρ.2.2.2.1 64353) 50 (ρ.1 60000).toInt.toNat := of_decide_eq_true (hF.2 _ (List.mem_cons_of_mem _ (List.mem_cons_of_mem _ (List.mem_cons_of_mem _ (List.mem_cons_of_mem _ (List.mem_cons_of_mem _ (List.mem_cons_of_mem _ (List.mem_cons_of_mem _ (List.mem_cons_self)))))))))
  rw [en, mv_l v0 (by omega)] at hc
  have hm : 50 ∈ amps := by decide
  have hn : ¬ amcode (ρ.2.2.2.1 64353) 50 (ρ.2.2.2.1 64353 50).toInt.toNat = 0 := by rw [← hc]; decide
  have eA : ρ3.2.2.2.1 64321 = ρ.2.2.2.1 64321 := funext hA
  have x7 : sc X ρ3 (157, .add (.elem (.arg 64321) (.int 0)) (.add (.elem (.arg 64353) (.int 0)) (.arg 1308)), .int 8) = true := k157.mpr (by rw [eA, eD]; exact amn_m d0 d4 hm h7 h5 hn (fun j _ hj => hBn j hj) hBf)
  have x8 : sc X ρ3 (158, .elem (.arg 64353) (.int 0), .int 1) = true := k158.mpr (ampm_t (K := 0) (m := 50) rfl (fun x hx => by
    have hx2 : x ∈ amps := of_decide_eq_true (List.all_eq_true.mp ampm_i x (List.mem_of_mem_take hx))
    by_cases e : x = 50
    · rw [e]; exact amf_0 d0 d4 hm hBf
    · rw [amo_c hm hx2 e h5 (fun j _ hj => hBn j hj)]; exact h8 x hx) (amf_0 d0 d4 hm hBf))
  have x5 : sc X ρ3 (155, .elem (.arg 64353) (.int 0), .int 0) = true := k155.mpr (fun j hj => by
    by_cases hi : 50 ≤ j ∧ j < 50 + 5
    · rw [hBf j hi.1 hi.2]; exact evf_k d0 d4 hj
    · rw [hBn j hi]; exact h5 j hj)
  have lg60129 : ρ3.2.1 60129 = ρ.2.1 60129 := (m4.1 60129 (by decide) (by decide)).2.trans (k4.1 60129 (by decide) (by decide)).2.symm
  have lg60065 : ρ3.2.1 60065 = ρ.2.1 60065 := (m4.1 60065 (by decide) (by decide)).2.trans (k4.1 60065 (by decide) (by decide)).2.symm
  have lg60097 : ρ3.2.1 60097 = ρ.2.1 60097 := (m4.1 60097 (by decide) (by decide)).2.trans (k4.1 60097 (by decide) (by decide)).2.symm
  have z1 : sc X ρ3 (6, .elem (.arg 64321) (.int 1), .arg 60129) = true := decide_eq_true (show ρ3.2.2.2.1 64321 1 = ρ3.2.1 60129 by
    rw [hA, lg60129]
    exact of_decide_eq_true (hF.2 _ (List.mem_cons_of_mem _ (List.mem_cons_of_mem _ (List.mem_cons_of_mem _ (List.mem_cons_of_mem _ (List.mem_cons_of_mem _ (List.mem_cons_of_mem _ (List.mem_cons_of_mem _ (List.mem_cons_of_mem _ (List.mem_cons_of_mem _ (List.mem_cons_of_mem _ (List.mem_cons_of_mem _ (List.mem_cons_of_mem _ (List.mem_cons_self)))))))))))))))
  have z2 : sc X ρ3 (6, .elem (.arg 64353) (.int 114), .arg 60065) = true := decide_eq_true (show ρ3.2.2.2.1 64353 114 = ρ3.2.1 60065 by
    rw [hBn 114 (by decide), lg60065]
    exact of_decide_eq_true (hF.2 _ (List.mem_cons_of_mem _ (List.mem_cons_of_mem _ (List.mem_cons_of_mem _ (List.mem_cons_of_mem _ (List.mem_cons_of_mem _ (List.mem_cons_of_mem _ (List.mem_cons_of_mem _ (List.mem_cons_of_mem _ (List.mem_cons_of_mem _ (List.mem_cons_of_mem _ (List.mem_cons_of_mem _ (List.mem_cons_of_mem _ (List.mem_cons_of_mem _ (List.mem_cons_self))))))))))))))))
  have z3 : sc X ρ3 (6, .elem (.arg 64353) (.int 123), .arg 60097) = true := decide_eq_true (show ρ3.2.2.2.1 64353 123 = ρ3.2.1 60097 by
    rw [hBn 123 (by decide), lg60097]
    exact of_decide_eq_true (hF.2 _ (List.mem_cons_of_mem _ (List.mem_cons_of_mem _ (List.mem_cons_of_mem _ (List.mem_cons_of_mem _ (List.mem_cons_of_mem _ (List.mem_cons_of_mem _ (List.mem_cons_of_mem _ (List.mem_cons_of_mem _ (List.mem_cons_of_mem _ (List.mem_cons_of_mem _ (List.mem_cons_of_mem _ (List.mem_cons_of_mem _ (List.mem_cons_of_mem _ (List.mem_cons_of_mem _ (List.mem_cons_self)))))))))))))))))
  exact t_omm1 hv ρ3 m1 ⟨m2.1, fcn (x7) (fcn (x8) (fcn (x5) (fcn (z1) (fcn (z2) (fcn (z3) (m2.2))))))⟩ m3 m4)))
noncomputable def q_oma0l : sCut := ((fr 0 95 34 [(0, tr 75), (1, .int 90), (2, .int 3)] [], [fr 0 93 73 [(0, tr 75)] [], fr 0 60 30 [(0, tr 39), (1, .int 0)] [], fBot], 11), (fr 0 298 9 [(0, tr 219), (1, .arg 1308), (2, .int 5632)] [.arg 60000, .int 5632, .arg 1308, tr 219], [fr 0 297 75 [(0, tr 219), (1, .arg 1308), (5, .int 0)] [], fr 0 300 36 [(0, tr 219), (1, .arg 1308)] [], fBot], 11), [zf98zzzp_71, zf98zzzp_72, zf98zzzp_73, zf98zzzp_74, zf98zzzp_75, zf98zzzp_25, zf98zzzp_26, ((139, .add (.elem (.arg 64353) (.int 0)) (.add (.int 50) (.arg 60000)), .int 100925506), true), zf98zzzp_69, zf98zzzp_15, zf98zzzp_70, zf98zzzp_17, zf98zzzp_2, zf98zzzp_3, zf98zzzp_4, zf98zzzp_5, ((0, .arg 1702, .int 0), true), ((0, .arg 3360, .int 0), true), ((0, .arg 1350, .int 0), true), ((0, .arg 1826, .int 0), true), zf98zzzp_6, zf98zzzp_14], i_bz)
noncomputable def w_oma0l : List (sCut × List (Nat × sT) × List (Nat × sT × List (sT × sT))) := [(q_omm1T, [], [(64321, .arg 64321, []), (64353, .arg 64353, [(.int 54, .long 0), (.int 53, .long 0), (.int 52, .long 0), (.int 51, .long 1614807056), (.int 50, .long 1)])])]
theorem k_oma0l : cbody kR [(zWP, c_fndl), (zWB, c_mml)] (cpl1 zWB c_bn0 [q_omm1T]) (cpl2 zWB c_bn0 [q_omm1T]) (cleafB kR zWB c_bn0 w_oma0l) 700 false false q_oma0l.2.2.1 q_oma0l.2.2.2 (cst zWB c_bn0.2.2.1.1 q_oma0l.1) (cst zWB c_bn0.2.2.1.2 q_oma0l.2.1) = true := by decide +kernel
theorem t_oma0l {X : pX} {ρ0 : sR} (hv : vok X ρ0) : CUTOK X kR zWB c_bn0 13 ρ0 q_oma0l := CUTOK_AT (fun ρ k1 hF hI k4 => AT_of (q := q_oma0l) rfl rfl (SEM_runB kR_x kR_0 (Cs := [(zWP, c_fndl), (zWB, c_mml)]) (fun C hC => by
    simp only [List.mem_cons, List.not_mem_nil, or_false] at hC
    rcases hC with hC | hC
    · rw [hC]; exact s_fndl
    · rw [hC]; exact s_mml) c_bn0_f (Q := w_oma0l) hv 700 (b1 := false) (b2 := false) k_oma0l k1 hF hI k4 (fun p hp ρ3 m1 m2 m3 m4 m5 m6 => by
  rw [List.mem_singleton.mp hp] at m2 m3 m5 m6 ⊢
  have eD : ρ3.1 1308 = ρ.1 1308 := (m4.1 1308 (by decide) (by decide)).1.trans (k4.1 1308 (by decide) (by decide)).1.symm
  obtain ⟨d0, d4⟩ := d_r hF.1
  have hA : ∀ j, ρ3.2.2.2.1 64321 j = ρ.2.2.2.1 64321 j := fun j => by
    have hw := m6 (64321, .arg 64321, []) (List.mem_cons_self) j
    have hw : Value.long (ρ3.2.2.2.1 64321 j) = Value.long (ρ.2.2.2.1 64321 j) := hw
    exact Value.long.inj hw
  obtain ⟨hBn, hBf⟩ := fiv_w (f := ρ.2.2.2.1 64353) (g := ρ3.2.2.2.1 64353) (m := 50) (d := (ρ.1 1308).toInt) (v0 := 1) (v1 := 1614807056) (v2 := 0) (v3 := 0) (v4 := 0) (fun j => m6 (64353, .arg 64353, [(.int 54, .long 0), (.int 53, .long 0), (.int 52, .long 0), (.int 51, .long 1614807056), (.int 50, .long 1)]) (List.mem_cons_of_mem _ (List.mem_cons_self)) j) (amw_50 d0 d4 (i := 0) (by decide)) (amw_50 d0 d4 (i := 1) (by decide)) (amw_50 d0 d4 (i := 2) (by decide)) (amw_50 d0 d4 (i := 3) (by decide)) (amw_50 d0 d4 (i := 4) (by decide))
  have h7 := k157.mp (hF.2 _ (List.mem_cons_of_mem _ (List.mem_cons_of_mem _ (List.mem_cons_of_mem _ (List.mem_cons_of_mem _ (List.mem_cons_of_mem _ (List.mem_cons_of_mem _ (List.mem_cons_of_mem _ (List.mem_cons_of_mem _ (List.mem_cons_of_mem _ (List.mem_cons_self)))))))))))
  have h8 := k158.mp (hF.2 _ (List.mem_cons_of_mem _ (List.mem_cons_of_mem _ (List.mem_cons_of_mem _ (List.mem_cons_of_mem _ (List.mem_cons_of_mem _ (List.mem_cons_of_mem _ (List.mem_cons_of_mem _ (List.mem_cons_of_mem _ (List.mem_cons_of_mem _ (List.mem_cons_of_mem _ (List.mem_cons_self))))))))))))
  have h5 := k155.mp (hF.2 _ (List.mem_cons_of_mem _ (List.mem_cons_of_mem _ (List.mem_cons_of_mem _ (List.mem_cons_of_mem _ (List.mem_cons_of_mem _ (List.mem_cons_of_mem _ (List.mem_cons_of_mem _ (List.mem_cons_of_mem _ (List.mem_cons_of_mem _ (List.mem_cons_of_mem _ (List.mem_cons_of_mem _ (List.mem_cons_self)))))))))))))
  obtain ⟨v0, v4⟩ := ev_m4 (m := 50) (by decide) (h5 50 (by decide))
  have en : ρ.1 60000 = (ρ.2.2.2.1 64353 50).toInt32 := of_decide_eq_true (hF.2 _ (List.mem_cons_of_mem _ (List.mem_cons_of_mem _ (List.mem_cons_of_mem _ (List.mem_cons_of_mem _ (List.mem_cons_of_mem _ (List.mem_cons_of_mem _ (List.mem_cons_of_mem _ (List.mem_cons_of_mem _ (List.mem_cons_self))))))))))
  have hc : (100925506 : Int) = amcode (ρ.2.2.2.1 64353) 50 (ρ.1 60000).toInt.toNat := of_decide_eq_true (hF.2 _ (List.mem_cons_of_mem _ (List.mem_cons_of_mem _ (List.mem_cons_of_mem _ (List.mem_cons_of_mem _ (List.mem_cons_of_mem _ (List.mem_cons_of_mem _ (List.mem_cons_of_mem _ (List.mem_cons_self)))))))))
  rw [en, mv_l v0 (by omega)] at hc
  have hm : 50 ∈ amps := by decide
  have hn : ¬ amcode (ρ.2.2.2.1 64353) 50 (ρ.2.2.2.1 64353 50).toInt.toNat = 0 := by rw [← hc]; decide
  have eA : ρ3.2.2.2.1 64321 = ρ.2.2.2.1 64321 := funext hA
  have x7 : sc X ρ3 (157, .add (.elem (.arg 64321) (.int 0)) (.add (.elem (.arg 64353) (.int 0)) (.arg 1308)), .int 8) = true := k157.mpr (by rw [eA, eD]; exact amn_m d0 d4 hm h7 h5 hn (fun j _ hj => hBn j hj) hBf)
  have x8 : sc X ρ3 (158, .elem (.arg 64353) (.int 0), .int 1) = true := k158.mpr (ampm_t (K := 0) (m := 50) rfl (fun x hx => by
    have hx2 : x ∈ amps := of_decide_eq_true (List.all_eq_true.mp ampm_i x (List.mem_of_mem_take hx))
    by_cases e : x = 50
    · rw [e]; exact amf_0 d0 d4 hm hBf
    · rw [amo_c hm hx2 e h5 (fun j _ hj => hBn j hj)]; exact h8 x hx) (amf_0 d0 d4 hm hBf))
  have x5 : sc X ρ3 (155, .elem (.arg 64353) (.int 0), .int 0) = true := k155.mpr (fun j hj => by
    by_cases hi : 50 ≤ j ∧ j < 50 + 5
    · rw [hBf j hi.1 hi.2]; exact evf_k d0 d4 hj
    · rw [hBn j hi]; exact h5 j hj)
  have lg60129 : ρ3.2.1 60129 = ρ.2.1 60129 := (m4.1 60129 (by decide) (by decide)).2.trans (k4.1 60129 (by decide) (by decide)).2.symm
  have lg60065 : ρ3.2.1 60065 = ρ.2.1 60065 := (m4.1 60065 (by decide) (by decide)).2.trans (k4.1 60065 (by decide) (by decide)).2.symm
  have lg60097 : ρ3.2.1 60097 = ρ.2.1 60097 := (m4.1 60097 (by decide) (by decide)).2.trans (k4.1 60097 (by decide) (by decide)).2.symm
  have z1 : sc X ρ3 (6, .elem (.arg 64321) (.int 1), .arg 60129) = true := decide_eq_true (show ρ3.2.2.2.1 64321 1 = ρ3.2.1 60129 by
    rw [hA, lg60129]
    exact of_decide_eq_true (hF.2 _ (List.mem_cons_of_mem _ (List.mem_cons_of_mem _ (List.mem_cons_of_mem _ (List.mem_cons_of_mem _ (List.mem_cons_of_mem _ (List.mem_cons_of_mem _ (List.mem_cons_of_mem _ (List.mem_cons_of_mem _ (List.mem_cons_of_mem _ (List.mem_cons_of_mem _ (List.mem_cons_of_mem _ (List.mem_cons_of_mem _ (List.mem_cons_self)))))))))))))))
  have z2 : sc X ρ3 (6, .elem (.arg 64353) (.int 114), .arg 60065) = true := decide_eq_true (show ρ3.2.2.2.1 64353 114 = ρ3.2.1 60065 by
    rw [hBn 114 (by decide), lg60065]
    exact of_decide_eq_true (hF.2 _ (List.mem_cons_of_mem _ (List.mem_cons_of_mem _ (List.mem_cons_of_mem _ (List.mem_cons_of_mem _ (List.mem_cons_of_mem _ (List.mem_cons_of_mem _ (List.mem_cons_of_mem _ (List.mem_cons_of_mem _ (List.mem_cons_of_mem _ (List.mem_cons_of_mem _ (List.mem_cons_of_mem _ (List.mem_cons_of_mem _ (List.mem_cons_of_mem _ (List.mem_cons_self))))))))))))))))
  have z3 : sc X ρ3 (6, .elem (.arg 64353) (.int 123), .arg 60097) = true := decide_eq_true (show ρ3.2.2.2.1 64353 123 = ρ3.2.1 60097 by
    rw [hBn 123 (by decide), lg60097]
    exact of_decide_eq_true (hF.2 _ (List.mem_cons_of_mem _ (List.mem_cons_of_mem _ (List.mem_cons_of_mem _ (List.mem_cons_of_mem _ (List.mem_cons_of_mem _ (List.mem_cons_of_mem _ (List.mem_cons_of_mem _ (List.mem_cons_of_mem _ (List.mem_cons_of_mem _ (List.mem_cons_of_mem _ (List.mem_cons_of_mem _ (List.mem_cons_of_mem _ (List.mem_cons_of_mem _ (List.mem_cons_of_mem _ (List.mem_cons_self)))))))))))))))))
  exact t_omm1 hv ρ3 m1 ⟨m2.1, fcn (x7) (fcn (x8) (fcn (x5) (fcn (z1) (fcn (z2) (fcn (z3) (m2.2))))))⟩ m3 m4)))
theorem t_oma0 {X : pX} {ρ0 : sR} (hv : vok X ρ0) : CUTOK X kR zWB c_bn0 13 ρ0 q_oma0 := fun ρ k1 hF hI k4 => by
  have h5 := k155.mp (hF.2 _ (List.mem_cons_of_mem _ (List.mem_cons_of_mem _ (List.mem_cons_of_mem _ (List.mem_cons_self)))))
  obtain ⟨v0, v4⟩ := ev_m4 (m := 50) (by decide) (h5 50 (by decide))
  have f0 := s9_n (X := X) (ρ := ρ) (ix := 5632) (s := 0) (p := 50) (by decide +kernel)
  have f1 := s9_n (X := X) (ρ := ρ) (ix := 5632) (s := 1) (p := 51) (by decide +kernel)
  have f2 := s9_n (X := X) (ρ := ρ) (ix := 5632) (s := 2) (p := 52) (by decide +kernel)
  have f3 := s9_n (X := X) (ρ := ρ) (ix := 5632) (s := 3) (p := 53) (by decide +kernel)
  have f4 := s9_n (X := X) (ρ := ρ) (ix := 5632) (s := 4) (p := 54) (by decide +kernel)
  have en : ρ.1 60000 = (ρ.2.2.2.1 64353 50).toInt32 := of_decide_eq_true (hF.2 _ (List.mem_cons_self))
  have ev : (ρ.1 60000).toInt = (ρ.2.2.2.1 64353 50).toInt := by rw [en]; exact mv_l v0 (by omega)
  rcases am_3 (g := ρ.2.2.2.1 64353) (m := 50) (n := (ρ.1 60000).toInt.toNat) with h | h | h
  · exact t_oma0o hv ρ k1 ⟨hF.1, fcn (f0) (fcn (f1) (fcn (f2) (fcn (f3) (fcn (f4) (fcn (di_lf (x := ρ.1 60000) (y := 0) (by rw [ev]; show (0 : Int) ≤ _; exact v0)) (fcn (di_lf (x := 4) (y := ρ.1 60000) (by rw [ev]; show _ ≤ (4 : Int); exact v4)) (fcn (decide_eq_true (show (0 : Int) = amcode (ρ.2.2.2.1 64353) 50 (ρ.1 60000).toInt.toNat from h.symm)) (hF.2))))))))⟩ hI k4
  · exact t_oma0n hv ρ k1 ⟨hF.1, fcn (f0) (fcn (f1) (fcn (f2) (fcn (f3) (fcn (f4) (fcn (di_lf (x := ρ.1 60000) (y := 0) (by rw [ev]; show (0 : Int) ≤ _; exact v0)) (fcn (di_lf (x := 4) (y := ρ.1 60000) (by rw [ev]; show _ ≤ (4 : Int); exact v4)) (fcn (decide_eq_true (show (100925505 : Int) = amcode (ρ.2.2.2.1 64353) 50 (ρ.1 60000).toInt.toNat from h.symm)) (hF.2))))))))⟩ hI k4
  · exact t_oma0l hv ρ k1 ⟨hF.1, fcn (f0) (fcn (f1) (fcn (f2) (fcn (f3) (fcn (f4) (fcn (di_lf (x := ρ.1 60000) (y := 0) (by rw [ev]; show (0 : Int) ≤ _; exact v0)) (fcn (di_lf (x := 4) (y := ρ.1 60000) (by rw [ev]; show _ ≤ (4 : Int); exact v4)) (fcn (decide_eq_true (show (100925506 : Int) = amcode (ρ.2.2.2.1 64353) 50 (ρ.1 60000).toInt.toNat from h.symm)) (hF.2))))))))⟩ hI k4
noncomputable def q_omm0 : sCut := ((fr 0 95 34 [(0, tr 75), (1, .int 90), (2, .int 3)] [], [fr 0 93 73 [(0, tr 75)] [], fr 0 60 30 [(0, tr 39), (1, .int 0)] [], fBot], 11), (fr 0 297 64 [(0, tr 219), (1, .arg 1308)] [], [fr 0 300 36 [(0, tr 219), (1, .arg 1308)] [], fBot], 12), [zf98zzzp_15, zf98zzzp_70, zf98zzzp_17, zf98zzzp_2, zf98zzzp_3, zf98zzzp_4, zf98zzzp_5, ((0, .arg 1702, .int 0), true), ((0, .arg 3360, .int 0), true), ((0, .arg 1350, .int 0), true), ((0, .arg 1826, .int 0), true), zf98zzzp_6, zf98zzzp_14], i_bz)
noncomputable def q_omm0g : sCut := ((fr 0 95 34 [(0, tr 75), (1, .int 90), (2, .int 3)] [], [fr 0 93 73 [(0, tr 75)] [], fr 0 60 30 [(0, tr 39), (1, .int 0)] [], fBot], 11), (fr 0 297 64 [(0, tr 219), (1, .arg 1308)] [], [fr 0 300 36 [(0, tr 219), (1, .arg 1308)] [], fBot], 12), [zf98zzzp_71, zf98zzzp_15, zf98zzzp_70, zf98zzzp_17, zf98zzzp_2, zf98zzzp_3, zf98zzzp_4, zf98zzzp_5, ((0, .arg 1702, .int 0), true), ((0, .arg 3360, .int 0), true), ((0, .arg 1350, .int 0), true), ((0, .arg 1826, .int 0), true), zf98zzzp_6, zf98zzzp_14], i_bz)
theorem k_omm0g : cbody kR [(zWP, c_fndl)] (cpl1 zWB c_bn0 [q_oma0]) (cpl2 zWB c_bn0 [q_oma0]) (cleaf kR zWB c_bn0 [q_oma0]) 200 false true q_omm0g.2.2.1 q_omm0g.2.2.2 (cst zWB c_bn0.2.2.1.1 q_omm0g.1) (cst zWB c_bn0.2.2.1.2 q_omm0g.2.1) = true := by decide +kernel
theorem t_omm0g {X : pX} {ρ0 : sR} (hv : vok X ρ0) : CUTOK X kR zWB c_bn0 13 ρ0 q_omm0g := CUT_run kR_x kR_0 (Cs := [(zWP, c_fndl)]) (fun C hC => by rw [List.mem_singleton.mp hC]; exact s_fndl) c_bn0_f (Q := [q_oma0]) hv (fun q hq => by
    simp only [List.mem_cons, List.not_mem_nil, or_false] at hq
    rw [hq]; exact t_oma0 hv) 200 (b1 := false) (b2 := true) k_omm0g
theorem t_omm0 {X : pX} {ρ0 : sR} (hv : vok X ρ0) : CUTOK X kR zWB c_bn0 13 ρ0 q_omm0 := fun ρ k1 hF hI k4 => by
  exact t_omm0g hv ρ k1 ⟨hF.1, fcn (s9_n (X := X) (ρ := ρ) (ix := 5632) (s := 0) (p := 50) (by decide +kernel)) (hF.2)⟩ hI k4
noncomputable def q_omc8 : sCut := ((fr 0 95 34 [(0, tr 75), (1, .int 90), (2, .int 3)] [], [fr 0 93 73 [(0, tr 75)] [], fr 0 60 30 [(0, tr 39), (1, .int 0)] [], fBot], 11), (fr 0 297 64 [(0, tr 219), (1, .arg 1308)] [], [fr 0 300 36 [(0, tr 219), (1, .arg 1308)] [], fBot], 12), [zf98zzzp_15, zf98zzzp_17, zf98zzzp_2, zf98zzzp_3, zf98zzzp_4, zf98zzzp_5, ((0, .arg 1702, .int 0), true), ((0, .arg 3360, .int 0), true), ((0, .arg 1350, .int 0), true), ((0, .arg 1826, .int 0), true), zf98zzzp_6, zf98zzzp_14], i_bz)
theorem t_omc8 {X : pX} {ρ0 : sR} (hv : vok X ρ0) : CUTOK X kR zWB c_bn0 13 ρ0 q_omc8 := CUT_mono (t_omm0 hv) (fun ρ hF hI => ⟨⟨hF.1, fcn (hF.2 _ (List.mem_cons_self)) (fcn (k158.mpr (fun m hm => by cases hm)) (fun f hf => hF.2 f (List.mem_cons_of_mem _ hf)))⟩, hI⟩)
noncomputable def zf98zzzp_76 : sQ × Bool := ((6, .arg 60033, .elem (.arg 64321) (.int 105)), true)
noncomputable def zf98zzzp_77 : sQ × Bool := ((157, .add (.elem (.arg 64321) (.int 0)) (.add (.elem (.arg 64353) (.int 0)) (.arg 1308)), .int 7), true)
noncomputable def q_omb7 : sCut := ((fr 0 95 19 [(0, tr 75), (1, .int 90), (2, .int 3), (3, .int 105)] [.arg 60033, .int 105, tr 42], [fr 0 93 73 [(0, tr 75)] [], fr 0 60 30 [(0, tr 39), (1, .int 0)] [], fBot], 11), (fr 0 297 64 [(0, tr 219), (1, .arg 1308)] [], [fr 0 300 36 [(0, tr 219), (1, .arg 1308)] [], fBot], 12), [zf98zzzp_76, zf98zzzp_77, zf98zzzp_17, zf98zzzp_2, zf98zzzp_3, zf98zzzp_4, zf98zzzp_5, ((0, .arg 1702, .int 0), true), ((0, .arg 3360, .int 0), true), ((0, .arg 1350, .int 0), true), ((0, .arg 1826, .int 0), true), zf98zzzp_6, zf98zzzp_14], i_bz)
noncomputable def zf98zzzp_78 : sQ × Bool := ((8, .arg 60033, .long 0), false)
noncomputable def zf98zzzp_79 : sQ × Bool := ((8, .long 4, .arg 60033), false)
noncomputable def q_omb7o : sCut := ((fr 0 95 19 [(0, tr 75), (1, .int 90), (2, .int 3), (3, .int 105)] [.arg 60033, .int 105, tr 42], [fr 0 93 73 [(0, tr 75)] [], fr 0 60 30 [(0, tr 39), (1, .int 0)] [], fBot], 11), (fr 0 297 64 [(0, tr 219), (1, .arg 1308)] [], [fr 0 300 36 [(0, tr 219), (1, .arg 1308)] [], fBot], 12), [zf98zzzp_78, zf98zzzp_79, ((139, .add (.elem (.arg 64321) (.int 0)) (.add (.int 105) (.arg 60033)), .int 0), true), zf98zzzp_76, zf98zzzp_77, zf98zzzp_17, zf98zzzp_2, zf98zzzp_3, zf98zzzp_4, zf98zzzp_5, ((0, .arg 1702, .int 0), true), ((0, .arg 3360, .int 0), true), ((0, .arg 1350, .int 0), true), ((0, .arg 1826, .int 0), true), zf98zzzp_6, zf98zzzp_14], i_bz)
noncomputable def w_omb7o : List (sCut × List (Nat × sT) × List (Nat × sT × List (sT × sT))) := [(q_omc8T, [], [(64321, .arg 64321, []), (64353, .arg 64353, [])])]
theorem k_omb7o : cbody kR [(zWB, c_mco)] (cpl1 zWB c_bn0 [q_omc8T]) (cpl2 zWB c_bn0 [q_omc8T]) (cleafB kR zWB c_bn0 w_omb7o) 700 false false q_omb7o.2.2.1 q_omb7o.2.2.2 (cst zWB c_bn0.2.2.1.1 q_omb7o.1) (cst zWB c_bn0.2.2.1.2 q_omb7o.2.1) = true := by decide +kernel
theorem t_omb7o {X : pX} {ρ0 : sR} (hv : vok X ρ0) : CUTOK X kR zWB c_bn0 13 ρ0 q_omb7o := CUTOK_AT (fun ρ k1 hF hI k4 => AT_of (q := q_omb7o) rfl rfl (SEM_runB kR_x kR_0 (Cs := [(zWB, c_mco)]) (fun C hC => by rw [List.mem_singleton.mp hC]; exact s_mco) c_bn0_f (Q := w_omb7o) hv 700 (b1 := false) (b2 := false) k_omb7o k1 hF hI k4 (fun p hp ρ3 m1 m2 m3 m4 m5 m6 => by
  rw [List.mem_singleton.mp hp] at m2 m3 m5 m6 ⊢
  have eD : ρ3.1 1308 = ρ.1 1308 := (m4.1 1308 (by decide) (by decide)).1.trans (k4.1 1308 (by decide) (by decide)).1.symm
  obtain ⟨d0, d4⟩ := d_r hF.1
  have hB : ∀ j, ρ3.2.2.2.1 64353 j = ρ.2.2.2.1 64353 j := fun j => by
    have hw := m6 (64353, .arg 64353, []) (List.mem_cons_of_mem _ (List.mem_cons_self)) j
    have hw : Value.long (ρ3.2.2.2.1 64353 j) = Value.long (ρ.2.2.2.1 64353 j) := hw
    exact Value.long.inj hw
  have hA : ∀ j, ρ3.2.2.2.1 64321 j = ρ.2.2.2.1 64321 j := fun j => by
    have hw := m6 (64321, .arg 64321, []) (List.mem_cons_self) j
    have hw : Value.long (ρ3.2.2.2.1 64321 j) = Value.long (ρ.2.2.2.1 64321 j) := hw
    exact Value.long.inj hw
  have h7 := k157.mp (hF.2 _ (List.mem_cons_of_mem _ (List.mem_cons_of_mem _ (List.mem_cons_of_mem _ (List.mem_cons_of_mem _ (List.mem_cons_self))))))
  have h5 := k155.mp (hF.2 _ (List.mem_cons_of_mem _ (List.mem_cons_of_mem _ (List.mem_cons_of_mem _ (List.mem_cons_of_mem _ (List.mem_cons_of_mem _ (List.mem_cons_self)))))))
  have eB : ρ3.2.2.2.1 64353 = ρ.2.2.2.1 64353 := funext hB
  have ev : ρ.2.1 60033 = ρ.2.2.2.1 64321 105 := of_decide_eq_true (hF.2 _ (List.mem_cons_of_mem _ (List.mem_cons_of_mem _ (List.mem_cons_of_mem _ (List.mem_cons_self)))))
  have hc : (0 : Int) = amcode (ρ.2.2.2.1 64321) 105 (ρ.2.1 60033).toInt.toNat := of_decide_eq_true (hF.2 _ (List.mem_cons_of_mem _ (List.mem_cons_of_mem _ (List.mem_cons_self))))
  rw [ev] at hc
  have x7 : sc X ρ3 (157, .add (.elem (.arg 64321) (.int 0)) (.add (.elem (.arg 64353) (.int 0)) (.arg 1308)), .int 8) = true := k157.mpr (by
    rw [eB, eD]
    exact amn_c (K := 7) (m := 105) (by decide) rfl h7 h5 (Or.inl ⟨hc.symm, fun j _ => hA j⟩))
  have x5 : sc X ρ3 (155, .elem (.arg 64353) (.int 0), .int 0) = true := k155.mpr (by rw [eB]; exact h5)
  have lg60129 : ρ3.2.1 60129 = ρ.2.1 60129 := (m4.1 60129 (by decide) (by decide)).2.trans (k4.1 60129 (by decide) (by decide)).2.symm
  have lg60065 : ρ3.2.1 60065 = ρ.2.1 60065 := (m4.1 60065 (by decide) (by decide)).2.trans (k4.1 60065 (by decide) (by decide)).2.symm
  have lg60097 : ρ3.2.1 60097 = ρ.2.1 60097 := (m4.1 60097 (by decide) (by decide)).2.trans (k4.1 60097 (by decide) (by decide)).2.symm
  have z1 : sc X ρ3 (6, .elem (.arg 64321) (.int 1), .arg 60129) = true := decide_eq_true (show ρ3.2.2.2.1 64321 1 = ρ3.2.1 60129 by
    rw [hA, lg60129]
    exact of_decide_eq_true (hF.2 _ (List.mem_cons_of_mem _ (List.mem_cons_of_mem _ (List.mem_cons_of_mem _ (List.mem_cons_of_mem _ (List.mem_cons_of_mem _ (List.mem_cons_of_mem _ (List.mem_cons_self)))))))))
  have z2 : sc X ρ3 (6, .elem (.arg 64353) (.int 114), .arg 60065) = true := decide_eq_true (show ρ3.2.2.2.1 64353 114 = ρ3.2.1 60065 by
    rw [hB, lg60065]
    exact of_decide_eq_true (hF.2 _ (List.mem_cons_of_mem _ (List.mem_cons_of_mem _ (List.mem_cons_of_mem _ (List.mem_cons_of_mem _ (List.mem_cons_of_mem _ (List.mem_cons_of_mem _ (List.mem_cons_of_mem _ (List.mem_cons_self))))))))))
  have z3 : sc X ρ3 (6, .elem (.arg 64353) (.int 123), .arg 60097) = true := decide_eq_true (show ρ3.2.2.2.1 64353 123 = ρ3.2.1 60097 by
    rw [hB, lg60097]
    exact of_decide_eq_true (hF.2 _ (List.mem_cons_of_mem _ (List.mem_cons_of_mem _ (List.mem_cons_of_mem _ (List.mem_cons_of_mem _ (List.mem_cons_of_mem _ (List.mem_cons_of_mem _ (List.mem_cons_of_mem _ (List.mem_cons_of_mem _ (List.mem_cons_self)))))))))))
  exact t_omc8 hv ρ3 m1 ⟨m2.1, fcn (x7) (fcn (x5) (fcn (z1) (fcn (z2) (fcn (z3) (m2.2)))))⟩ m3 m4)))
noncomputable def q_omb7n : sCut := ((fr 0 95 19 [(0, tr 75), (1, .int 90), (2, .int 3), (3, .int 105)] [.arg 60033, .int 105, tr 42], [fr 0 93 73 [(0, tr 75)] [], fr 0 60 30 [(0, tr 39), (1, .int 0)] [], fBot], 11), (fr 0 297 64 [(0, tr 219), (1, .arg 1308)] [], [fr 0 300 36 [(0, tr 219), (1, .arg 1308)] [], fBot], 12), [zf98zzzp_78, zf98zzzp_79, ((139, .add (.elem (.arg 64321) (.int 0)) (.add (.int 105) (.arg 60033)), .int 100925505), true), zf98zzzp_76, zf98zzzp_77, zf98zzzp_17, zf98zzzp_2, zf98zzzp_3, zf98zzzp_4, zf98zzzp_5, ((0, .arg 1702, .int 0), true), ((0, .arg 3360, .int 0), true), ((0, .arg 1350, .int 0), true), ((0, .arg 1826, .int 0), true), zf98zzzp_6, zf98zzzp_14], i_bz)
noncomputable def w_omb7n : List (sCut × List (Nat × sT) × List (Nat × sT × List (sT × sT))) := [(q_omc8T, [], [(64321, .arg 64321, [(.int 109, .long 0), (.int 108, .long 0), (.int 107, .long 0), (.int 106, .long 0), (.int 105, .long 0)]), (64353, .arg 64353, [])])]
theorem k_omb7n : cbody kR [(zWB, c_mcn)] (cpl1 zWB c_bn0 [q_omc8T]) (cpl2 zWB c_bn0 [q_omc8T]) (cleafB kR zWB c_bn0 w_omb7n) 700 false false q_omb7n.2.2.1 q_omb7n.2.2.2 (cst zWB c_bn0.2.2.1.1 q_omb7n.1) (cst zWB c_bn0.2.2.1.2 q_omb7n.2.1) = true := by decide +kernel
theorem t_omb7n {X : pX} {ρ0 : sR} (hv : vok X ρ0) : CUTOK X kR zWB c_bn0 13 ρ0 q_omb7n := CUTOK_AT (fun ρ k1 hF hI k4 => AT_of (q := q_omb7n) rfl rfl (SEM_runB kR_x kR_0 (Cs := [(zWB, c_mcn)]) (fun C hC => by rw [List.mem_singleton.mp hC]; exact s_mcn) c_bn0_f (Q := w_omb7n) hv 700 (b1 := false) (b2 := false) k_omb7n k1 hF hI k4 (fun p hp ρ3 m1 m2 m3 m4 m5 m6 => by
  rw [List.mem_singleton.mp hp] at m2 m3 m5 m6 ⊢
  have eD : ρ3.1 1308 = ρ.1 1308 := (m4.1 1308 (by decide) (by decide)).1.trans (k4.1 1308 (by decide) (by decide)).1.symm
  obtain ⟨d0, d4⟩ := d_r hF.1
  have hB : ∀ j, ρ3.2.2.2.1 64353 j = ρ.2.2.2.1 64353 j := fun j => by
    have hw := m6 (64353, .arg 64353, []) (List.mem_cons_of_mem _ (List.mem_cons_self)) j
    have hw : Value.long (ρ3.2.2.2.1 64353 j) = Value.long (ρ.2.2.2.1 64353 j) := hw
    exact Value.long.inj hw
  obtain ⟨hAn, hAf⟩ := fiv_w (f := ρ.2.2.2.1 64321) (g := ρ3.2.2.2.1 64321) (m := 105) (d := (ρ.1 1308).toInt) (v0 := 0) (v1 := 0) (v2 := 0) (v3 := 0) (v4 := 0) (fun j => m6 (64321, .arg 64321, [(.int 109, .long 0), (.int 108, .long 0), (.int 107, .long 0), (.int 106, .long 0), (.int 105, .long 0)]) (List.mem_cons_self) j) (amw_105 d0 d4 (i := 0) (by decide)) (amw_105 d0 d4 (i := 1) (by decide)) (amw_105 d0 d4 (i := 2) (by decide)) (amw_105 d0 d4 (i := 3) (by decide)) (amw_105 d0 d4 (i := 4) (by decide))
  have h7 := k157.mp (hF.2 _ (List.mem_cons_of_mem _ (List.mem_cons_of_mem _ (List.mem_cons_of_mem _ (List.mem_cons_of_mem _ (List.mem_cons_self))))))
  have h5 := k155.mp (hF.2 _ (List.mem_cons_of_mem _ (List.mem_cons_of_mem _ (List.mem_cons_of_mem _ (List.mem_cons_of_mem _ (List.mem_cons_of_mem _ (List.mem_cons_self)))))))
  have eB : ρ3.2.2.2.1 64353 = ρ.2.2.2.1 64353 := funext hB
  have ev : ρ.2.1 60033 = ρ.2.2.2.1 64321 105 := of_decide_eq_true (hF.2 _ (List.mem_cons_of_mem _ (List.mem_cons_of_mem _ (List.mem_cons_of_mem _ (List.mem_cons_self)))))
  have hc : (100925505 : Int) = amcode (ρ.2.2.2.1 64321) 105 (ρ.2.1 60033).toInt.toNat := of_decide_eq_true (hF.2 _ (List.mem_cons_of_mem _ (List.mem_cons_of_mem _ (List.mem_cons_self))))
  rw [ev] at hc
  have x7 : sc X ρ3 (157, .add (.elem (.arg 64321) (.int 0)) (.add (.elem (.arg 64353) (.int 0)) (.arg 1308)), .int 8) = true := k157.mpr (by
    rw [eB, eD]
    exact amn_c (K := 7) (m := 105) (by decide) rfl h7 h5 (Or.inr ⟨by rw [← hc]; decide, fun j hj => by
    by_cases hi : 105 ≤ j ∧ j < 105 + 5
    · rw [if_pos hi]; exact hAf j hi.1 hi.2
    · rw [if_neg hi, hAn j hi]⟩))
  have x5 : sc X ρ3 (155, .elem (.arg 64353) (.int 0), .int 0) = true := k155.mpr (by rw [eB]; exact h5)
  have lg60129 : ρ3.2.1 60129 = ρ.2.1 60129 := (m4.1 60129 (by decide) (by decide)).2.trans (k4.1 60129 (by decide) (by decide)).2.symm
  have lg60065 : ρ3.2.1 60065 = ρ.2.1 60065 := (m4.1 60065 (by decide) (by decide)).2.trans (k4.1 60065 (by decide) (by decide)).2.symm
  have lg60097 : ρ3.2.1 60097 = ρ.2.1 60097 := (m4.1 60097 (by decide) (by decide)).2.trans (k4.1 60097 (by decide) (by decide)).2.symm
  have z1 : sc X ρ3 (6, .elem (.arg 64321) (.int 1), .arg 60129) = true := decide_eq_true (show ρ3.2.2.2.1 64321 1 = ρ3.2.1 60129 by
    rw [hAn 1 (by decide), lg60129]
    exact of_decide_eq_true (hF.2 _ (List.mem_cons_of_mem _ (List.mem_cons_of_mem _ (List.mem_cons_of_mem _ (List.mem_cons_of_mem _ (List.mem_cons_of_mem _ (List.mem_cons_of_mem _ (List.mem_cons_self)))))))))
  have z2 : sc X ρ3 (6, .elem (.arg 64353) (.int 114), .arg 60065) = true := decide_eq_true (show ρ3.2.2.2.1 64353 114 = ρ3.2.1 60065 by
    rw [hB, lg60065]
    exact of_decide_eq_true (hF.2 _ (List.mem_cons_of_mem _ (List.mem_cons_of_mem _ (List.mem_cons_of_mem _ (List.mem_cons_of_mem _ (List.mem_cons_of_mem _ (List.mem_cons_of_mem _ (List.mem_cons_of_mem _ (List.mem_cons_self))))))))))
  have z3 : sc X ρ3 (6, .elem (.arg 64353) (.int 123), .arg 60097) = true := decide_eq_true (show ρ3.2.2.2.1 64353 123 = ρ3.2.1 60097 by
    rw [hB, lg60097]
    exact of_decide_eq_true (hF.2 _ (List.mem_cons_of_mem _ (List.mem_cons_of_mem _ (List.mem_cons_of_mem _ (List.mem_cons_of_mem _ (List.mem_cons_of_mem _ (List.mem_cons_of_mem _ (List.mem_cons_of_mem _ (List.mem_cons_of_mem _ (List.mem_cons_self)))))))))))
  exact t_omc8 hv ρ3 m1 ⟨m2.1, fcn (x7) (fcn (x5) (fcn (z1) (fcn (z2) (fcn (z3) (m2.2)))))⟩ m3 m4)))
noncomputable def q_omb7l : sCut := ((fr 0 95 19 [(0, tr 75), (1, .int 90), (2, .int 3), (3, .int 105)] [.arg 60033, .int 105, tr 42], [fr 0 93 73 [(0, tr 75)] [], fr 0 60 30 [(0, tr 39), (1, .int 0)] [], fBot], 11), (fr 0 297 64 [(0, tr 219), (1, .arg 1308)] [], [fr 0 300 36 [(0, tr 219), (1, .arg 1308)] [], fBot], 12), [zf98zzzp_78, zf98zzzp_79, ((139, .add (.elem (.arg 64321) (.int 0)) (.add (.int 105) (.arg 60033)), .int 100925506), true), zf98zzzp_76, zf98zzzp_77, zf98zzzp_17, zf98zzzp_2, zf98zzzp_3, zf98zzzp_4, zf98zzzp_5, ((0, .arg 1702, .int 0), true), ((0, .arg 3360, .int 0), true), ((0, .arg 1350, .int 0), true), ((0, .arg 1826, .int 0), true), zf98zzzp_6, zf98zzzp_14], i_bz)
noncomputable def w_omb7l : List (sCut × List (Nat × sT) × List (Nat × sT × List (sT × sT))) := [(q_omc8T, [], [(64321, .arg 64321, [(.int 109, .long 0), (.int 108, .long 0), (.int 107, .long 0), (.int 106, .long 0), (.int 105, .long 0)]), (64353, .arg 64353, [])])]
theorem k_omb7l : cbody kR [(zWB, c_mcl)] (cpl1 zWB c_bn0 [q_omc8T]) (cpl2 zWB c_bn0 [q_omc8T]) (cleafB kR zWB c_bn0 w_omb7l) 700 false false q_omb7l.2.2.1 q_omb7l.2.2.2 (cst zWB c_bn0.2.2.1.1 q_omb7l.1) (cst zWB c_bn0.2.2.1.2 q_omb7l.2.1) = true := by decide +kernel
theorem t_omb7l {X : pX} {ρ0 : sR} (hv : vok X ρ0) : CUTOK X kR zWB c_bn0 13 ρ0 q_omb7l := CUTOK_AT (fun ρ k1 hF hI k4 => AT_of (q := q_omb7l) rfl rfl (SEM_runB kR_x kR_0 (Cs := [(zWB, c_mcl)]) (fun C hC => by rw [List.mem_singleton.mp hC]; exact s_mcl) c_bn0_f (Q := w_omb7l) hv 700 (b1 := false) (b2 := false) k_omb7l k1 hF hI k4 (fun p hp ρ3 m1 m2 m3 m4 m5 m6 => by
  rw [List.mem_singleton.mp hp] at m2 m3 m5 m6 ⊢
  have eD : ρ3.1 1308 = ρ.1 1308 := (m4.1 1308 (by decide) (by decide)).1.trans (k4.1 1308 (by decide) (by decide)).1.symm
  obtain ⟨d0, d4⟩ := d_r hF.1
  have hB : ∀ j, ρ3.2.2.2.1 64353 j = ρ.2.2.2.1 64353 j := fun j => by
    have hw := m6 (64353, .arg 64353, []) (List.mem_cons_of_mem _ (List.mem_cons_self)) j
    have hw : Value.long (ρ3.2.2.2.1 64353 j) = Value.long (ρ.2.2.2.1 64353 j) := hw
    exact Value.long.inj hw
  obtain ⟨hAn, hAf⟩ := fiv_w (f := ρ.2.2.2.1 64321) (g := ρ3.2.2.2.1 64321) (m := 105) (d := (ρ.1 1308).toInt) (v0 := 0) (v1 := 0) (v2 := 0) (v3 := 0) (v4 := 0) (fun j => m6 (64321, .arg 64321, [(.int 109, .long 0), (.int 108, .long 0), (.int 107, .long 0), (.int 106, .long 0), (.int 105, .long 0)]) (List.mem_cons_self) j) (amw_105 d0 d4 (i := 0) (by decide)) (amw_105 d0 d4 (i := 1) (by decide)) (amw_105 d0 d4 (i := 2) (by decide)) (amw_105 d0 d4 (i := 3) (by decide)) (amw_105 d0 d4 (i := 4) (by decide))
  have h7 := k157.mp (hF.2 _ (List.mem_cons_of_mem _ (List.mem_cons_of_mem _ (List.mem_cons_of_mem _ (List.mem_cons_of_mem _ (List.mem_cons_self))))))
  have h5 := k155.mp (hF.2 _ (List.mem_cons_of_mem _ (List.mem_cons_of_mem _ (List.mem_cons_of_mem _ (List.mem_cons_of_mem _ (List.mem_cons_of_mem _ (List.mem_cons_self)))))))
  have eB : ρ3.2.2.2.1 64353 = ρ.2.2.2.1 64353 := funext hB
  have ev : ρ.2.1 60033 = ρ.2.2.2.1 64321 105 := of_decide_eq_true (hF.2 _ (List.mem_cons_of_mem _ (List.mem_cons_of_mem _ (List.mem_cons_of_mem _ (List.mem_cons_self)))))
  have hc : (100925506 : Int) = amcode (ρ.2.2.2.1 64321) 105 (ρ.2.1 60033).toInt.toNat := of_decide_eq_true (hF.2 _ (List.mem_cons_of_mem _ (List.mem_cons_of_mem _ (List.mem_cons_self))))
  rw [ev] at hc
  have x7 : sc X ρ3 (157, .add (.elem (.arg 64321) (.int 0)) (.add (.elem (.arg 64353) (.int 0)) (.arg 1308)), .int 8) = true := k157.mpr (by
    rw [eB, eD]
    exact amn_c (K := 7) (m := 105) (by decide) rfl h7 h5 (Or.inr ⟨by rw [← hc]; decide, fun j hj => by
    by_cases hi : 105 ≤ j ∧ j < 105 + 5
    · rw [if_pos hi]; exact hAf j hi.1 hi.2
    · rw [if_neg hi, hAn j hi]⟩))
  have x5 : sc X ρ3 (155, .elem (.arg 64353) (.int 0), .int 0) = true := k155.mpr (by rw [eB]; exact h5)
  have lg60129 : ρ3.2.1 60129 = ρ.2.1 60129 := (m4.1 60129 (by decide) (by decide)).2.trans (k4.1 60129 (by decide) (by decide)).2.symm
  have lg60065 : ρ3.2.1 60065 = ρ.2.1 60065 := (m4.1 60065 (by decide) (by decide)).2.trans (k4.1 60065 (by decide) (by decide)).2.symm
  have lg60097 : ρ3.2.1 60097 = ρ.2.1 60097 := (m4.1 60097 (by decide) (by decide)).2.trans (k4.1 60097 (by decide) (by decide)).2.symm
  have z1 : sc X ρ3 (6, .elem (.arg 64321) (.int 1), .arg 60129) = true := decide_eq_true (show ρ3.2.2.2.1 64321 1 = ρ3.2.1 60129 by
    rw [hAn 1 (by decide), lg60129]
    exact of_decide_eq_true (hF.2 _ (List.mem_cons_of_mem _ (List.mem_cons_of_mem _ (List.mem_cons_of_mem _ (List.mem_cons_of_mem _ (List.mem_cons_of_mem _ (List.mem_cons_of_mem _ (List.mem_cons_self)))))))))
  have z2 : sc X ρ3 (6, .elem (.arg 64353) (.int 114), .arg 60065) = true := decide_eq_true (show ρ3.2.2.2.1 64353 114 = ρ3.2.1 60065 by
    rw [hB, lg60065]
    exact of_decide_eq_true (hF.2 _ (List.mem_cons_of_mem _ (List.mem_cons_of_mem _ (List.mem_cons_of_mem _ (List.mem_cons_of_mem _ (List.mem_cons_of_mem _ (List.mem_cons_of_mem _ (List.mem_cons_of_mem _ (List.mem_cons_self))))))))))
  have z3 : sc X ρ3 (6, .elem (.arg 64353) (.int 123), .arg 60097) = true := decide_eq_true (show ρ3.2.2.2.1 64353 123 = ρ3.2.1 60097 by
    rw [hB, lg60097]
    exact of_decide_eq_true (hF.2 _ (List.mem_cons_of_mem _ (List.mem_cons_of_mem _ (List.mem_cons_of_mem _ (List.mem_cons_of_mem _ (List.mem_cons_of_mem _ (List.mem_cons_of_mem _ (List.mem_cons_of_mem _ (List.mem_cons_of_mem _ (List.mem_cons_self)))))))))))
  exact t_omc8 hv ρ3 m1 ⟨m2.1, fcn (x7) (fcn (x5) (fcn (z1) (fcn (z2) (fcn (z3) (m2.2)))))⟩ m3 m4)))
theorem t_omb7 {X : pX} {ρ0 : sR} (hv : vok X ρ0) : CUTOK X kR zWB c_bn0 13 ρ0 q_omb7 := fun ρ k1 hF hI k4 => by
  have h5 := k155.mp (hF.2 _ (List.mem_cons_of_mem _ (List.mem_cons_of_mem _ (List.mem_cons_self))))
  have h7 := (k157.mp (hF.2 _ (List.mem_cons_of_mem _ (List.mem_cons_self))) 105 (by decide)).resolve_left (by decide)
  have eA : (ρ.2.2.2.1 64321 105).toInt = (ρ.2.2.2.1 64353 105).toInt := h7.trans (amn_i (K := 7) (m := 105) (by decide) (by decide) rfl (by decide) (by decide))
  obtain ⟨v0, v4⟩ := ev_m4 (m := 105) (by decide) (h5 105 (by decide))
  rw [← eA] at v0 v4
  have ev : ρ.2.1 60033 = ρ.2.2.2.1 64321 105 := of_decide_eq_true (hF.2 _ (List.mem_cons_self))
  rw [← ev] at v0 v4
  rcases am_3 (g := ρ.2.2.2.1 64321) (m := 105) (n := (ρ.2.1 60033).toInt.toNat) with h | h | h
  · exact t_omb7o hv ρ k1 ⟨hF.1, fcn (dl_lf (x := ρ.2.1 60033) (y := 0) (show (0 : Int) ≤ _ from v0)) (fcn (dl_lf (x := 4) (y := ρ.2.1 60033) (show _ ≤ (4 : Int) from v4)) (fcn (decide_eq_true (show (0 : Int) = amcode (ρ.2.2.2.1 64321) 105 (ρ.2.1 60033).toInt.toNat from h.symm)) (hF.2)))⟩ hI k4
  · exact t_omb7n hv ρ k1 ⟨hF.1, fcn (dl_lf (x := ρ.2.1 60033) (y := 0) (show (0 : Int) ≤ _ from v0)) (fcn (dl_lf (x := 4) (y := ρ.2.1 60033) (show _ ≤ (4 : Int) from v4)) (fcn (decide_eq_true (show (100925505 : Int) = amcode (ρ.2.2.2.1 64321) 105 (ρ.2.1 60033).toInt.toNat from h.symm)) (hF.2)))⟩ hI k4
  · exact t_omb7l hv ρ k1 ⟨hF.1, fcn (dl_lf (x := ρ.2.1 60033) (y := 0) (show (0 : Int) ≤ _ from v0)) (fcn (dl_lf (x := 4) (y := ρ.2.1 60033) (show _ ≤ (4 : Int) from v4)) (fcn (decide_eq_true (show (100925506 : Int) = amcode (ρ.2.2.2.1 64321) 105 (ρ.2.1 60033).toInt.toNat from h.symm)) (hF.2)))⟩ hI k4
noncomputable def q_omc7 : sCut := ((fr 0 95 34 [(0, tr 75), (1, .int 90), (2, .int 2)] [], [fr 0 93 73 [(0, tr 75)] [], fr 0 60 30 [(0, tr 39), (1, .int 0)] [], fBot], 11), (fr 0 297 64 [(0, tr 219), (1, .arg 1308)] [], [fr 0 300 36 [(0, tr 219), (1, .arg 1308)] [], fBot], 12), [zf98zzzp_77, zf98zzzp_17, zf98zzzp_2, zf98zzzp_3, zf98zzzp_4, zf98zzzp_5, ((0, .arg 1702, .int 0), true), ((0, .arg 3360, .int 0), true), ((0, .arg 1350, .int 0), true), ((0, .arg 1826, .int 0), true), zf98zzzp_6, zf98zzzp_14], i_bz)
theorem k_omc7 : cbody kR [] (cpl1 zWB c_bn0 [q_omb7]) (cpl2 zWB c_bn0 [q_omb7]) (cleaf kR zWB c_bn0 [q_omb7]) 60 true false q_omc7.2.2.1 q_omc7.2.2.2 (cst zWB c_bn0.2.2.1.1 q_omc7.1) (cst zWB c_bn0.2.2.1.2 q_omc7.2.1) = true := by decide +kernel
theorem t_omc7 {X : pX} {ρ0 : sR} (hv : vok X ρ0) : CUTOK X kR zWB c_bn0 13 ρ0 q_omc7 := CUT_run kR_x kR_0 (Cs := []) (fun C hC => by cases hC) c_bn0_f (Q := [q_omb7]) hv (fun q hq => by
    simp only [List.mem_cons, List.not_mem_nil, or_false] at hq
    rw [hq]; exact t_omb7 hv) 60 (b1 := true) (b2 := false) k_omc7
noncomputable def zf98zzzp_80 : sQ × Bool := ((6, .arg 60033, .elem (.arg 64321) (.int 100)), true)
noncomputable def zf98zzzp_81 : sQ × Bool := ((157, .add (.elem (.arg 64321) (.int 0)) (.add (.elem (.arg 64353) (.int 0)) (.arg 1308)), .int 6), true)
noncomputable def q_omb6 : sCut := ((fr 0 95 19 [(0, tr 75), (1, .int 90), (2, .int 2), (3, .int 100)] [.arg 60033, .int 100, tr 42], [fr 0 93 73 [(0, tr 75)] [], fr 0 60 30 [(0, tr 39), (1, .int 0)] [], fBot], 11), (fr 0 297 64 [(0, tr 219), (1, .arg 1308)] [], [fr 0 300 36 [(0, tr 219), (1, .arg 1308)] [], fBot], 12), [zf98zzzp_80, zf98zzzp_81, zf98zzzp_17, zf98zzzp_2, zf98zzzp_3, zf98zzzp_4, zf98zzzp_5, ((0, .arg 1702, .int 0), true), ((0, .arg 3360, .int 0), true), ((0, .arg 1350, .int 0), true), ((0, .arg 1826, .int 0), true), zf98zzzp_6, zf98zzzp_14], i_bz)
noncomputable def q_omb6o : sCut := ((fr 0 95 19 [(0, tr 75), (1, .int 90), (2, .int 2), (3, .int 100)] [.arg 60033, .int 100, tr 42], [fr 0 93 73 [(0, tr 75)] [], fr 0 60 30 [(0, tr 39), (1, .int 0)] [], fBot], 11), (fr 0 297 64 [(0, tr 219), (1, .arg 1308)] [], [fr 0 300 36 [(0, tr 219), (1, .arg 1308)] [], fBot], 12), [zf98zzzp_78, zf98zzzp_79, ((139, .add (.elem (.arg 64321) (.int 0)) (.add (.int 100) (.arg 60033)), .int 0), true), zf98zzzp_80, zf98zzzp_81, zf98zzzp_17, zf98zzzp_2, zf98zzzp_3, zf98zzzp_4, zf98zzzp_5, ((0, .arg 1702, .int 0), true), ((0, .arg 3360, .int 0), true), ((0, .arg 1350, .int 0), true), ((0, .arg 1826, .int 0), true), zf98zzzp_6, zf98zzzp_14], i_bz)
noncomputable def w_omb6o : List (sCut × List (Nat × sT) × List (Nat × sT × List (sT × sT))) := [(q_omc7T, [], [(64321, .arg 64321, []), (64353, .arg 64353, [])])]
theorem k_omb6o : cbody kR [(zWB, c_mco)] (cpl1 zWB c_bn0 [q_omc7T]) (cpl2 zWB c_bn0 [q_omc7T]) (cleafB kR zWB c_bn0 w_omb6o) 700 false false q_omb6o.2.2.1 q_omb6o.2.2.2 (cst zWB c_bn0.2.2.1.1 q_omb6o.1) (cst zWB c_bn0.2.2.1.2 q_omb6o.2.1) = true := by decide +kernel
theorem t_omb6o {X : pX} {ρ0 : sR} (hv : vok X ρ0) : CUTOK X kR zWB c_bn0 13 ρ0 q_omb6o := CUTOK_AT (fun ρ k1 hF hI k4 => AT_of (q := q_omb6o) rfl rfl (SEM_runB kR_x kR_0 (Cs := [(zWB, c_mco)]) (fun C hC => by rw [List.mem_singleton.mp hC]; exact s_mco) c_bn0_f (Q := w_omb6o) hv 700 (b1 := false) (b2 := false) k_omb6o k1 hF hI k4 (fun p hp ρ3 m1 m2 m3 m4 m5 m6 => by
  rw [List.mem_singleton.mp hp] at m2 m3 m5 m6 ⊢
  have eD : ρ3.1 1308 = ρ.1 1308 := (m4.1 1308 (by decide) (by decide)).1.trans (k4.1 1308 (by decide) (by decide)).1.symm
  obtain ⟨d0, d4⟩ := d_r hF.1
  have hB : ∀ j, ρ3.2.2.2.1 64353 j = ρ.2.2.2.1 64353 j := fun j => by
    have hw := m6 (64353, .arg 64353, []) (List.mem_cons_of_mem _ (List.mem_cons_self)) j
    have hw : Value.long (ρ3.2.2.2.1 64353 j) = Value.long (ρ.2.2.2.1 64353 j) := hw
    exact Value.long.inj hw
  have hA : ∀ j, ρ3.2.2.2.1 64321 j = ρ.2.2.2.1 64321 j := fun j => by
    have hw := m6 (64321, .arg 64321, []) (List.mem_cons_self) j
    have hw : Value.long (ρ3.2.2.2.1 64321 j) = Value.long (ρ.2.2.2.1 64321 j) := hw
    exact Value.long.inj hw
  have h7 := k157.mp (hF.2 _ (List.mem_cons_of_mem _ (List.mem_cons_of_mem _ (List.mem_cons_of_mem _ (List.mem_cons_of_mem _ (List.mem_cons_self))))))
  have h5 := k155.mp (hF.2 _ (List.mem_cons_of_mem _ (List.mem_cons_of_mem _ (List.mem_cons_of_mem _ (List.mem_cons_of_mem _ (List.mem_cons_of_mem _ (List.mem_cons_self)))))))
  have eB : ρ3.2.2.2.1 64353 = ρ.2.2.2.1 64353 := funext hB
  have ev : ρ.2.1 60033 = ρ.2.2.2.1 64321 100 := of_decide_eq_true (hF.2 _ (List.mem_cons_of_mem _ (List.mem_cons_of_mem _ (List.mem_cons_of_mem _ (List.mem_cons_self)))))
  have hc : (0 : Int) = amcode (ρ.2.2.2.1 64321) 100 (ρ.2.1 60033).toInt.toNat := of_decide_eq_true (hF.2 _ (List.mem_cons_of_mem _ (List.mem_cons_of_mem _ (List.mem_cons_self))))
  rw [ev] at hc
  have x7 : sc X ρ3 (157, .add (.elem (.arg 64321) (.int 0)) (.add (.elem (.arg 64353) (.int 0)) (.arg 1308)), .int 7) = true := k157.mpr (by
    rw [eB, eD]
    exact amn_c (K := 6) (m := 100) (by decide) rfl h7 h5 (Or.inl ⟨hc.symm, fun j _ => hA j⟩))
  have x5 : sc X ρ3 (155, .elem (.arg 64353) (.int 0), .int 0) = true := k155.mpr (by rw [eB]; exact h5)
  have lg60129 : ρ3.2.1 60129 = ρ.2.1 60129 := (m4.1 60129 (by decide) (by decide)).2.trans (k4.1 60129 (by decide) (by decide)).2.symm
  have lg60065 : ρ3.2.1 60065 = ρ.2.1 60065 := (m4.1 60065 (by decide) (by decide)).2.trans (k4.1 60065 (by decide) (by decide)).2.symm
  have lg60097 : ρ3.2.1 60097 = ρ.2.1 60097 := (m4.1 60097 (by decide) (by decide)).2.trans (k4.1 60097 (by decide) (by decide)).2.symm
  have z1 : sc X ρ3 (6, .elem (.arg 64321) (.int 1), .arg 60129) = true := decide_eq_true (show ρ3.2.2.2.1 64321 1 = ρ3.2.1 60129 by
    rw [hA, lg60129]
    exact of_decide_eq_true (hF.2 _ (List.mem_cons_of_mem _ (List.mem_cons_of_mem _ (List.mem_cons_of_mem _ (List.mem_cons_of_mem _ (List.mem_cons_of_mem _ (List.mem_cons_of_mem _ (List.mem_cons_self)))))))))
  have z2 : sc X ρ3 (6, .elem (.arg 64353) (.int 114), .arg 60065) = true := decide_eq_true (show ρ3.2.2.2.1 64353 114 = ρ3.2.1 60065 by
    rw [hB, lg60065]
    exact of_decide_eq_true (hF.2 _ (List.mem_cons_of_mem _ (List.mem_cons_of_mem _ (List.mem_cons_of_mem _ (List.mem_cons_of_mem _ (List.mem_cons_of_mem _ (List.mem_cons_of_mem _ (List.mem_cons_of_mem _ (List.mem_cons_self))))))))))
  have z3 : sc X ρ3 (6, .elem (.arg 64353) (.int 123), .arg 60097) = true := decide_eq_true (show ρ3.2.2.2.1 64353 123 = ρ3.2.1 60097 by
    rw [hB, lg60097]
    exact of_decide_eq_true (hF.2 _ (List.mem_cons_of_mem _ (List.mem_cons_of_mem _ (List.mem_cons_of_mem _ (List.mem_cons_of_mem _ (List.mem_cons_of_mem _ (List.mem_cons_of_mem _ (List.mem_cons_of_mem _ (List.mem_cons_of_mem _ (List.mem_cons_self)))))))))))
  exact t_omc7 hv ρ3 m1 ⟨m2.1, fcn (x7) (fcn (x5) (fcn (z1) (fcn (z2) (fcn (z3) (m2.2)))))⟩ m3 m4)))
noncomputable def q_omb6n : sCut := ((fr 0 95 19 [(0, tr 75), (1, .int 90), (2, .int 2), (3, .int 100)] [.arg 60033, .int 100, tr 42], [fr 0 93 73 [(0, tr 75)] [], fr 0 60 30 [(0, tr 39), (1, .int 0)] [], fBot], 11), (fr 0 297 64 [(0, tr 219), (1, .arg 1308)] [], [fr 0 300 36 [(0, tr 219), (1, .arg 1308)] [], fBot], 12), [zf98zzzp_78, zf98zzzp_79, ((139, .add (.elem (.arg 64321) (.int 0)) (.add (.int 100) (.arg 60033)), .int 100925505), true), zf98zzzp_80, zf98zzzp_81, zf98zzzp_17, zf98zzzp_2, zf98zzzp_3, zf98zzzp_4, zf98zzzp_5, ((0, .arg 1702, .int 0), true), ((0, .arg 3360, .int 0), true), ((0, .arg 1350, .int 0), true), ((0, .arg 1826, .int 0), true), zf98zzzp_6, zf98zzzp_14], i_bz)
noncomputable def w_omb6n : List (sCut × List (Nat × sT) × List (Nat × sT × List (sT × sT))) := [(q_omc7T, [], [(64321, .arg 64321, [(.int 104, .long 0), (.int 103, .long 0), (.int 102, .long 0), (.int 101, .long 0), (.int 100, .long 0)]), (64353, .arg 64353, [])])]
theorem k_omb6n : cbody kR [(zWB, c_mcn)] (cpl1 zWB c_bn0 [q_omc7T]) (cpl2 zWB c_bn0 [q_omc7T]) (cleafB kR zWB c_bn0 w_omb6n) 700 false false q_omb6n.2.2.1 q_omb6n.2.2.2 (cst zWB c_bn0.2.2.1.1 q_omb6n.1) (cst zWB c_bn0.2.2.1.2 q_omb6n.2.1) = true := by decide +kernel
theorem t_omb6n {X : pX} {ρ0 : sR} (hv : vok X ρ0) : CUTOK X kR zWB c_bn0 13 ρ0 q_omb6n := CUTOK_AT (fun ρ k1 hF hI k4 => AT_of (q := q_omb6n) rfl rfl (SEM_runB kR_x kR_0 (Cs := [(zWB, c_mcn)]) (fun C hC => by rw [List.mem_singleton.mp hC]; exact s_mcn) c_bn0_f (Q := w_omb6n) hv 700 (b1 := false) (b2 := false) k_omb6n k1 hF hI k4 (fun p hp ρ3 m1 m2 m3 m4 m5 m6 => by
  rw [List.mem_singleton.mp hp] at m2 m3 m5 m6 ⊢
  have eD : ρ3.1 1308 = ρ.1 1308 := (m4.1 1308 (by decide) (by decide)).1.trans (k4.1 1308 (by decide) (by decide)).1.symm
  obtain ⟨d0, d4⟩ := d_r hF.1
  have hB : ∀ j, ρ3.2.2.2.1 64353 j = ρ.2.2.2.1 64353 j := fun j => by
    have hw := m6 (64353, .arg 64353, []) (List.mem_cons_of_mem _ (List.mem_cons_self)) j
    have hw : Value.long (ρ3.2.2.2.1 64353 j) = Value.long (ρ.2.2.2.1 64353 j) := hw
    exact Value.long.inj hw
  obtain ⟨hAn, hAf⟩ := fiv_w (f := ρ.2.2.2.1 64321) (g := ρ3.2.2.2.1 64321) (m := 100) (d := (ρ.1 1308).toInt) (v0 := 0) (v1 := 0) (v2 := 0) (v3 := 0) (v4 := 0) (fun j => m6 (64321, .arg 64321, [(.int 104, .long 0), (.int 103, .long 0), (.int 102, .long 0), (.int 101, .long 0), (.int 100, .long 0)]) (List.mem_cons_self) j) (amw_100 d0 d4 (i := 0) (by decide)) (amw_100 d0 d4 (i := 1) (by decide)) (amw_100 d0 d4 (i := 2) (by decide)) (amw_100 d0 d4 (i := 3) (by decide)) (amw_100 d0 d4 (i := 4) (by decide))
  have h7 := k157.mp (hF.2 _ (List.mem_cons_of_mem _ (List.mem_cons_of_mem _ (List.mem_cons_of_mem _ (List.mem_cons_of_mem _ (List.mem_cons_self))))))
  have h5 := k155.mp (hF.2 _ (List.mem_cons_of_mem _ (List.mem_cons_of_mem _ (List.mem_cons_of_mem _ (List.mem_cons_of_mem _ (List.mem_cons_of_mem _ (List.mem_cons_self)))))))
  have eB : ρ3.2.2.2.1 64353 = ρ.2.2.2.1 64353 := funext hB
  have ev : ρ.2.1 60033 = ρ.2.2.2.1 64321 100 := of_decide_eq_true (hF.2 _ (List.mem_cons_of_mem _ (List.mem_cons_of_mem _ (List.mem_cons_of_mem _ (List.mem_cons_self)))))
  have hc : (100925505 : Int) = amcode (ρ.2.2.2.1 64321) 100 (ρ.2.1 60033).toInt.toNat := of_decide_eq_true (hF.2 _ (List.mem_cons_of_mem _ (List.mem_cons_of_mem _ (List.mem_cons_self))))
  rw [ev] at hc
  have x7 : sc X ρ3 (157, .add (.elem (.arg 64321) (.int 0)) (.add (.elem (.arg 64353) (.int 0)) (.arg 1308)), .int 7) = true := k157.mpr (by
    rw [eB, eD]
    exact amn_c (K := 6) (m := 100) (by decide) rfl h7 h5 (Or.inr ⟨by rw [← hc]; decide, fun j hj => by
    by_cases hi : 100 ≤ j ∧ j < 100 + 5
    · rw [if_pos hi]; exact hAf j hi.1 hi.2
    · rw [if_neg hi, hAn j hi]⟩))
  have x5 : sc X ρ3 (155, .elem (.arg 64353) (.int 0), .int 0) = true := k155.mpr (by rw [eB]; exact h5)
  have lg60129 : ρ3.2.1 60129 = ρ.2.1 60129 := (m4.1 60129 (by decide) (by decide)).2.trans (k4.1 60129 (by decide) (by decide)).2.symm
  have lg60065 : ρ3.2.1 60065 = ρ.2.1 60065 := (m4.1 60065 (by decide) (by decide)).2.trans (k4.1 60065 (by decide) (by decide)).2.symm
  have lg60097 : ρ3.2.1 60097 = ρ.2.1 60097 := (m4.1 60097 (by decide) (by decide)).2.trans (k4.1 60097 (by decide) (by decide)).2.symm
  have z1 : sc X ρ3 (6, .elem (.arg 64321) (.int 1), .arg 60129) = true := decide_eq_true (show ρ3.2.2.2.1 64321 1 = ρ3.2.1 60129 by
    rw [hAn 1 (by decide), lg60129]
    exact of_decide_eq_true (hF.2 _ (List.mem_cons_of_mem _ (List.mem_cons_of_mem _ (List.mem_cons_of_mem _ (List.mem_cons_of_mem _ (List.mem_cons_of_mem _ (List.mem_cons_of_mem _ (List.mem_cons_self)))))))))
  have z2 : sc X ρ3 (6, .elem (.arg 64353) (.int 114), .arg 60065) = true := decide_eq_true (show ρ3.2.2.2.1 64353 114 = ρ3.2.1 60065 by
    rw [hB, lg60065]
    exact of_decide_eq_true (hF.2 _ (List.mem_cons_of_mem _ (List.mem_cons_of_mem _ (List.mem_cons_of_mem _ (List.mem_cons_of_mem _ (List.mem_cons_of_mem _ (List.mem_cons_of_mem _ (List.mem_cons_of_mem _ (List.mem_cons_self))))))))))
  have z3 : sc X ρ3 (6, .elem (.arg 64353) (.int 123), .arg 60097) = true := decide_eq_true (show ρ3.2.2.2.1 64353 123 = ρ3.2.1 60097 by
    rw [hB, lg60097]
    exact of_decide_eq_true (hF.2 _ (List.mem_cons_of_mem _ (List.mem_cons_of_mem _ (List.mem_cons_of_mem _ (List.mem_cons_of_mem _ (List.mem_cons_of_mem _ (List.mem_cons_of_mem _ (List.mem_cons_of_mem _ (List.mem_cons_of_mem _ (List.mem_cons_self)))))))))))
  exact t_omc7 hv ρ3 m1 ⟨m2.1, fcn (x7) (fcn (x5) (fcn (z1) (fcn (z2) (fcn (z3) (m2.2)))))⟩ m3 m4)))
noncomputable def q_omb6l : sCut := ((fr 0 95 19 [(0, tr 75), (1, .int 90), (2, .int 2), (3, .int 100)] [.arg 60033, .int 100, tr 42], [fr 0 93 73 [(0, tr 75)] [], fr 0 60 30 [(0, tr 39), (1, .int 0)] [], fBot], 11), (fr 0 297 64 [(0, tr 219), (1, .arg 1308)] [], [fr 0 300 36 [(0, tr 219), (1, .arg 1308)] [], fBot], 12), [zf98zzzp_78, zf98zzzp_79, ((139, .add (.elem (.arg 64321) (.int 0)) (.add (.int 100) (.arg 60033)), .int 100925506), true), zf98zzzp_80, zf98zzzp_81, zf98zzzp_17, zf98zzzp_2, zf98zzzp_3, zf98zzzp_4, zf98zzzp_5, ((0, .arg 1702, .int 0), true), ((0, .arg 3360, .int 0), true), ((0, .arg 1350, .int 0), true), ((0, .arg 1826, .int 0), true), zf98zzzp_6, zf98zzzp_14], i_bz)
noncomputable def w_omb6l : List (sCut × List (Nat × sT) × List (Nat × sT × List (sT × sT))) := [(q_omc7T, [], [(64321, .arg 64321, [(.int 104, .long 0), (.int 103, .long 0), (.int 102, .long 0), (.int 101, .long 0), (.int 100, .long 0)]), (64353, .arg 64353, [])])]
theorem k_omb6l : cbody kR [(zWB, c_mcl)] (cpl1 zWB c_bn0 [q_omc7T]) (cpl2 zWB c_bn0 [q_omc7T]) (cleafB kR zWB c_bn0 w_omb6l) 700 false false q_omb6l.2.2.1 q_omb6l.2.2.2 (cst zWB c_bn0.2.2.1.1 q_omb6l.1) (cst zWB c_bn0.2.2.1.2 q_omb6l.2.1) = true := by decide +kernel
theorem t_omb6l {X : pX} {ρ0 : sR} (hv : vok X ρ0) : CUTOK X kR zWB c_bn0 13 ρ0 q_omb6l := CUTOK_AT (fun ρ k1 hF hI k4 => AT_of (q := q_omb6l) rfl rfl (SEM_runB kR_x kR_0 (Cs := [(zWB, c_mcl)]) (fun C hC => by rw [List.mem_singleton.mp hC]; exact s_mcl) c_bn0_f (Q := w_omb6l) hv 700 (b1 := false) (b2 := false) k_omb6l k1 hF hI k4 (fun p hp ρ3 m1 m2 m3 m4 m5 m6 => by
  rw [List.mem_singleton.mp hp] at m2 m3 m5 m6 ⊢
  have eD : ρ3.1 1308 = ρ.1 1308 := (m4.1 1308 (by decide) (by decide)).1.trans (k4.1 1308 (by decide) (by decide)).1.symm
  obtain ⟨d0, d4⟩ := d_r hF.1
  have hB : ∀ j, ρ3.2.2.2.1 64353 j = ρ.2.2.2.1 64353 j := fun j => by
    have hw := m6 (64353, .arg 64353, []) (List.mem_cons_of_mem _ (List.mem_cons_self)) j
    have hw : Value.long (ρ3.2.2.2.1 64353 j) = Value.long (ρ.2.2.2.1 64353 j) := hw
    exact Value.long.inj hw
  obtain ⟨hAn, hAf⟩ := fiv_w (f := ρ.2.2.2.1 64321) (g := ρ3.2.2.2.1 64321) (m := 100) (d := (ρ.1 1308).toInt) (v0 := 0) (v1 := 0) (v2 := 0) (v3 := 0) (v4 := 0) (fun j => m6 (64321, .arg 64321, [(.int 104, .long 0), (.int 103, .long 0), (.int 102, .long 0), (.int 101, .long 0), (.int 100, .long 0)]) (List.mem_cons_self) j) (amw_100 d0 d4 (i := 0) (by decide)) (amw_100 d0 d4 (i := 1) (by decide)) (amw_100 d0 d4 (i := 2) (by decide)) (amw_100 d0 d4 (i := 3) (by decide)) (amw_100 d0 d4 (i := 4) (by decide))
  have h7 := k157.mp (hF.2 _ (List.mem_cons_of_mem _ (List.mem_cons_of_mem _ (List.mem_cons_of_mem _ (List.mem_cons_of_mem _ (List.mem_cons_self))))))
  have h5 := k155.mp (hF.2 _ (List.mem_cons_of_mem _ (List.mem_cons_of_mem _ (List.mem_cons_of_mem _ (List.mem_cons_of_mem _ (List.mem_cons_of_mem _ (List.mem_cons_self)))))))
  have eB : ρ3.2.2.2.1 64353 = ρ.2.2.2.1 64353 := funext hB
  have ev : ρ.2.1 60033 = ρ.2.2.2.1 64321 100 := of_decide_eq_true (hF.2 _ (List.mem_cons_of_mem _ (List.mem_cons_of_mem _ (List.mem_cons_of_mem _ (List.mem_cons_self)))))
  have hc : (100925506 : Int) = amcode (ρ.2.2.2.1 64321) 100 (ρ.2.1 60033).toInt.toNat := of_decide_eq_true (hF.2 _ (List.mem_cons_of_mem _ (List.mem_cons_of_mem _ (List.mem_cons_self))))
  rw [ev] at hc
  have x7 : sc X ρ3 (157, .add (.elem (.arg 64321) (.int 0)) (.add (.elem (.arg 64353) (.int 0)) (.arg 1308)), .int 7) = true := k157.mpr (by
    rw [eB, eD]
    exact amn_c (K := 6) (m := 100) (by decide) rfl h7 h5 (Or.inr ⟨by rw [← hc]; decide, fun j hj => by
    by_cases hi : 100 ≤ j ∧ j < 100 + 5
    · rw [if_pos hi]; exact hAf j hi.1 hi.2
    · rw [if_neg hi, hAn j hi]⟩))
  have x5 : sc X ρ3 (155, .elem (.arg 64353) (.int 0), .int 0) = true := k155.mpr (by rw [eB]; exact h5)
  have lg60129 : ρ3.2.1 60129 = ρ.2.1 60129 := (m4.1 60129 (by decide) (by decide)).2.trans (k4.1 60129 (by decide) (by decide)).2.symm
  have lg60065 : ρ3.2.1 60065 = ρ.2.1 60065 := (m4.1 60065 (by decide) (by decide)).2.trans (k4.1 60065 (by decide) (by decide)).2.symm
  have lg60097 : ρ3.2.1 60097 = ρ.2.1 60097 := (m4.1 60097 (by decide) (by decide)).2.trans (k4.1 60097 (by decide) (by decide)).2.symm
  have z1 : sc X ρ3 (6, .elem (.arg 64321) (.int 1), .arg 60129) = true := decide_eq_true (show ρ3.2.2.2.1 64321 1 = ρ3.2.1 60129 by
    rw [hAn 1 (by decide), lg60129]
    exact of_decide_eq_true (hF.2 _ (List.mem_cons_of_mem _ (List.mem_cons_of_mem _ (List.mem_cons_of_mem _ (List.mem_cons_of_mem _ (List.mem_cons_of_mem _ (List.mem_cons_of_mem _ (List.mem_cons_self)))))))))
  have z2 : sc X ρ3 (6, .elem (.arg 64353) (.int 114), .arg 60065) = true := decide_eq_true (show ρ3.2.2.2.1 64353 114 = ρ3.2.1 60065 by
    rw [hB, lg60065]
    exact of_decide_eq_true (hF.2 _ (List.mem_cons_of_mem _ (List.mem_cons_of_mem _ (List.mem_cons_of_mem _ (List.mem_cons_of_mem _ (List.mem_cons_of_mem _ (List.mem_cons_of_mem _ (List.mem_cons_of_mem _ (List.mem_cons_self))))))))))
  have z3 : sc X ρ3 (6, .elem (.arg 64353) (.int 123), .arg 60097) = true := decide_eq_true (show ρ3.2.2.2.1 64353 123 = ρ3.2.1 60097 by
    rw [hB, lg60097]
    exact of_decide_eq_true (hF.2 _ (List.mem_cons_of_mem _ (List.mem_cons_of_mem _ (List.mem_cons_of_mem _ (List.mem_cons_of_mem _ (List.mem_cons_of_mem _ (List.mem_cons_of_mem _ (List.mem_cons_of_mem _ (List.mem_cons_of_mem _ (List.mem_cons_self)))))))))))
  exact t_omc7 hv ρ3 m1 ⟨m2.1, fcn (x7) (fcn (x5) (fcn (z1) (fcn (z2) (fcn (z3) (m2.2)))))⟩ m3 m4)))
theorem t_omb6 {X : pX} {ρ0 : sR} (hv : vok X ρ0) : CUTOK X kR zWB c_bn0 13 ρ0 q_omb6 := fun ρ k1 hF hI k4 => by
  have h5 := k155.mp (hF.2 _ (List.mem_cons_of_mem _ (List.mem_cons_of_mem _ (List.mem_cons_self))))
  have h7 := (k157.mp (hF.2 _ (List.mem_cons_of_mem _ (List.mem_cons_self))) 100 (by decide)).resolve_left (by decide)
  have eA : (ρ.2.2.2.1 64321 100).toInt = (ρ.2.2.2.1 64353 100).toInt := h7.trans (amn_i (K := 6) (m := 100) (by decide) (by decide) rfl (by decide) (by decide))
  obtain ⟨v0, v4⟩ := ev_m4 (m := 100) (by decide) (h5 100 (by decide))
  rw [← eA] at v0 v4
  have ev : ρ.2.1 60033 = ρ.2.2.2.1 64321 100 := of_decide_eq_true (hF.2 _ (List.mem_cons_self))
  rw [← ev] at v0 v4
  rcases am_3 (g := ρ.2.2.2.1 64321) (m := 100) (n := (ρ.2.1 60033).toInt.toNat) with h | h | h
  · exact t_omb6o hv ρ k1 ⟨hF.1, fcn (dl_lf (x := ρ.2.1 60033) (y := 0) (show (0 : Int) ≤ _ from v0)) (fcn (dl_lf (x := 4) (y := ρ.2.1 60033) (show _ ≤ (4 : Int) from v4)) (fcn (decide_eq_true (show (0 : Int) = amcode (ρ.2.2.2.1 64321) 100 (ρ.2.1 60033).toInt.toNat from h.symm)) (hF.2)))⟩ hI k4
  · exact t_omb6n hv ρ k1 ⟨hF.1, fcn (dl_lf (x := ρ.2.1 60033) (y := 0) (show (0 : Int) ≤ _ from v0)) (fcn (dl_lf (x := 4) (y := ρ.2.1 60033) (show _ ≤ (4 : Int) from v4)) (fcn (decide_eq_true (show (100925505 : Int) = amcode (ρ.2.2.2.1 64321) 100 (ρ.2.1 60033).toInt.toNat from h.symm)) (hF.2)))⟩ hI k4
  · exact t_omb6l hv ρ k1 ⟨hF.1, fcn (dl_lf (x := ρ.2.1 60033) (y := 0) (show (0 : Int) ≤ _ from v0)) (fcn (dl_lf (x := 4) (y := ρ.2.1 60033) (show _ ≤ (4 : Int) from v4)) (fcn (decide_eq_true (show (100925506 : Int) = amcode (ρ.2.2.2.1 64321) 100 (ρ.2.1 60033).toInt.toNat from h.symm)) (hF.2)))⟩ hI k4
noncomputable def q_omc6 : sCut := ((fr 0 95 34 [(0, tr 75), (1, .int 90), (2, .int 1)] [], [fr 0 93 73 [(0, tr 75)] [], fr 0 60 30 [(0, tr 39), (1, .int 0)] [], fBot], 11), (fr 0 297 64 [(0, tr 219), (1, .arg 1308)] [], [fr 0 300 36 [(0, tr 219), (1, .arg 1308)] [], fBot], 12), [zf98zzzp_81, zf98zzzp_17, zf98zzzp_2, zf98zzzp_3, zf98zzzp_4, zf98zzzp_5, ((0, .arg 1702, .int 0), true), ((0, .arg 3360, .int 0), true), ((0, .arg 1350, .int 0), true), ((0, .arg 1826, .int 0), true), zf98zzzp_6, zf98zzzp_14], i_bz)
theorem k_omc6 : cbody kR [] (cpl1 zWB c_bn0 [q_omb6]) (cpl2 zWB c_bn0 [q_omb6]) (cleaf kR zWB c_bn0 [q_omb6]) 60 true false q_omc6.2.2.1 q_omc6.2.2.2 (cst zWB c_bn0.2.2.1.1 q_omc6.1) (cst zWB c_bn0.2.2.1.2 q_omc6.2.1) = true := by decide +kernel
theorem t_omc6 {X : pX} {ρ0 : sR} (hv : vok X ρ0) : CUTOK X kR zWB c_bn0 13 ρ0 q_omc6 := CUT_run kR_x kR_0 (Cs := []) (fun C hC => by cases hC) c_bn0_f (Q := [q_omb6]) hv (fun q hq => by
    simp only [List.mem_cons, List.not_mem_nil, or_false] at hq
    rw [hq]; exact t_omb6 hv) 60 (b1 := true) (b2 := false) k_omc6
noncomputable def zf98zzzp_82 : sQ × Bool := ((6, .arg 60033, .elem (.arg 64321) (.int 95)), true)
noncomputable def zf98zzzp_83 : sQ × Bool := ((157, .add (.elem (.arg 64321) (.int 0)) (.add (.elem (.arg 64353) (.int 0)) (.arg 1308)), .int 5), true)
noncomputable def q_omb5 : sCut := ((fr 0 95 19 [(0, tr 75), (1, .int 90), (2, .int 1), (3, .int 95)] [.arg 60033, .int 95, tr 42], [fr 0 93 73 [(0, tr 75)] [], fr 0 60 30 [(0, tr 39), (1, .int 0)] [], fBot], 11), (fr 0 297 64 [(0, tr 219), (1, .arg 1308)] [], [fr 0 300 36 [(0, tr 219), (1, .arg 1308)] [], fBot], 12), [zf98zzzp_82, zf98zzzp_83, zf98zzzp_17, zf98zzzp_2, zf98zzzp_3, zf98zzzp_4, zf98zzzp_5, ((0, .arg 1702, .int 0), true), ((0, .arg 3360, .int 0), true), ((0, .arg 1350, .int 0), true), ((0, .arg 1826, .int 0), true), zf98zzzp_6, zf98zzzp_14], i_bz)
noncomputable def q_omb5o : sCut := ((fr 0 95 19 [(0, tr 75), (1, .int 90), (2, .int 1), (3, .int 95)] [.arg 60033, .int 95, tr 42], [fr 0 93 73 [(0, tr 75)] [], fr 0 60 30 [(0, tr 39), (1, .int 0)] [], fBot], 11), (fr 0 297 64 [(0, tr 219), (1, .arg 1308)] [], [fr 0 300 36 [(0, tr 219), (1, .arg 1308)] [], fBot], 12), [zf98zzzp_78, zf98zzzp_79, ((139, .add (.elem (.arg 64321) (.int 0)) (.add (.int 95) (.arg 60033)), .int 0), true), zf98zzzp_82, zf98zzzp_83, zf98zzzp_17, zf98zzzp_2, zf98zzzp_3, zf98zzzp_4, zf98zzzp_5, ((0, .arg 1702, .int 0), true), ((0, .arg 3360, .int 0), true), ((0, .arg 1350, .int 0), true), ((0, .arg 1826, .int 0), true), zf98zzzp_6, zf98zzzp_14], i_bz)
noncomputable def w_omb5o : List (sCut × List (Nat × sT) × List (Nat × sT × List (sT × sT))) := [(q_omc6T, [], [(64321, .arg 64321, []), (64353, .arg 64353, [])])]
theorem k_omb5o : cbody kR [(zWB, c_mco)] (cpl1 zWB c_bn0 [q_omc6T]) (cpl2 zWB c_bn0 [q_omc6T]) (cleafB kR zWB c_bn0 w_omb5o) 700 false false q_omb5o.2.2.1 q_omb5o.2.2.2 (cst zWB c_bn0.2.2.1.1 q_omb5o.1) (cst zWB c_bn0.2.2.1.2 q_omb5o.2.1) = true := by decide +kernel
theorem t_omb5o {X : pX} {ρ0 : sR} (hv : vok X ρ0) : CUTOK X kR zWB c_bn0 13 ρ0 q_omb5o := CUTOK_AT (fun ρ k1 hF hI k4 => AT_of (q := q_omb5o) rfl rfl (SEM_runB kR_x kR_0 (Cs := [(zWB, c_mco)]) (fun C hC => by rw [List.mem_singleton.mp hC]; exact s_mco) c_bn0_f (Q := w_omb5o) hv 700 (b1 := false) (b2 := false) k_omb5o k1 hF hI k4 (fun p hp ρ3 m1 m2 m3 m4 m5 m6 => by
  rw [List.mem_singleton.mp hp] at m2 m3 m5 m6 ⊢
  have eD : ρ3.1 1308 = ρ.1 1308 := (m4.1 1308 (by decide) (by decide)).1.trans (k4.1 1308 (by decide) (by decide)).1.symm
  obtain ⟨d0, d4⟩ := d_r hF.1
  have hB : ∀ j, ρ3.2.2.2.1 64353 j = ρ.2.2.2.1 64353 j := fun j => by
    have hw := m6 (64353, .arg 64353, []) (List.mem_cons_of_mem _ (List.mem_cons_self)) j
    have hw : Value.long (ρ3.2.2.2.1 64353 j) = Value.long (ρ.2.2.2.1 64353 j) := hw
    exact Value.long.inj hw
  have hA : ∀ j, ρ3.2.2.2.1 64321 j = ρ.2.2.2.1 64321 j := fun j => by
    have hw := m6 (64321, .arg 64321, []) (List.mem_cons_self) j
    have hw : Value.long (ρ3.2.2.2.1 64321 j) = Value.long (ρ.2.2.2.1 64321 j) := hw
    exact Value.long.inj hw
  have h7 := k157.mp (hF.2 _ (List.mem_cons_of_mem _ (List.mem_cons_of_mem _ (List.mem_cons_of_mem _ (List.mem_cons_of_mem _ (List.mem_cons_self))))))
  have h5 := k155.mp (hF.2 _ (List.mem_cons_of_mem _ (List.mem_cons_of_mem _ (List.mem_cons_of_mem _ (List.mem_cons_of_mem _ (List.mem_cons_of_mem _ (List.mem_cons_self)))))))
  have eB : ρ3.2.2.2.1 64353 = ρ.2.2.2.1 64353 := funext hB
  have ev : ρ.2.1 60033 = ρ.2.2.2.1 64321 95 := of_decide_eq_true (hF.2 _ (List.mem_cons_of_mem _ (List.mem_cons_of_mem _ (List.mem_cons_of_mem _ (List.mem_cons_self)))))
  have hc : (0 : Int) = amcode (ρ.2.2.2.1 64321) 95 (ρ.2.1 60033).toInt.toNat := of_decide_eq_true (hF.2 _ (List.mem_cons_of_mem _ (List.mem_cons_of_mem _ (List.mem_cons_self))))
  rw [ev] at hc
  have x7 : sc X ρ3 (157, .add (.elem (.arg 64321) (.int 0)) (.add (.elem (.arg 64353) (.int 0)) (.arg 1308)), .int 6) = true := k157.mpr (by
    rw [eB, eD]
    exact amn_c (K := 5) (m := 95) (by decide) rfl h7 h5 (Or.inl ⟨hc.symm, fun j _ => hA j⟩))
  have x5 : sc X ρ3 (155, .elem (.arg 64353) (.int 0), .int 0) = true := k155.mpr (by rw [eB]; exact h5)
  have lg60129 : ρ3.2.1 60129 = ρ.2.1 60129 := (m4.1 60129 (by decide) (by decide)).2.trans (k4.1 60129 (by decide) (by decide)).2.symm
  have lg60065 : ρ3.2.1 60065 = ρ.2.1 60065 := (m4.1 60065 (by decide) (by decide)).2.trans (k4.1 60065 (by decide) (by decide)).2.symm
  have lg60097 : ρ3.2.1 60097 = ρ.2.1 60097 := (m4.1 60097 (by decide) (by decide)).2.trans (k4.1 60097 (by decide) (by decide)).2.symm
  have z1 : sc X ρ3 (6, .elem (.arg 64321) (.int 1), .arg 60129) = true := decide_eq_true (show ρ3.2.2.2.1 64321 1 = ρ3.2.1 60129 by
    rw [hA, lg60129]
    exact of_decide_eq_true (hF.2 _ (List.mem_cons_of_mem _ (List.mem_cons_of_mem _ (List.mem_cons_of_mem _ (List.mem_cons_of_mem _ (List.mem_cons_of_mem _ (List.mem_cons_of_mem _ (List.mem_cons_self)))))))))
  have z2 : sc X ρ3 (6, .elem (.arg 64353) (.int 114), .arg 60065) = true := decide_eq_true (show ρ3.2.2.2.1 64353 114 = ρ3.2.1 60065 by
    rw [hB, lg60065]
    exact of_decide_eq_true (hF.2 _ (List.mem_cons_of_mem _ (List.mem_cons_of_mem _ (List.mem_cons_of_mem _ (List.mem_cons_of_mem _ (List.mem_cons_of_mem _ (List.mem_cons_of_mem _ (List.mem_cons_of_mem _ (List.mem_cons_self))))))))))
  have z3 : sc X ρ3 (6, .elem (.arg 64353) (.int 123), .arg 60097) = true := decide_eq_true (show ρ3.2.2.2.1 64353 123 = ρ3.2.1 60097 by
    rw [hB, lg60097]
    exact of_decide_eq_true (hF.2 _ (List.mem_cons_of_mem _ (List.mem_cons_of_mem _ (List.mem_cons_of_mem _ (List.mem_cons_of_mem _ (List.mem_cons_of_mem _ (List.mem_cons_of_mem _ (List.mem_cons_of_mem _ (List.mem_cons_of_mem _ (List.mem_cons_self)))))))))))
  exact t_omc6 hv ρ3 m1 ⟨m2.1, fcn (x7) (fcn (x5) (fcn (z1) (fcn (z2) (fcn (z3) (m2.2)))))⟩ m3 m4)))
noncomputable def q_omb5n : sCut := ((fr 0 95 19 [(0, tr 75), (1, .int 90), (2, .int 1), (3, .int 95)] [.arg 60033, .int 95, tr 42], [fr 0 93 73 [(0, tr 75)] [], fr 0 60 30 [(0, tr 39), (1, .int 0)] [], fBot], 11), (fr 0 297 64 [(0, tr 219), (1, .arg 1308)] [], [fr 0 300 36 [(0, tr 219), (1, .arg 1308)] [], fBot], 12), [zf98zzzp_78, zf98zzzp_79, ((139, .add (.elem (.arg 64321) (.int 0)) (.add (.int 95) (.arg 60033)), .int 100925505), true), zf98zzzp_82, zf98zzzp_83, zf98zzzp_17, zf98zzzp_2, zf98zzzp_3, zf98zzzp_4, zf98zzzp_5, ((0, .arg 1702, .int 0), true), ((0, .arg 3360, .int 0), true), ((0, .arg 1350, .int 0), true), ((0, .arg 1826, .int 0), true), zf98zzzp_6, zf98zzzp_14], i_bz)
noncomputable def w_omb5n : List (sCut × List (Nat × sT) × List (Nat × sT × List (sT × sT))) := [(q_omc6T, [], [(64321, .arg 64321, [(.int 99, .long 0), (.int 98, .long 0), (.int 97, .long 0), (.int 96, .long 0), (.int 95, .long 0)]), (64353, .arg 64353, [])])]
theorem k_omb5n : cbody kR [(zWB, c_mcn)] (cpl1 zWB c_bn0 [q_omc6T]) (cpl2 zWB c_bn0 [q_omc6T]) (cleafB kR zWB c_bn0 w_omb5n) 700 false false q_omb5n.2.2.1 q_omb5n.2.2.2 (cst zWB c_bn0.2.2.1.1 q_omb5n.1) (cst zWB c_bn0.2.2.1.2 q_omb5n.2.1) = true := by decide +kernel
theorem t_omb5n {X : pX} {ρ0 : sR} (hv : vok X ρ0) : CUTOK X kR zWB c_bn0 13 ρ0 q_omb5n := CUTOK_AT (fun ρ k1 hF hI k4 => AT_of (q := q_omb5n) rfl rfl (SEM_runB kR_x kR_0 (Cs := [(zWB, c_mcn)]) (fun C hC => by rw [List.mem_singleton.mp hC]; exact s_mcn) c_bn0_f (Q := w_omb5n) hv 700 (b1 := false) (b2 := false) k_omb5n k1 hF hI k4 (fun p hp ρ3 m1 m2 m3 m4 m5 m6 => by
  rw [List.mem_singleton.mp hp] at m2 m3 m5 m6 ⊢
  have eD : ρ3.1 1308 = ρ.1 1308 := (m4.1 1308 (by decide) (by decide)).1.trans (k4.1 1308 (by decide) (by decide)).1.symm
  obtain ⟨d0, d4⟩ := d_r hF.1
  have hB : ∀ j, ρ3.2.2.2.1 64353 j = ρ.2.2.2.1 64353 j := fun j => by
    have hw := m6 (64353, .arg 64353, []) (List.mem_cons_of_mem _ (List.mem_cons_self)) j
    have hw : Value.long (ρ3.2.2.2.1 64353 j) = Value.long (ρ.2.2.2.1 64353 j) := hw
    exact Value.long.inj hw
  obtain ⟨hAn, hAf⟩ := fiv_w (f := ρ.2.2.2.1 64321) (g := ρ3.2.2.2.1 64321) (m := 95) (d := (ρ.1 1308).toInt) (v0 := 0) (v1 := 0) (v2 := 0) (v3 := 0) (v4 := 0) (fun j => m6 (64321, .arg 64321, [(.int 99, .long 0), (.int 98, .long 0), (.int 97, .long 0), (.int 96, .long 0), (.int 95, .long 0)]) (List.mem_cons_self) j) (amw_95 d0 d4 (i := 0) (by decide)) (amw_95 d0 d4 (i := 1) (by decide)) (amw_95 d0 d4 (i := 2) (by decide)) (amw_95 d0 d4 (i := 3) (by decide)) (amw_95 d0 d4 (i := 4) (by decide))
  have h7 := k157.mp (hF.2 _ (List.mem_cons_of_mem _ (List.mem_cons_of_mem _ (List.mem_cons_of_mem _ (List.mem_cons_of_mem _ (List.mem_cons_self))))))
  have h5 := k155.mp (hF.2 _ (List.mem_cons_of_mem _ (List.mem_cons_of_mem _ (List.mem_cons_of_mem _ (List.mem_cons_of_mem _ (List.mem_cons_of_mem _ (List.mem_cons_self)))))))
  have eB : ρ3.2.2.2.1 64353 = ρ.2.2.2.1 64353 := funext hB
  have ev : ρ.2.1 60033 = ρ.2.2.2.1 64321 95 := of_decide_eq_true (hF.2 _ (List.mem_cons_of_mem _ (List.mem_cons_of_mem _ (List.mem_cons_of_mem _ (List.mem_cons_self)))))
  have hc : (100925505 : Int) = amcode (ρ.2.2.2.1 64321) 95 (ρ.2.1 60033).toInt.toNat := of_decide_eq_true (hF.2 _ (List.mem_cons_of_mem _ (List.mem_cons_of_mem _ (List.mem_cons_self))))
  rw [ev] at hc
  have x7 : sc X ρ3 (157, .add (.elem (.arg 64321) (.int 0)) (.add (.elem (.arg 64353) (.int 0)) (.arg 1308)), .int 6) = true := k157.mpr (by
    rw [eB, eD]
    exact amn_c (K := 5) (m := 95) (by decide) rfl h7 h5 (Or.inr ⟨by rw [← hc]; decide, fun j hj => by
    by_cases hi : 95 ≤ j ∧ j < 95 + 5
    · rw [if_pos hi]; exact hAf j hi.1 hi.2
    · rw [if_neg hi, hAn j hi]⟩))
  have x5 : sc X ρ3 (155, .elem (.arg 64353) (.int 0), .int 0) = true := k155.mpr (by rw [eB]; exact h5)
  have lg60129 : ρ3.2.1 60129 = ρ.2.1 60129 := (m4.1 60129 (by decide) (by decide)).2.trans (k4.1 60129 (by decide) (by decide)).2.symm
  have lg60065 : ρ3.2.1 60065 = ρ.2.1 60065 := (m4.1 60065 (by decide) (by decide)).2.trans (k4.1 60065 (by decide) (by decide)).2.symm
  have lg60097 : ρ3.2.1 60097 = ρ.2.1 60097 := (m4.1 60097 (by decide) (by decide)).2.trans (k4.1 60097 (by decide) (by decide)).2.symm
  have z1 : sc X ρ3 (6, .elem (.arg 64321) (.int 1), .arg 60129) = true := decide_eq_true (show ρ3.2.2.2.1 64321 1 = ρ3.2.1 60129 by
    rw [hAn 1 (by decide), lg60129]
    exact of_decide_eq_true (hF.2 _ (List.mem_cons_of_mem _ (List.mem_cons_of_mem _ (List.mem_cons_of_mem _ (List.mem_cons_of_mem _ (List.mem_cons_of_mem _ (List.mem_cons_of_mem _ (List.mem_cons_self)))))))))
  have z2 : sc X ρ3 (6, .elem (.arg 64353) (.int 114), .arg 60065) = true := decide_eq_true (show ρ3.2.2.2.1 64353 114 = ρ3.2.1 60065 by
    rw [hB, lg60065]
    exact of_decide_eq_true (hF.2 _ (List.mem_cons_of_mem _ (List.mem_cons_of_mem _ (List.mem_cons_of_mem _ (List.mem_cons_of_mem _ (List.mem_cons_of_mem _ (List.mem_cons_of_mem _ (List.mem_cons_of_mem _ (List.mem_cons_self))))))))))
  have z3 : sc X ρ3 (6, .elem (.arg 64353) (.int 123), .arg 60097) = true := decide_eq_true (show ρ3.2.2.2.1 64353 123 = ρ3.2.1 60097 by
    rw [hB, lg60097]
    exact of_decide_eq_true (hF.2 _ (List.mem_cons_of_mem _ (List.mem_cons_of_mem _ (List.mem_cons_of_mem _ (List.mem_cons_of_mem _ (List.mem_cons_of_mem _ (List.mem_cons_of_mem _ (List.mem_cons_of_mem _ (List.mem_cons_of_mem _ (List.mem_cons_self)))))))))))
  exact t_omc6 hv ρ3 m1 ⟨m2.1, fcn (x7) (fcn (x5) (fcn (z1) (fcn (z2) (fcn (z3) (m2.2)))))⟩ m3 m4)))
noncomputable def q_omb5l : sCut := ((fr 0 95 19 [(0, tr 75), (1, .int 90), (2, .int 1), (3, .int 95)] [.arg 60033, .int 95, tr 42], [fr 0 93 73 [(0, tr 75)] [], fr 0 60 30 [(0, tr 39), (1, .int 0)] [], fBot], 11), (fr 0 297 64 [(0, tr 219), (1, .arg 1308)] [], [fr 0 300 36 [(0, tr 219), (1, .arg 1308)] [], fBot], 12), [zf98zzzp_78, zf98zzzp_79, ((139, .add (.elem (.arg 64321) (.int 0)) (.add (.int 95) (.arg 60033)), .int 100925506), true), zf98zzzp_82, zf98zzzp_83, zf98zzzp_17, zf98zzzp_2, zf98zzzp_3, zf98zzzp_4, zf98zzzp_5, ((0, .arg 1702, .int 0), true), ((0, .arg 3360, .int 0), true), ((0, .arg 1350, .int 0), true), ((0, .arg 1826, .int 0), true), zf98zzzp_6, zf98zzzp_14], i_bz)
noncomputable def w_omb5l : List (sCut × List (Nat × sT) × List (Nat × sT × List (sT × sT))) := [(q_omc6T, [], [(64321, .arg 64321, [(.int 99, .long 0), (.int 98, .long 0), (.int 97, .long 0), (.int 96, .long 0), (.int 95, .long 0)]), (64353, .arg 64353, [])])]
theorem k_omb5l : cbody kR [(zWB, c_mcl)] (cpl1 zWB c_bn0 [q_omc6T]) (cpl2 zWB c_bn0 [q_omc6T]) (cleafB kR zWB c_bn0 w_omb5l) 700 false false q_omb5l.2.2.1 q_omb5l.2.2.2 (cst zWB c_bn0.2.2.1.1 q_omb5l.1) (cst zWB c_bn0.2.2.1.2 q_omb5l.2.1) = true := by decide +kernel
theorem t_omb5l {X : pX} {ρ0 : sR} (hv : vok X ρ0) : CUTOK X kR zWB c_bn0 13 ρ0 q_omb5l := CUTOK_AT (fun ρ k1 hF hI k4 => AT_of (q := q_omb5l) rfl rfl (SEM_runB kR_x kR_0 (Cs := [(zWB, c_mcl)]) (fun C hC => by rw [List.mem_singleton.mp hC]; exact s_mcl) c_bn0_f (Q := w_omb5l) hv 700 (b1 := false) (b2 := false) k_omb5l k1 hF hI k4 (fun p hp ρ3 m1 m2 m3 m4 m5 m6 => by
  rw [List.mem_singleton.mp hp] at m2 m3 m5 m6 ⊢
  have eD : ρ3.1 1308 = ρ.1 1308 := (m4.1 1308 (by decide) (by decide)).1.trans (k4.1 1308 (by decide) (by decide)).1.symm
  obtain ⟨d0, d4⟩ := d_r hF.1
  have hB : ∀ j, ρ3.2.2.2.1 64353 j = ρ.2.2.2.1 64353 j := fun j => by
    have hw := m6 (64353, .arg 64353, []) (List.mem_cons_of_mem _ (List.mem_cons_self)) j
    have hw : Value.long (ρ3.2.2.2.1 64353 j) = Value.long (ρ.2.2.2.1 64353 j) := hw
    exact Value.long.inj hw
  obtain ⟨hAn, hAf⟩ := fiv_w (f := ρ.2.2.2.1 64321) (g := ρ3.2.2.2.1 64321) (m := 95) (d := (ρ.1 1308).toInt) (v0 := 0) (v1 := 0) (v2 := 0) (v3 := 0) (v4 := 0) (fun j => m6 (64321, .arg 64321, [(.int 99, .long 0), (.int 98, .long 0), (.int 97, .long 0), (.int 96, .long 0), (.int 95, .long 0)]) (List.mem_cons_self) j) (amw_95 d0 d4 (i := 0) (by decide)) (amw_95 d0 d4 (i := 1) (by decide)) (amw_95 d0 d4 (i := 2) (by decide)) (amw_95 d0 d4 (i := 3) (by decide)) (amw_95 d0 d4 (i := 4) (by decide))
  have h7 := k157.mp (hF.2 _ (List.mem_cons_of_mem _ (List.mem_cons_of_mem _ (List.mem_cons_of_mem _ (List.mem_cons_of_mem _ (List.mem_cons_self))))))
  have h5 := k155.mp (hF.2 _ (List.mem_cons_of_mem _ (List.mem_cons_of_mem _ (List.mem_cons_of_mem _ (List.mem_cons_of_mem _ (List.mem_cons_of_mem _ (List.mem_cons_self)))))))
  have eB : ρ3.2.2.2.1 64353 = ρ.2.2.2.1 64353 := funext hB
  have ev : ρ.2.1 60033 = ρ.2.2.2.1 64321 95 := of_decide_eq_true (hF.2 _ (List.mem_cons_of_mem _ (List.mem_cons_of_mem _ (List.mem_cons_of_mem _ (List.mem_cons_self)))))
  have hc : (100925506 : Int) = amcode (ρ.2.2.2.1 64321) 95 (ρ.2.1 60033).toInt.toNat := of_decide_eq_true (hF.2 _ (List.mem_cons_of_mem _ (List.mem_cons_of_mem _ (List.mem_cons_self))))
  rw [ev] at hc
  have x7 : sc X ρ3 (157, .add (.elem (.arg 64321) (.int 0)) (.add (.elem (.arg 64353) (.int 0)) (.arg 1308)), .int 6) = true := k157.mpr (by
    rw [eB, eD]
    exact amn_c (K := 5) (m := 95) (by decide) rfl h7 h5 (Or.inr ⟨by rw [← hc]; decide, fun j hj => by
    by_cases hi : 95 ≤ j ∧ j < 95 + 5
    · rw [if_pos hi]; exact hAf j hi.1 hi.2
    · rw [if_neg hi, hAn j hi]⟩))
  have x5 : sc X ρ3 (155, .elem (.arg 64353) (.int 0), .int 0) = true := k155.mpr (by rw [eB]; exact h5)
  have lg60129 : ρ3.2.1 60129 = ρ.2.1 60129 := (m4.1 60129 (by decide) (by decide)).2.trans (k4.1 60129 (by decide) (by decide)).2.symm
  have lg60065 : ρ3.2.1 60065 = ρ.2.1 60065 := (m4.1 60065 (by decide) (by decide)).2.trans (k4.1 60065 (by decide) (by decide)).2.symm
  have lg60097 : ρ3.2.1 60097 = ρ.2.1 60097 := (m4.1 60097 (by decide) (by decide)).2.trans (k4.1 60097 (by decide) (by decide)).2.symm
  have z1 : sc X ρ3 (6, .elem (.arg 64321) (.int 1), .arg 60129) = true := decide_eq_true (show ρ3.2.2.2.1 64321 1 = ρ3.2.1 60129 by
    rw [hAn 1 (by decide), lg60129]
    exact of_decide_eq_true (hF.2 _ (List.mem_cons_of_mem _ (List.mem_cons_of_mem _ (List.mem_cons_of_mem _ (List.mem_cons_of_mem _ (List.mem_cons_of_mem _ (List.mem_cons_of_mem _ (List.mem_cons_self)))))))))
  have z2 : sc X ρ3 (6, .elem (.arg 64353) (.int 114), .arg 60065) = true := decide_eq_true (show ρ3.2.2.2.1 64353 114 = ρ3.2.1 60065 by
    rw [hB, lg60065]
    exact of_decide_eq_true (hF.2 _ (List.mem_cons_of_mem _ (List.mem_cons_of_mem _ (List.mem_cons_of_mem _ (List.mem_cons_of_mem _ (List.mem_cons_of_mem _ (List.mem_cons_of_mem _ (List.mem_cons_of_mem _ (List.mem_cons_self))))))))))
  have z3 : sc X ρ3 (6, .elem (.arg 64353) (.int 123), .arg 60097) = true := decide_eq_true (show ρ3.2.2.2.1 64353 123 = ρ3.2.1 60097 by
    rw [hB, lg60097]
    exact of_decide_eq_true (hF.2 _ (List.mem_cons_of_mem _ (List.mem_cons_of_mem _ (List.mem_cons_of_mem _ (List.mem_cons_of_mem _ (List.mem_cons_of_mem _ (List.mem_cons_of_mem _ (List.mem_cons_of_mem _ (List.mem_cons_of_mem _ (List.mem_cons_self)))))))))))
  exact t_omc6 hv ρ3 m1 ⟨m2.1, fcn (x7) (fcn (x5) (fcn (z1) (fcn (z2) (fcn (z3) (m2.2)))))⟩ m3 m4)))
theorem t_omb5 {X : pX} {ρ0 : sR} (hv : vok X ρ0) : CUTOK X kR zWB c_bn0 13 ρ0 q_omb5 := fun ρ k1 hF hI k4 => by
  have h5 := k155.mp (hF.2 _ (List.mem_cons_of_mem _ (List.mem_cons_of_mem _ (List.mem_cons_self))))
  have h7 := (k157.mp (hF.2 _ (List.mem_cons_of_mem _ (List.mem_cons_self))) 95 (by decide)).resolve_left (by decide)
  have eA : (ρ.2.2.2.1 64321 95).toInt = (ρ.2.2.2.1 64353 95).toInt := h7.trans (amn_i (K := 5) (m := 95) (by decide) (by decide) rfl (by decide) (by decide))
  obtain ⟨v0, v4⟩ := ev_m4 (m := 95) (by decide) (h5 95 (by decide))
  rw [← eA] at v0 v4
  have ev : ρ.2.1 60033 = ρ.2.2.2.1 64321 95 := of_decide_eq_true (hF.2 _ (List.mem_cons_self))
  rw [← ev] at v0 v4
  rcases am_3 (g := ρ.2.2.2.1 64321) (m := 95) (n := (ρ.2.1 60033).toInt.toNat) with h | h | h
  · exact t_omb5o hv ρ k1 ⟨hF.1, fcn (dl_lf (x := ρ.2.1 60033) (y := 0) (show (0 : Int) ≤ _ from v0)) (fcn (dl_lf (x := 4) (y := ρ.2.1 60033) (show _ ≤ (4 : Int) from v4)) (fcn (decide_eq_true (show (0 : Int) = amcode (ρ.2.2.2.1 64321) 95 (ρ.2.1 60033).toInt.toNat from h.symm)) (hF.2)))⟩ hI k4
  · exact t_omb5n hv ρ k1 ⟨hF.1, fcn (dl_lf (x := ρ.2.1 60033) (y := 0) (show (0 : Int) ≤ _ from v0)) (fcn (dl_lf (x := 4) (y := ρ.2.1 60033) (show _ ≤ (4 : Int) from v4)) (fcn (decide_eq_true (show (100925505 : Int) = amcode (ρ.2.2.2.1 64321) 95 (ρ.2.1 60033).toInt.toNat from h.symm)) (hF.2)))⟩ hI k4
  · exact t_omb5l hv ρ k1 ⟨hF.1, fcn (dl_lf (x := ρ.2.1 60033) (y := 0) (show (0 : Int) ≤ _ from v0)) (fcn (dl_lf (x := 4) (y := ρ.2.1 60033) (show _ ≤ (4 : Int) from v4)) (fcn (decide_eq_true (show (100925506 : Int) = amcode (ρ.2.2.2.1 64321) 95 (ρ.2.1 60033).toInt.toNat from h.symm)) (hF.2)))⟩ hI k4
noncomputable def q_omc5 : sCut := ((fr 0 95 34 [(0, tr 75), (1, .int 90), (2, .int 0)] [], [fr 0 93 73 [(0, tr 75)] [], fr 0 60 30 [(0, tr 39), (1, .int 0)] [], fBot], 11), (fr 0 297 64 [(0, tr 219), (1, .arg 1308)] [], [fr 0 300 36 [(0, tr 219), (1, .arg 1308)] [], fBot], 12), [zf98zzzp_83, zf98zzzp_17, zf98zzzp_2, zf98zzzp_3, zf98zzzp_4, zf98zzzp_5, ((0, .arg 1702, .int 0), true), ((0, .arg 3360, .int 0), true), ((0, .arg 1350, .int 0), true), ((0, .arg 1826, .int 0), true), zf98zzzp_6, zf98zzzp_14], i_bz)
theorem k_omc5 : cbody kR [] (cpl1 zWB c_bn0 [q_omb5]) (cpl2 zWB c_bn0 [q_omb5]) (cleaf kR zWB c_bn0 [q_omb5]) 60 true false q_omc5.2.2.1 q_omc5.2.2.2 (cst zWB c_bn0.2.2.1.1 q_omc5.1) (cst zWB c_bn0.2.2.1.2 q_omc5.2.1) = true := by decide +kernel
theorem t_omc5 {X : pX} {ρ0 : sR} (hv : vok X ρ0) : CUTOK X kR zWB c_bn0 13 ρ0 q_omc5 := CUT_run kR_x kR_0 (Cs := []) (fun C hC => by cases hC) c_bn0_f (Q := [q_omb5]) hv (fun q hq => by
    simp only [List.mem_cons, List.not_mem_nil, or_false] at hq
    rw [hq]; exact t_omb5 hv) 60 (b1 := true) (b2 := false) k_omc5
noncomputable def zf98zzzp_84 : sQ × Bool := ((6, .arg 60033, .elem (.arg 64321) (.int 90)), true)
noncomputable def zf98zzzp_85 : sQ × Bool := ((157, .add (.elem (.arg 64321) (.int 0)) (.add (.elem (.arg 64353) (.int 0)) (.arg 1308)), .int 4), true)
noncomputable def q_omb4 : sCut := ((fr 0 95 19 [(0, tr 75), (1, .int 90), (2, .int 0), (3, .int 90)] [.arg 60033, .int 90, tr 42], [fr 0 93 73 [(0, tr 75)] [], fr 0 60 30 [(0, tr 39), (1, .int 0)] [], fBot], 11), (fr 0 297 64 [(0, tr 219), (1, .arg 1308)] [], [fr 0 300 36 [(0, tr 219), (1, .arg 1308)] [], fBot], 12), [zf98zzzp_84, zf98zzzp_85, zf98zzzp_17, zf98zzzp_2, zf98zzzp_3, zf98zzzp_4, zf98zzzp_5, ((0, .arg 1702, .int 0), true), ((0, .arg 3360, .int 0), true), ((0, .arg 1350, .int 0), true), ((0, .arg 1826, .int 0), true), zf98zzzp_6, zf98zzzp_14], i_bz)
noncomputable def q_omb4o : sCut := ((fr 0 95 19 [(0, tr 75), (1, .int 90), (2, .int 0), (3, .int 90)] [.arg 60033, .int 90, tr 42], [fr 0 93 73 [(0, tr 75)] [], fr 0 60 30 [(0, tr 39), (1, .int 0)] [], fBot], 11), (fr 0 297 64 [(0, tr 219), (1, .arg 1308)] [], [fr 0 300 36 [(0, tr 219), (1, .arg 1308)] [], fBot], 12), [zf98zzzp_78, zf98zzzp_79, ((139, .add (.elem (.arg 64321) (.int 0)) (.add (.int 90) (.arg 60033)), .int 0), true), zf98zzzp_84, zf98zzzp_85, zf98zzzp_17, zf98zzzp_2, zf98zzzp_3, zf98zzzp_4, zf98zzzp_5, ((0, .arg 1702, .int 0), true), ((0, .arg 3360, .int 0), true), ((0, .arg 1350, .int 0), true), ((0, .arg 1826, .int 0), true), zf98zzzp_6, zf98zzzp_14], i_bz)
noncomputable def w_omb4o : List (sCut × List (Nat × sT) × List (Nat × sT × List (sT × sT))) := [(q_omc5T, [], [(64321, .arg 64321, []), (64353, .arg 64353, [])])]
theorem k_omb4o : cbody kR [(zWB, c_mco)] (cpl1 zWB c_bn0 [q_omc5T]) (cpl2 zWB c_bn0 [q_omc5T]) (cleafB kR zWB c_bn0 w_omb4o) 700 false false q_omb4o.2.2.1 q_omb4o.2.2.2 (cst zWB c_bn0.2.2.1.1 q_omb4o.1) (cst zWB c_bn0.2.2.1.2 q_omb4o.2.1) = true := by decide +kernel
theorem t_omb4o {X : pX} {ρ0 : sR} (hv : vok X ρ0) : CUTOK X kR zWB c_bn0 13 ρ0 q_omb4o := CUTOK_AT (fun ρ k1 hF hI k4 => AT_of (q := q_omb4o) rfl rfl (SEM_runB kR_x kR_0 (Cs := [(zWB, c_mco)]) (fun C hC => by rw [List.mem_singleton.mp hC]; exact s_mco) c_bn0_f (Q := w_omb4o) hv 700 (b1 := false) (b2 := false) k_omb4o k1 hF hI k4 (fun p hp ρ3 m1 m2 m3 m4 m5 m6 => by
  rw [List.mem_singleton.mp hp] at m2 m3 m5 m6 ⊢
  have eD : ρ3.1 1308 = ρ.1 1308 := (m4.1 1308 (by decide) (by decide)).1.trans (k4.1 1308 (by decide) (by decide)).1.symm
  obtain ⟨d0, d4⟩ := d_r hF.1
  have hB : ∀ j, ρ3.2.2.2.1 64353 j = ρ.2.2.2.1 64353 j := fun j => by
    have hw := m6 (64353, .arg 64353, []) (List.mem_cons_of_mem _ (List.mem_cons_self)) j
    have hw : Value.long (ρ3.2.2.2.1 64353 j) = Value.long (ρ.2.2.2.1 64353 j) := hw
    exact Value.long.inj hw
  have hA : ∀ j, ρ3.2.2.2.1 64321 j = ρ.2.2.2.1 64321 j := fun j => by
    have hw := m6 (64321, .arg 64321, []) (List.mem_cons_self) j
    have hw : Value.long (ρ3.2.2.2.1 64321 j) = Value.long (ρ.2.2.2.1 64321 j) := hw
    exact Value.long.inj hw
  have h7 := k157.mp (hF.2 _ (List.mem_cons_of_mem _ (List.mem_cons_of_mem _ (List.mem_cons_of_mem _ (List.mem_cons_of_mem _ (List.mem_cons_self))))))
  have h5 := k155.mp (hF.2 _ (List.mem_cons_of_mem _ (List.mem_cons_of_mem _ (List.mem_cons_of_mem _ (List.mem_cons_of_mem _ (List.mem_cons_of_mem _ (List.mem_cons_self)))))))
  have eB : ρ3.2.2.2.1 64353 = ρ.2.2.2.1 64353 := funext hB
  have ev : ρ.2.1 60033 = ρ.2.2.2.1 64321 90 := of_decide_eq_true (hF.2 _ (List.mem_cons_of_mem _ (List.mem_cons_of_mem _ (List.mem_cons_of_mem _ (List.mem_cons_self)))))
  have hc : (0 : Int) = amcode (ρ.2.2.2.1 64321) 90 (ρ.2.1 60033).toInt.toNat := of_decide_eq_true (hF.2 _ (List.mem_cons_of_mem _ (List.mem_cons_of_mem _ (List.mem_cons_self))))
  rw [ev] at hc
  have x7 : sc X ρ3 (157, .add (.elem (.arg 64321) (.int 0)) (.add (.elem (.arg 64353) (.int 0)) (.arg 1308)), .int 5) = true := k157.mpr (by
    rw [eB, eD]
    exact amn_c (K := 4) (m := 90) (by decide) rfl h7 h5 (Or.inl ⟨hc.symm, fun j _ => hA j⟩))
  have x5 : sc X ρ3 (155, .elem (.arg 64353) (.int 0), .int 0) = true := k155.mpr (by rw [eB]; exact h5)
  have lg60129 : ρ3.2.1 60129 = ρ.2.1 60129 := (m4.1 60129 (by decide) (by decide)).2.trans (k4.1 60129 (by decide) (by decide)).2.symm
  have lg60065 : ρ3.2.1 60065 = ρ.2.1 60065 := (m4.1 60065 (by decide) (by decide)).2.trans (k4.1 60065 (by decide) (by decide)).2.symm
  have lg60097 : ρ3.2.1 60097 = ρ.2.1 60097 := (m4.1 60097 (by decide) (by decide)).2.trans (k4.1 60097 (by decide) (by decide)).2.symm
  have z1 : sc X ρ3 (6, .elem (.arg 64321) (.int 1), .arg 60129) = true := decide_eq_true (show ρ3.2.2.2.1 64321 1 = ρ3.2.1 60129 by
    rw [hA, lg60129]
    exact of_decide_eq_true (hF.2 _ (List.mem_cons_of_mem _ (List.mem_cons_of_mem _ (List.mem_cons_of_mem _ (List.mem_cons_of_mem _ (List.mem_cons_of_mem _ (List.mem_cons_of_mem _ (List.mem_cons_self)))))))))
  have z2 : sc X ρ3 (6, .elem (.arg 64353) (.int 114), .arg 60065) = true := decide_eq_true (show ρ3.2.2.2.1 64353 114 = ρ3.2.1 60065 by
    rw [hB, lg60065]
    exact of_decide_eq_true (hF.2 _ (List.mem_cons_of_mem _ (List.mem_cons_of_mem _ (List.mem_cons_of_mem _ (List.mem_cons_of_mem _ (List.mem_cons_of_mem _ (List.mem_cons_of_mem _ (List.mem_cons_of_mem _ (List.mem_cons_self))))))))))
  have z3 : sc X ρ3 (6, .elem (.arg 64353) (.int 123), .arg 60097) = true := decide_eq_true (show ρ3.2.2.2.1 64353 123 = ρ3.2.1 60097 by
    rw [hB, lg60097]
    exact of_decide_eq_true (hF.2 _ (List.mem_cons_of_mem _ (List.mem_cons_of_mem _ (List.mem_cons_of_mem _ (List.mem_cons_of_mem _ (List.mem_cons_of_mem _ (List.mem_cons_of_mem _ (List.mem_cons_of_mem _ (List.mem_cons_of_mem _ (List.mem_cons_self)))))))))))
  exact t_omc5 hv ρ3 m1 ⟨m2.1, fcn (x7) (fcn (x5) (fcn (z1) (fcn (z2) (fcn (z3) (m2.2)))))⟩ m3 m4)))
noncomputable def q_omb4n : sCut := ((fr 0 95 19 [(0, tr 75), (1, .int 90), (2, .int 0), (3, .int 90)] [.arg 60033, .int 90, tr 42], [fr 0 93 73 [(0, tr 75)] [], fr 0 60 30 [(0, tr 39), (1, .int 0)] [], fBot], 11), (fr 0 297 64 [(0, tr 219), (1, .arg 1308)] [], [fr 0 300 36 [(0, tr 219), (1, .arg 1308)] [], fBot], 12), [zf98zzzp_78, zf98zzzp_79, ((139, .add (.elem (.arg 64321) (.int 0)) (.add (.int 90) (.arg 60033)), .int 100925505), true), zf98zzzp_84, zf98zzzp_85, zf98zzzp_17, zf98zzzp_2, zf98zzzp_3, zf98zzzp_4, zf98zzzp_5, ((0, .arg 1702, .int 0), true), ((0, .arg 3360, .int 0), true), ((0, .arg 1350, .int 0), true), ((0, .arg 1826, .int 0), true), zf98zzzp_6, zf98zzzp_14], i_bz)
noncomputable def w_omb4n : List (sCut × List (Nat × sT) × List (Nat × sT × List (sT × sT))) := [(q_omc5T, [], [(64321, .arg 64321, [(.int 94, .long 0), (.int 93, .long 0), (.int 92, .long 0), (.int 91, .long 1614872592), (.int 90, .long 1)]), (64353, .arg 64353, [])])]
theorem k_omb4n : cbody kR [(zWB, c_mcn)] (cpl1 zWB c_bn0 [q_omc5T]) (cpl2 zWB c_bn0 [q_omc5T]) (cleafB kR zWB c_bn0 w_omb4n) 700 false false q_omb4n.2.2.1 q_omb4n.2.2.2 (cst zWB c_bn0.2.2.1.1 q_omb4n.1) (cst zWB c_bn0.2.2.1.2 q_omb4n.2.1) = true := by decide +kernel
theorem t_omb4n {X : pX} {ρ0 : sR} (hv : vok X ρ0) : CUTOK X kR zWB c_bn0 13 ρ0 q_omb4n := CUTOK_AT (fun ρ k1 hF hI k4 => AT_of (q := q_omb4n) rfl rfl (SEM_runB kR_x kR_0 (Cs := [(zWB, c_mcn)]) (fun C hC => by rw [List.mem_singleton.mp hC]; exact s_mcn) c_bn0_f (Q := w_omb4n) hv 700 (b1 := false) (b2 := false) k_omb4n k1 hF hI k4 (fun p hp ρ3 m1 m2 m3 m4 m5 m6 => by
  rw [List.mem_singleton.mp hp] at m2 m3 m5 m6 ⊢
  have eD : ρ3.1 1308 = ρ.1 1308 := (m4.1 1308 (by decide) (by decide)).1.trans (k4.1 1308 (by decide) (by decide)).1.symm
  obtain ⟨d0, d4⟩ := d_r hF.1
  have hB : ∀ j, ρ3.2.2.2.1 64353 j = ρ.2.2.2.1 64353 j := fun j => by
    have hw := m6 (64353, .arg 64353, []) (List.mem_cons_of_mem _ (List.mem_cons_self)) j
    have hw : Value.long (ρ3.2.2.2.1 64353 j) = Value.long (ρ.2.2.2.1 64353 j) := hw
    exact Value.long.inj hw
  obtain ⟨hAn, hAf⟩ := fiv_w (f := ρ.2.2.2.1 64321) (g := ρ3.2.2.2.1 64321) (m := 90) (d := (ρ.1 1308).toInt) (v0 := 1) (v1 := 1614872592) (v2 := 0) (v3 := 0) (v4 := 0) (fun j => m6 (64321, .arg 64321, [(.int 94, .long 0), (.int 93, .long 0), (.int 92, .long 0), (.int 91, .long 1614872592), (.int 90, .long 1)]) (List.mem_cons_self) j) (amw_90 d0 d4 (i := 0) (by decide)) (amw_90 d0 d4 (i := 1) (by decide)) (amw_90 d0 d4 (i := 2) (by decide)) (amw_90 d0 d4 (i := 3) (by decide)) (amw_90 d0 d4 (i := 4) (by decide))
  have h7 := k157.mp (hF.2 _ (List.mem_cons_of_mem _ (List.mem_cons_of_mem _ (List.mem_cons_of_mem _ (List.mem_cons_of_mem _ (List.mem_cons_self))))))
  have h5 := k155.mp (hF.2 _ (List.mem_cons_of_mem _ (List.mem_cons_of_mem _ (List.mem_cons_of_mem _ (List.mem_cons_of_mem _ (List.mem_cons_of_mem _ (List.mem_cons_self)))))))
  have eB : ρ3.2.2.2.1 64353 = ρ.2.2.2.1 64353 := funext hB
  have ev : ρ.2.1 60033 = ρ.2.2.2.1 64321 90 := of_decide_eq_true (hF.2 _ (List.mem_cons_of_mem _ (List.mem_cons_of_mem _ (List.mem_cons_of_mem _ (List.mem_cons_self)))))
  have hc : (100925505 : Int) = amcode (ρ.2.2.2.1 64321) 90 (ρ.2.1 60033).toInt.toNat := of_decide_eq_true (hF.2 _ (List.mem_cons_of_mem _ (List.mem_cons_of_mem _ (List.mem_cons_self))))
  rw [ev] at hc
  have x7 : sc X ρ3 (157, .add (.elem (.arg 64321) (.int 0)) (.add (.elem (.arg 64353) (.int 0)) (.arg 1308)), .int 5) = true := k157.mpr (by
    rw [eB, eD]
    exact amn_c (K := 4) (m := 90) (by decide) rfl h7 h5 (Or.inr ⟨by rw [← hc]; decide, fun j hj => by
    by_cases hi : 90 ≤ j ∧ j < 90 + 5
    · rw [if_pos hi]; exact hAf j hi.1 hi.2
    · rw [if_neg hi, hAn j hi]⟩))
  have x5 : sc X ρ3 (155, .elem (.arg 64353) (.int 0), .int 0) = true := k155.mpr (by rw [eB]; exact h5)
  have lg60129 : ρ3.2.1 60129 = ρ.2.1 60129 := (m4.1 60129 (by decide) (by decide)).2.trans (k4.1 60129 (by decide) (by decide)).2.symm
  have lg60065 : ρ3.2.1 60065 = ρ.2.1 60065 := (m4.1 60065 (by decide) (by decide)).2.trans (k4.1 60065 (by decide) (by decide)).2.symm
  have lg60097 : ρ3.2.1 60097 = ρ.2.1 60097 := (m4.1 60097 (by decide) (by decide)).2.trans (k4.1 60097 (by decide) (by decide)).2.symm
  have z1 : sc X ρ3 (6, .elem (.arg 64321) (.int 1), .arg 60129) = true := decide_eq_true (show ρ3.2.2.2.1 64321 1 = ρ3.2.1 60129 by
    rw [hAn 1 (by decide), lg60129]
    exact of_decide_eq_true (hF.2 _ (List.mem_cons_of_mem _ (List.mem_cons_of_mem _ (List.mem_cons_of_mem _ (List.mem_cons_of_mem _ (List.mem_cons_of_mem _ (List.mem_cons_of_mem _ (List.mem_cons_self)))))))))
  have z2 : sc X ρ3 (6, .elem (.arg 64353) (.int 114), .arg 60065) = true := decide_eq_true (show ρ3.2.2.2.1 64353 114 = ρ3.2.1 60065 by
    rw [hB, lg60065]
    exact of_decide_eq_true (hF.2 _ (List.mem_cons_of_mem _ (List.mem_cons_of_mem _ (List.mem_cons_of_mem _ (List.mem_cons_of_mem _ (List.mem_cons_of_mem _ (List.mem_cons_of_mem _ (List.mem_cons_of_mem _ (List.mem_cons_self))))))))))
  have z3 : sc X ρ3 (6, .elem (.arg 64353) (.int 123), .arg 60097) = true := decide_eq_true (show ρ3.2.2.2.1 64353 123 = ρ3.2.1 60097 by
    rw [hB, lg60097]
    exact of_decide_eq_true (hF.2 _ (List.mem_cons_of_mem _ (List.mem_cons_of_mem _ (List.mem_cons_of_mem _ (List.mem_cons_of_mem _ (List.mem_cons_of_mem _ (List.mem_cons_of_mem _ (List.mem_cons_of_mem _ (List.mem_cons_of_mem _ (List.mem_cons_self)))))))))))
  exact t_omc5 hv ρ3 m1 ⟨m2.1, fcn (x7) (fcn (x5) (fcn (z1) (fcn (z2) (fcn (z3) (m2.2)))))⟩ m3 m4)))
noncomputable def q_omb4l : sCut := ((fr 0 95 19 [(0, tr 75), (1, .int 90), (2, .int 0), (3, .int 90)] [.arg 60033, .int 90, tr 42], [fr 0 93 73 [(0, tr 75)] [], fr 0 60 30 [(0, tr 39), (1, .int 0)] [], fBot], 11), (fr 0 297 64 [(0, tr 219), (1, .arg 1308)] [], [fr 0 300 36 [(0, tr 219), (1, .arg 1308)] [], fBot], 12), [zf98zzzp_78, zf98zzzp_79, ((139, .add (.elem (.arg 64321) (.int 0)) (.add (.int 90) (.arg 60033)), .int 100925506), true), zf98zzzp_84, zf98zzzp_85, zf98zzzp_17, zf98zzzp_2, zf98zzzp_3, zf98zzzp_4, zf98zzzp_5, ((0, .arg 1702, .int 0), true), ((0, .arg 3360, .int 0), true), ((0, .arg 1350, .int 0), true), ((0, .arg 1826, .int 0), true), zf98zzzp_6, zf98zzzp_14], i_bz)
noncomputable def w_omb4l : List (sCut × List (Nat × sT) × List (Nat × sT × List (sT × sT))) := [(q_omc5T, [], [(64321, .arg 64321, [(.int 94, .long 0), (.int 93, .long 0), (.int 92, .long 0), (.int 91, .long 1614872592), (.int 90, .long 1)]), (64353, .arg 64353, [])])]
theorem k_omb4l : cbody kR [(zWB, c_mcl)] (cpl1 zWB c_bn0 [q_omc5T]) (cpl2 zWB c_bn0 [q_omc5T]) (cleafB kR zWB c_bn0 w_omb4l) 700 false false q_omb4l.2.2.1 q_omb4l.2.2.2 (cst zWB c_bn0.2.2.1.1 q_omb4l.1) (cst zWB c_bn0.2.2.1.2 q_omb4l.2.1) = true := by decide +kernel
theorem t_omb4l {X : pX} {ρ0 : sR} (hv : vok X ρ0) : CUTOK X kR zWB c_bn0 13 ρ0 q_omb4l := CUTOK_AT (fun ρ k1 hF hI k4 => AT_of (q := q_omb4l) rfl rfl (SEM_runB kR_x kR_0 (Cs := [(zWB, c_mcl)]) (fun C hC => by rw [List.mem_singleton.mp hC]; exact s_mcl) c_bn0_f (Q := w_omb4l) hv 700 (b1 := false) (b2 := false) k_omb4l k1 hF hI k4 (fun p hp ρ3 m1 m2 m3 m4 m5 m6 => by
  rw [List.mem_singleton.mp hp] at m2 m3 m5 m6 ⊢
  have eD : ρ3.1 1308 = ρ.1 1308 := (m4.1 1308 (by decide) (by decide)).1.trans (k4.1 1308 (by decide) (by decide)).1.symm
  obtain ⟨d0, d4⟩ := d_r hF.1
  have hB : ∀ j, ρ3.2.2.2.1 64353 j = ρ.2.2.2.1 64353 j := fun j => by
    have hw := m6 (64353, .arg 64353, []) (List.mem_cons_of_mem _ (List.mem_cons_self)) j
    have hw : Value.long (ρ3.2.2.2.1 64353 j) = Value.long (ρ.2.2.2.1 64353 j) := hw
    exact Value.long.inj hw
  obtain ⟨hAn, hAf⟩ := fiv_w (f := ρ.2.2.2.1 64321) (g := ρ3.2.2.2.1 64321) (m := 90) (d := (ρ.1 1308).toInt) (v0 := 1) (v1 := 1614872592) (v2 := 0) (v3 := 0) (v4 := 0) (fun j => m6 (64321, .arg 64321, [(.int 94, .long 0), (.int 93, .long 0), (.int 92, .long 0), (.int 91, .long 1614872592), (.int 90, .long 1)]) (List.mem_cons_self) j) (amw_90 d0 d4 (i := 0) (by decide)) (amw_90 d0 d4 (i := 1) (by decide)) (amw_90 d0 d4 (i := 2) (by decide)) (amw_90 d0 d4 (i := 3) (by decide)) (amw_90 d0 d4 (i := 4) (by decide))
  have h7 := k157.mp (hF.2 _ (List.mem_cons_of_mem _ (List.mem_cons_of_mem _ (List.mem_cons_of_mem _ (List.mem_cons_of_mem _ (List.mem_cons_self))))))
  have h5 := k155.mp (hF.2 _ (List.mem_cons_of_mem _ (List.mem_cons_of_mem _ (List.mem_cons_of_mem _ (List.mem_cons_of_mem _ (List.mem_cons_of_mem _ (List.mem_cons_self)))))))
  have eB : ρ3.2.2.2.1 64353 = ρ.2.2.2.1 64353 := funext hB
  have ev : ρ.2.1 60033 = ρ.2.2.2.1 64321 90 := of_decide_eq_true (hF.2 _ (List.mem_cons_of_mem _ (List.mem_cons_of_mem _ (List.mem_cons_of_mem _ (List.mem_cons_self)))))
  have hc : (100925506 : Int) = amcode (ρ.2.2.2.1 64321) 90 (ρ.2.1 60033).toInt.toNat := of_decide_eq_true (hF.2 _ (List.mem_cons_of_mem _ (List.mem_cons_of_mem _ (List.mem_cons_self))))
  rw [ev] at hc
  have x7 : sc X ρ3 (157, .add (.elem (.arg 64321) (.int 0)) (.add (.elem (.arg 64353) (.int 0)) (.arg 1308)), .int 5) = true := k157.mpr (by
    rw [eB, eD]
    exact amn_c (K := 4) (m := 90) (by decide) rfl h7 h5 (Or.inr ⟨by rw [← hc]; decide, fun j hj => by
    by_cases hi : 90 ≤ j ∧ j < 90 + 5
    · rw [if_pos hi]; exact hAf j hi.1 hi.2
    · rw [if_neg hi, hAn j hi]⟩))
  have x5 : sc X ρ3 (155, .elem (.arg 64353) (.int 0), .int 0) = true := k155.mpr (by rw [eB]; exact h5)
  have lg60129 : ρ3.2.1 60129 = ρ.2.1 60129 := (m4.1 60129 (by decide) (by decide)).2.trans (k4.1 60129 (by decide) (by decide)).2.symm
  have lg60065 : ρ3.2.1 60065 = ρ.2.1 60065 := (m4.1 60065 (by decide) (by decide)).2.trans (k4.1 60065 (by decide) (by decide)).2.symm
  have lg60097 : ρ3.2.1 60097 = ρ.2.1 60097 := (m4.1 60097 (by decide) (by decide)).2.trans (k4.1 60097 (by decide) (by decide)).2.symm
  have z1 : sc X ρ3 (6, .elem (.arg 64321) (.int 1), .arg 60129) = true := decide_eq_true (show ρ3.2.2.2.1 64321 1 = ρ3.2.1 60129 by
    rw [hAn 1 (by decide), lg60129]
    exact of_decide_eq_true (hF.2 _ (List.mem_cons_of_mem _ (List.mem_cons_of_mem _ (List.mem_cons_of_mem _ (List.mem_cons_of_mem _ (List.mem_cons_of_mem _ (List.mem_cons_of_mem _ (List.mem_cons_self)))))))))
  have z2 : sc X ρ3 (6, .elem (.arg 64353) (.int 114), .arg 60065) = true := decide_eq_true (show ρ3.2.2.2.1 64353 114 = ρ3.2.1 60065 by
    rw [hB, lg60065]
    exact of_decide_eq_true (hF.2 _ (List.mem_cons_of_mem _ (List.mem_cons_of_mem _ (List.mem_cons_of_mem _ (List.mem_cons_of_mem _ (List.mem_cons_of_mem _ (List.mem_cons_of_mem _ (List.mem_cons_of_mem _ (List.mem_cons_self))))))))))
  have z3 : sc X ρ3 (6, .elem (.arg 64353) (.int 123), .arg 60097) = true := decide_eq_true (show ρ3.2.2.2.1 64353 123 = ρ3.2.1 60097 by
    rw [hB, lg60097]
    exact of_decide_eq_true (hF.2 _ (List.mem_cons_of_mem _ (List.mem_cons_of_mem _ (List.mem_cons_of_mem _ (List.mem_cons_of_mem _ (List.mem_cons_of_mem _ (List.mem_cons_of_mem _ (List.mem_cons_of_mem _ (List.mem_cons_of_mem _ (List.mem_cons_self)))))))))))
  exact t_omc5 hv ρ3 m1 ⟨m2.1, fcn (x7) (fcn (x5) (fcn (z1) (fcn (z2) (fcn (z3) (m2.2)))))⟩ m3 m4)))
theorem t_omb4 {X : pX} {ρ0 : sR} (hv : vok X ρ0) : CUTOK X kR zWB c_bn0 13 ρ0 q_omb4 := fun ρ k1 hF hI k4 => by
  have h5 := k155.mp (hF.2 _ (List.mem_cons_of_mem _ (List.mem_cons_of_mem _ (List.mem_cons_self))))
  have h7 := (k157.mp (hF.2 _ (List.mem_cons_of_mem _ (List.mem_cons_self))) 90 (by decide)).resolve_left (by decide)
  have eA : (ρ.2.2.2.1 64321 90).toInt = (ρ.2.2.2.1 64353 90).toInt := h7.trans (amn_i (K := 4) (m := 90) (by decide) (by decide) rfl (by decide) (by decide))
  obtain ⟨v0, v4⟩ := ev_m4 (m := 90) (by decide) (h5 90 (by decide))
  rw [← eA] at v0 v4
  have ev : ρ.2.1 60033 = ρ.2.2.2.1 64321 90 := of_decide_eq_true (hF.2 _ (List.mem_cons_self))
  rw [← ev] at v0 v4
  rcases am_3 (g := ρ.2.2.2.1 64321) (m := 90) (n := (ρ.2.1 60033).toInt.toNat) with h | h | h
  · exact t_omb4o hv ρ k1 ⟨hF.1, fcn (dl_lf (x := ρ.2.1 60033) (y := 0) (show (0 : Int) ≤ _ from v0)) (fcn (dl_lf (x := 4) (y := ρ.2.1 60033) (show _ ≤ (4 : Int) from v4)) (fcn (decide_eq_true (show (0 : Int) = amcode (ρ.2.2.2.1 64321) 90 (ρ.2.1 60033).toInt.toNat from h.symm)) (hF.2)))⟩ hI k4
  · exact t_omb4n hv ρ k1 ⟨hF.1, fcn (dl_lf (x := ρ.2.1 60033) (y := 0) (show (0 : Int) ≤ _ from v0)) (fcn (dl_lf (x := 4) (y := ρ.2.1 60033) (show _ ≤ (4 : Int) from v4)) (fcn (decide_eq_true (show (100925505 : Int) = amcode (ρ.2.2.2.1 64321) 90 (ρ.2.1 60033).toInt.toNat from h.symm)) (hF.2)))⟩ hI k4
  · exact t_omb4l hv ρ k1 ⟨hF.1, fcn (dl_lf (x := ρ.2.1 60033) (y := 0) (show (0 : Int) ≤ _ from v0)) (fcn (dl_lf (x := 4) (y := ρ.2.1 60033) (show _ ≤ (4 : Int) from v4)) (fcn (decide_eq_true (show (100925506 : Int) = amcode (ρ.2.2.2.1 64321) 90 (ρ.2.1 60033).toInt.toNat from h.symm)) (hF.2)))⟩ hI k4
noncomputable def q_omc4 : sCut := ((fr 0 95 34 [(0, tr 75), (1, .int 50), (2, .int 3)] [], [fr 0 93 70 [(0, tr 75)] [], fr 0 60 30 [(0, tr 39), (1, .int 0)] [], fBot], 11), (fr 0 297 64 [(0, tr 219), (1, .arg 1308)] [], [fr 0 300 36 [(0, tr 219), (1, .arg 1308)] [], fBot], 12), [zf98zzzp_85, zf98zzzp_17, zf98zzzp_2, zf98zzzp_3, zf98zzzp_4, zf98zzzp_5, ((0, .arg 1702, .int 0), true), ((0, .arg 3360, .int 0), true), ((0, .arg 1350, .int 0), true), ((0, .arg 1826, .int 0), true), zf98zzzp_6, zf98zzzp_14], i_bz)
theorem k_omc4 : cbody kR [] (cpl1 zWB c_bn0 [q_omb4]) (cpl2 zWB c_bn0 [q_omb4]) (cleaf kR zWB c_bn0 [q_omb4]) 60 true false q_omc4.2.2.1 q_omc4.2.2.2 (cst zWB c_bn0.2.2.1.1 q_omc4.1) (cst zWB c_bn0.2.2.1.2 q_omc4.2.1) = true := by decide +kernel
theorem t_omc4 {X : pX} {ρ0 : sR} (hv : vok X ρ0) : CUTOK X kR zWB c_bn0 13 ρ0 q_omc4 := CUT_run kR_x kR_0 (Cs := []) (fun C hC => by cases hC) c_bn0_f (Q := [q_omb4]) hv (fun q hq => by
    simp only [List.mem_cons, List.not_mem_nil, or_false] at hq
    rw [hq]; exact t_omb4 hv) 60 (b1 := true) (b2 := false) k_omc4
noncomputable def zf98zzzp_86 : sQ × Bool := ((6, .arg 60033, .elem (.arg 64321) (.int 65)), true)
noncomputable def zf98zzzp_87 : sQ × Bool := ((157, .add (.elem (.arg 64321) (.int 0)) (.add (.elem (.arg 64353) (.int 0)) (.arg 1308)), .int 3), true)
noncomputable def q_omb3 : sCut := ((fr 0 95 19 [(0, tr 75), (1, .int 50), (2, .int 3), (3, .int 65)] [.arg 60033, .int 65, tr 42], [fr 0 93 70 [(0, tr 75)] [], fr 0 60 30 [(0, tr 39), (1, .int 0)] [], fBot], 11), (fr 0 297 64 [(0, tr 219), (1, .arg 1308)] [], [fr 0 300 36 [(0, tr 219), (1, .arg 1308)] [], fBot], 12), [zf98zzzp_86, zf98zzzp_87, zf98zzzp_17, zf98zzzp_2, zf98zzzp_3, zf98zzzp_4, zf98zzzp_5, ((0, .arg 1702, .int 0), true), ((0, .arg 3360, .int 0), true), ((0, .arg 1350, .int 0), true), ((0, .arg 1826, .int 0), true), zf98zzzp_6, zf98zzzp_14], i_bz)
noncomputable def q_omb3o : sCut := ((fr 0 95 19 [(0, tr 75), (1, .int 50), (2, .int 3), (3, .int 65)] [.arg 60033, .int 65, tr 42], [fr 0 93 70 [(0, tr 75)] [], fr 0 60 30 [(0, tr 39), (1, .int 0)] [], fBot], 11), (fr 0 297 64 [(0, tr 219), (1, .arg 1308)] [], [fr 0 300 36 [(0, tr 219), (1, .arg 1308)] [], fBot], 12), [zf98zzzp_78, zf98zzzp_79, ((139, .add (.elem (.arg 64321) (.int 0)) (.add (.int 65) (.arg 60033)), .int 0), true), zf98zzzp_86, zf98zzzp_87, zf98zzzp_17, zf98zzzp_2, zf98zzzp_3, zf98zzzp_4, zf98zzzp_5, ((0, .arg 1702, .int 0), true), ((0, .arg 3360, .int 0), true), ((0, .arg 1350, .int 0), true), ((0, .arg 1826, .int 0), true), zf98zzzp_6, zf98zzzp_14], i_bz)
noncomputable def w_omb3o : List (sCut × List (Nat × sT) × List (Nat × sT × List (sT × sT))) := [(q_omc4T, [], [(64321, .arg 64321, []), (64353, .arg 64353, [])])]
theorem k_omb3o : cbody kR [(zWB, c_mco)] (cpl1 zWB c_bn0 [q_omc4T]) (cpl2 zWB c_bn0 [q_omc4T]) (cleafB kR zWB c_bn0 w_omb3o) 700 false false q_omb3o.2.2.1 q_omb3o.2.2.2 (cst zWB c_bn0.2.2.1.1 q_omb3o.1) (cst zWB c_bn0.2.2.1.2 q_omb3o.2.1) = true := by decide +kernel
theorem t_omb3o {X : pX} {ρ0 : sR} (hv : vok X ρ0) : CUTOK X kR zWB c_bn0 13 ρ0 q_omb3o := CUTOK_AT (fun ρ k1 hF hI k4 => AT_of (q := q_omb3o) rfl rfl (SEM_runB kR_x kR_0 (Cs := [(zWB, c_mco)]) (fun C hC => by rw [List.mem_singleton.mp hC]; exact s_mco) c_bn0_f (Q := w_omb3o) hv 700 (b1 := false) (b2 := false) k_omb3o k1 hF hI k4 (fun p hp ρ3 m1 m2 m3 m4 m5 m6 => by
  rw [List.mem_singleton.mp hp] at m2 m3 m5 m6 ⊢
  have eD : ρ3.1 1308 = ρ.1 1308 := (m4.1 1308 (by decide) (by decide)).1.trans (k4.1 1308 (by decide) (by decide)).1.symm
  obtain ⟨d0, d4⟩ := d_r hF.1
  have hB : ∀ j, ρ3.2.2.2.1 64353 j = ρ.2.2.2.1 64353 j := fun j => by
    have hw := m6 (64353, .arg 64353, []) (List.mem_cons_of_mem _ (List.mem_cons_self)) j
    have hw : Value.long (ρ3.2.2.2.1 64353 j) = Value.long (ρ.2.2.2.1 64353 j) := hw
    exact Value.long.inj hw
  have hA : ∀ j, ρ3.2.2.2.1 64321 j = ρ.2.2.2.1 64321 j := fun j => by
    have hw := m6 (64321, .arg 64321, []) (List.mem_cons_self) j
    have hw : Value.long (ρ3.2.2.2.1 64321 j) = Value.long (ρ.2.2.2.1 64321 j) := hw
    exact Value.long.inj hw
  have h7 := k157.mp (hF.2 _ (List.mem_cons_of_mem _ (List.mem_cons_of_mem _ (List.mem_cons_of_mem _ (List.mem_cons_of_mem _ (List.mem_cons_self))))))
  have h5 := k155.mp (hF.2 _ (List.mem_cons_of_mem _ (List.mem_cons_of_mem _ (List.mem_cons_of_mem _ (List.mem_cons_of_mem _ (List.mem_cons_of_mem _ (List.mem_cons_self)))))))
  have eB : ρ3.2.2.2.1 64353 = ρ.2.2.2.1 64353 := funext hB
  have ev : ρ.2.1 60033 = ρ.2.2.2.1 64321 65 := of_decide_eq_true (hF.2 _ (List.mem_cons_of_mem _ (List.mem_cons_of_mem _ (List.mem_cons_of_mem _ (List.mem_cons_self)))))
  have hc : (0 : Int) = amcode (ρ.2.2.2.1 64321) 65 (ρ.2.1 60033).toInt.toNat := of_decide_eq_true (hF.2 _ (List.mem_cons_of_mem _ (List.mem_cons_of_mem _ (List.mem_cons_self))))
  rw [ev] at hc
  have x7 : sc X ρ3 (157, .add (.elem (.arg 64321) (.int 0)) (.add (.elem (.arg 64353) (.int 0)) (.arg 1308)), .int 4) = true := k157.mpr (by
    rw [eB, eD]
    exact amn_c (K := 3) (m := 65) (by decide) rfl h7 h5 (Or.inl ⟨hc.symm, fun j _ => hA j⟩))
  have x5 : sc X ρ3 (155, .elem (.arg 64353) (.int 0), .int 0) = true := k155.mpr (by rw [eB]; exact h5)
  have lg60129 : ρ3.2.1 60129 = ρ.2.1 60129 := (m4.1 60129 (by decide) (by decide)).2.trans (k4.1 60129 (by decide) (by decide)).2.symm
  have lg60065 : ρ3.2.1 60065 = ρ.2.1 60065 := (m4.1 60065 (by decide) (by decide)).2.trans (k4.1 60065 (by decide) (by decide)).2.symm
  have lg60097 : ρ3.2.1 60097 = ρ.2.1 60097 := (m4.1 60097 (by decide) (by decide)).2.trans (k4.1 60097 (by decide) (by decide)).2.symm
  have z1 : sc X ρ3 (6, .elem (.arg 64321) (.int 1), .arg 60129) = true := decide_eq_true (show ρ3.2.2.2.1 64321 1 = ρ3.2.1 60129 by
    rw [hA, lg60129]
    exact of_decide_eq_true (hF.2 _ (List.mem_cons_of_mem _ (List.mem_cons_of_mem _ (List.mem_cons_of_mem _ (List.mem_cons_of_mem _ (List.mem_cons_of_mem _ (List.mem_cons_of_mem _ (List.mem_cons_self)))))))))
  have z2 : sc X ρ3 (6, .elem (.arg 64353) (.int 114), .arg 60065) = true := decide_eq_true (show ρ3.2.2.2.1 64353 114 = ρ3.2.1 60065 by
    rw [hB, lg60065]
    exact of_decide_eq_true (hF.2 _ (List.mem_cons_of_mem _ (List.mem_cons_of_mem _ (List.mem_cons_of_mem _ (List.mem_cons_of_mem _ (List.mem_cons_of_mem _ (List.mem_cons_of_mem _ (List.mem_cons_of_mem _ (List.mem_cons_self))))))))))
  have z3 : sc X ρ3 (6, .elem (.arg 64353) (.int 123), .arg 60097) = true := decide_eq_true (show ρ3.2.2.2.1 64353 123 = ρ3.2.1 60097 by
    rw [hB, lg60097]
    exact of_decide_eq_true (hF.2 _ (List.mem_cons_of_mem _ (List.mem_cons_of_mem _ (List.mem_cons_of_mem _ (List.mem_cons_of_mem _ (List.mem_cons_of_mem _ (List.mem_cons_of_mem _ (List.mem_cons_of_mem _ (List.mem_cons_of_mem _ (List.mem_cons_self)))))))))))
  exact t_omc4 hv ρ3 m1 ⟨m2.1, fcn (x7) (fcn (x5) (fcn (z1) (fcn (z2) (fcn (z3) (m2.2)))))⟩ m3 m4)))
noncomputable def q_omb3n : sCut := ((fr 0 95 19 [(0, tr 75), (1, .int 50), (2, .int 3), (3, .int 65)] [.arg 60033, .int 65, tr 42], [fr 0 93 70 [(0, tr 75)] [], fr 0 60 30 [(0, tr 39), (1, .int 0)] [], fBot], 11), (fr 0 297 64 [(0, tr 219), (1, .arg 1308)] [], [fr 0 300 36 [(0, tr 219), (1, .arg 1308)] [], fBot], 12), [zf98zzzp_78, zf98zzzp_79, ((139, .add (.elem (.arg 64321) (.int 0)) (.add (.int 65) (.arg 60033)), .int 100925505), true), zf98zzzp_86, zf98zzzp_87, zf98zzzp_17, zf98zzzp_2, zf98zzzp_3, zf98zzzp_4, zf98zzzp_5, ((0, .arg 1702, .int 0), true), ((0, .arg 3360, .int 0), true), ((0, .arg 1350, .int 0), true), ((0, .arg 1826, .int 0), true), zf98zzzp_6, zf98zzzp_14], i_bz)
noncomputable def w_omb3n : List (sCut × List (Nat × sT) × List (Nat × sT × List (sT × sT))) := [(q_omc4T, [], [(64321, .arg 64321, [(.int 69, .long 0), (.int 68, .long 0), (.int 67, .long 0), (.int 66, .long 0), (.int 65, .long 0)]), (64353, .arg 64353, [])])]
theorem k_omb3n : cbody kR [(zWB, c_mcn)] (cpl1 zWB c_bn0 [q_omc4T]) (cpl2 zWB c_bn0 [q_omc4T]) (cleafB kR zWB c_bn0 w_omb3n) 700 false false q_omb3n.2.2.1 q_omb3n.2.2.2 (cst zWB c_bn0.2.2.1.1 q_omb3n.1) (cst zWB c_bn0.2.2.1.2 q_omb3n.2.1) = true := by decide +kernel
theorem t_omb3n {X : pX} {ρ0 : sR} (hv : vok X ρ0) : CUTOK X kR zWB c_bn0 13 ρ0 q_omb3n := CUTOK_AT (fun ρ k1 hF hI k4 => AT_of (q := q_omb3n) rfl rfl (SEM_runB kR_x kR_0 (Cs := [(zWB, c_mcn)]) (fun C hC => by rw [List.mem_singleton.mp hC]; exact s_mcn) c_bn0_f (Q := w_omb3n) hv 700 (b1 := false) (b2 := false) k_omb3n k1 hF hI k4 (fun p hp ρ3 m1 m2 m3 m4 m5 m6 => by
  rw [List.mem_singleton.mp hp] at m2 m3 m5 m6 ⊢
  have eD : ρ3.1 1308 = ρ.1 1308 := (m4.1 1308 (by decide) (by decide)).1.trans (k4.1 1308 (by decide) (by decide)).1.symm
  obtain ⟨d0, d4⟩ := d_r hF.1
  have hB : ∀ j, ρ3.2.2.2.1 64353 j = ρ.2.2.2.1 64353 j := fun j => by
    have hw := m6 (64353, .arg 64353, []) (List.mem_cons_of_mem _ (List.mem_cons_self)) j
    have hw : Value.long (ρ3.2.2.2.1 64353 j) = Value.long (ρ.2.2.2.1 64353 j) := hw
    exact Value.long.inj hw
  obtain ⟨hAn, hAf⟩ := fiv_w (f := ρ.2.2.2.1 64321) (g := ρ3.2.2.2.1 64321) (m := 65) (d := (ρ.1 1308).toInt) (v0 := 0) (v1 := 0) (v2 := 0) (v3 := 0) (v4 := 0) (fun j => m6 (64321, .arg 64321, [(.int 69, .long 0), (.int 68, .long 0), (.int 67, .long 0), (.int 66, .long 0), (.int 65, .long 0)]) (List.mem_cons_self) j) (amw_65 d0 d4 (i := 0) (by decide)) (amw_65 d0 d4 (i := 1) (by decide)) (amw_65 d0 d4 (i := 2) (by decide)) (amw_65 d0 d4 (i := 3) (by decide)) (amw_65 d0 d4 (i := 4) (by decide))
  have h7 := k157.mp (hF.2 _ (List.mem_cons_of_mem _ (List.mem_cons_of_mem _ (List.mem_cons_of_mem _ (List.mem_cons_of_mem _ (List.mem_cons_self))))))
  have h5 := k155.mp (hF.2 _ (List.mem_cons_of_mem _ (List.mem_cons_of_mem _ (List.mem_cons_of_mem _ (List.mem_cons_of_mem _ (List.mem_cons_of_mem _ (List.mem_cons_self)))))))
  have eB : ρ3.2.2.2.1 64353 = ρ.2.2.2.1 64353 := funext hB
  have ev : ρ.2.1 60033 = ρ.2.2.2.1 64321 65 := of_decide_eq_true (hF.2 _ (List.mem_cons_of_mem _ (List.mem_cons_of_mem _ (List.mem_cons_of_mem _ (List.mem_cons_self)))))
  have hc : (100925505 : Int) = amcode (ρ.2.2.2.1 64321) 65 (ρ.2.1 60033).toInt.toNat := of_decide_eq_true (hF.2 _ (List.mem_cons_of_mem _ (List.mem_cons_of_mem _ (List.mem_cons_self))))
  rw [ev] at hc
  have x7 : sc X ρ3 (157, .add (.elem (.arg 64321) (.int 0)) (.add (.elem (.arg 64353) (.int 0)) (.arg 1308)), .int 4) = true := k157.mpr (by
    rw [eB, eD]
    exact amn_c (K := 3) (m := 65) (by decide) rfl h7 h5 (Or.inr ⟨by rw [← hc]; decide, fun j hj => by
    by_cases hi : 65 ≤ j ∧ j < 65 + 5
    · rw [if_pos hi]; exact hAf j hi.1 hi.2
    · rw [if_neg hi, hAn j hi]⟩))
  have x5 : sc X ρ3 (155, .elem (.arg 64353) (.int 0), .int 0) = true := k155.mpr (by rw [eB]; exact h5)
  have lg60129 : ρ3.2.1 60129 = ρ.2.1 60129 := (m4.1 60129 (by decide) (by decide)).2.trans (k4.1 60129 (by decide) (by decide)).2.symm
  have lg60065 : ρ3.2.1 60065 = ρ.2.1 60065 := (m4.1 60065 (by decide) (by decide)).2.trans (k4.1 60065 (by decide) (by decide)).2.symm
  have lg60097 : ρ3.2.1 60097 = ρ.2.1 60097 := (m4.1 60097 (by decide) (by decide)).2.trans (k4.1 60097 (by decide) (by decide)).2.symm
  have z1 : sc X ρ3 (6, .elem (.arg 64321) (.int 1), .arg 60129) = true := decide_eq_true (show ρ3.2.2.2.1 64321 1 = ρ3.2.1 60129 by
    rw [hAn 1 (by decide), lg60129]
    exact of_decide_eq_true (hF.2 _ (List.mem_cons_of_mem _ (List.mem_cons_of_mem _ (List.mem_cons_of_mem _ (List.mem_cons_of_mem _ (List.mem_cons_of_mem _ (List.mem_cons_of_mem _ (List.mem_cons_self)))))))))
  have z2 : sc X ρ3 (6, .elem (.arg 64353) (.int 114), .arg 60065) = true := decide_eq_true (show ρ3.2.2.2.1 64353 114 = ρ3.2.1 60065 by
    rw [hB, lg60065]
    exact of_decide_eq_true (hF.2 _ (List.mem_cons_of_mem _ (List.mem_cons_of_mem _ (List.mem_cons_of_mem _ (List.mem_cons_of_mem _ (List.mem_cons_of_mem _ (List.mem_cons_of_mem _ (List.mem_cons_of_mem _ (List.mem_cons_self))))))))))
  have z3 : sc X ρ3 (6, .elem (.arg 64353) (.int 123), .arg 60097) = true := decide_eq_true (show ρ3.2.2.2.1 64353 123 = ρ3.2.1 60097 by
    rw [hB, lg60097]
    exact of_decide_eq_true (hF.2 _ (List.mem_cons_of_mem _ (List.mem_cons_of_mem _ (List.mem_cons_of_mem _ (List.mem_cons_of_mem _ (List.mem_cons_of_mem _ (List.mem_cons_of_mem _ (List.mem_cons_of_mem _ (List.mem_cons_of_mem _ (List.mem_cons_self)))))))))))
  exact t_omc4 hv ρ3 m1 ⟨m2.1, fcn (x7) (fcn (x5) (fcn (z1) (fcn (z2) (fcn (z3) (m2.2)))))⟩ m3 m4)))
noncomputable def q_omb3l : sCut := ((fr 0 95 19 [(0, tr 75), (1, .int 50), (2, .int 3), (3, .int 65)] [.arg 60033, .int 65, tr 42], [fr 0 93 70 [(0, tr 75)] [], fr 0 60 30 [(0, tr 39), (1, .int 0)] [], fBot], 11), (fr 0 297 64 [(0, tr 219), (1, .arg 1308)] [], [fr 0 300 36 [(0, tr 219), (1, .arg 1308)] [], fBot], 12), [zf98zzzp_78, zf98zzzp_79, ((139, .add (.elem (.arg 64321) (.int 0)) (.add (.int 65) (.arg 60033)), .int 100925506), true), zf98zzzp_86, zf98zzzp_87, zf98zzzp_17, zf98zzzp_2, zf98zzzp_3, zf98zzzp_4, zf98zzzp_5, ((0, .arg 1702, .int 0), true), ((0, .arg 3360, .int 0), true), ((0, .arg 1350, .int 0), true), ((0, .arg 1826, .int 0), true), zf98zzzp_6, zf98zzzp_14], i_bz)
noncomputable def w_omb3l : List (sCut × List (Nat × sT) × List (Nat × sT × List (sT × sT))) := [(q_omc4T, [], [(64321, .arg 64321, [(.int 69, .long 0), (.int 68, .long 0), (.int 67, .long 0), (.int 66, .long 0), (.int 65, .long 0)]), (64353, .arg 64353, [])])]
theorem k_omb3l : cbody kR [(zWB, c_mcl)] (cpl1 zWB c_bn0 [q_omc4T]) (cpl2 zWB c_bn0 [q_omc4T]) (cleafB kR zWB c_bn0 w_omb3l) 700 false false q_omb3l.2.2.1 q_omb3l.2.2.2 (cst zWB c_bn0.2.2.1.1 q_omb3l.1) (cst zWB c_bn0.2.2.1.2 q_omb3l.2.1) = true := by decide +kernel
theorem t_omb3l {X : pX} {ρ0 : sR} (hv : vok X ρ0) : CUTOK X kR zWB c_bn0 13 ρ0 q_omb3l := CUTOK_AT (fun ρ k1 hF hI k4 => AT_of (q := q_omb3l) rfl rfl (SEM_runB kR_x kR_0 (Cs := [(zWB, c_mcl)]) (fun C hC => by rw [List.mem_singleton.mp hC]; exact s_mcl) c_bn0_f (Q := w_omb3l) hv 700 (b1 := false) (b2 := false) k_omb3l k1 hF hI k4 (fun p hp ρ3 m1 m2 m3 m4 m5 m6 => by
  rw [List.mem_singleton.mp hp] at m2 m3 m5 m6 ⊢
  have eD : ρ3.1 1308 = ρ.1 1308 := (m4.1 1308 (by decide) (by decide)).1.trans (k4.1 1308 (by decide) (by decide)).1.symm
  obtain ⟨d0, d4⟩ := d_r hF.1
  have hB : ∀ j, ρ3.2.2.2.1 64353 j = ρ.2.2.2.1 64353 j := fun j => by
    have hw := m6 (64353, .arg 64353, []) (List.mem_cons_of_mem _ (List.mem_cons_self)) j
    have hw : Value.long (ρ3.2.2.2.1 64353 j) = Value.long (ρ.2.2.2.1 64353 j) := hw
    exact Value.long.inj hw
  obtain ⟨hAn, hAf⟩ := fiv_w (f := ρ.2.2.2.1 64321) (g := ρ3.2.2.2.1 64321) (m := 65) (d := (ρ.1 1308).toInt) (v0 := 0) (v1 := 0) (v2 := 0) (v3 := 0) (v4 := 0) (fun j => m6 (64321, .arg 64321, [(.int 69, .long 0), (.int 68, .long 0), (.int 67, .long 0), (.int 66, .long 0), (.int 65, .long 0)]) (List.mem_cons_self) j) (amw_65 d0 d4 (i := 0) (by decide)) (amw_65 d0 d4 (i := 1) (by decide)) (amw_65 d0 d4 (i := 2) (by decide)) (amw_65 d0 d4 (i := 3) (by decide)) (amw_65 d0 d4 (i := 4) (by decide))
  have h7 := k157.mp (hF.2 _ (List.mem_cons_of_mem _ (List.mem_cons_of_mem _ (List.mem_cons_of_mem _ (List.mem_cons_of_mem _ (List.mem_cons_self))))))
  have h5 := k155.mp (hF.2 _ (List.mem_cons_of_mem _ (List.mem_cons_of_mem _ (List.mem_cons_of_mem _ (List.mem_cons_of_mem _ (List.mem_cons_of_mem _ (List.mem_cons_self)))))))
  have eB : ρ3.2.2.2.1 64353 = ρ.2.2.2.1 64353 := funext hB
  have ev : ρ.2.1 60033 = ρ.2.2.2.1 64321 65 := of_decide_eq_true (hF.2 _ (List.mem_cons_of_mem _ (List.mem_cons_of_mem _ (List.mem_cons_of_mem _ (List.mem_cons_self)))))
  have hc : (100925506 : Int) = amcode (ρ.2.2.2.1 64321) 65 (ρ.2.1 60033).toInt.toNat := of_decide_eq_true (hF.2 _ (List.mem_cons_of_mem _ (List.mem_cons_of_mem _ (List.mem_cons_self))))
  rw [ev] at hc
  have x7 : sc X ρ3 (157, .add (.elem (.arg 64321) (.int 0)) (.add (.elem (.arg 64353) (.int 0)) (.arg 1308)), .int 4) = true := k157.mpr (by
    rw [eB, eD]
    exact amn_c (K := 3) (m := 65) (by decide) rfl h7 h5 (Or.inr ⟨by rw [← hc]; decide, fun j hj => by
    by_cases hi : 65 ≤ j ∧ j < 65 + 5
    · rw [if_pos hi]; exact hAf j hi.1 hi.2
    · rw [if_neg hi, hAn j hi]⟩))
  have x5 : sc X ρ3 (155, .elem (.arg 64353) (.int 0), .int 0) = true := k155.mpr (by rw [eB]; exact h5)
  have lg60129 : ρ3.2.1 60129 = ρ.2.1 60129 := (m4.1 60129 (by decide) (by decide)).2.trans (k4.1 60129 (by decide) (by decide)).2.symm
  have lg60065 : ρ3.2.1 60065 = ρ.2.1 60065 := (m4.1 60065 (by decide) (by decide)).2.trans (k4.1 60065 (by decide) (by decide)).2.symm
  have lg60097 : ρ3.2.1 60097 = ρ.2.1 60097 := (m4.1 60097 (by decide) (by decide)).2.trans (k4.1 60097 (by decide) (by decide)).2.symm
  have z1 : sc X ρ3 (6, .elem (.arg 64321) (.int 1), .arg 60129) = true := decide_eq_true (show ρ3.2.2.2.1 64321 1 = ρ3.2.1 60129 by
    rw [hAn 1 (by decide), lg60129]
    exact of_decide_eq_true (hF.2 _ (List.mem_cons_of_mem _ (List.mem_cons_of_mem _ (List.mem_cons_of_mem _ (List.mem_cons_of_mem _ (List.mem_cons_of_mem _ (List.mem_cons_of_mem _ (List.mem_cons_self)))))))))
  have z2 : sc X ρ3 (6, .elem (.arg 64353) (.int 114), .arg 60065) = true := decide_eq_true (show ρ3.2.2.2.1 64353 114 = ρ3.2.1 60065 by
    rw [hB, lg60065]
    exact of_decide_eq_true (hF.2 _ (List.mem_cons_of_mem _ (List.mem_cons_of_mem _ (List.mem_cons_of_mem _ (List.mem_cons_of_mem _ (List.mem_cons_of_mem _ (List.mem_cons_of_mem _ (List.mem_cons_of_mem _ (List.mem_cons_self))))))))))
  have z3 : sc X ρ3 (6, .elem (.arg 64353) (.int 123), .arg 60097) = true := decide_eq_true (show ρ3.2.2.2.1 64353 123 = ρ3.2.1 60097 by
    rw [hB, lg60097]
    exact of_decide_eq_true (hF.2 _ (List.mem_cons_of_mem _ (List.mem_cons_of_mem _ (List.mem_cons_of_mem _ (List.mem_cons_of_mem _ (List.mem_cons_of_mem _ (List.mem_cons_of_mem _ (List.mem_cons_of_mem _ (List.mem_cons_of_mem _ (List.mem_cons_self)))))))))))
  exact t_omc4 hv ρ3 m1 ⟨m2.1, fcn (x7) (fcn (x5) (fcn (z1) (fcn (z2) (fcn (z3) (m2.2)))))⟩ m3 m4)))
theorem t_omb3 {X : pX} {ρ0 : sR} (hv : vok X ρ0) : CUTOK X kR zWB c_bn0 13 ρ0 q_omb3 := fun ρ k1 hF hI k4 => by
  have h5 := k155.mp (hF.2 _ (List.mem_cons_of_mem _ (List.mem_cons_of_mem _ (List.mem_cons_self))))
  have h7 := (k157.mp (hF.2 _ (List.mem_cons_of_mem _ (List.mem_cons_self))) 65 (by decide)).resolve_left (by decide)
  have eA : (ρ.2.2.2.1 64321 65).toInt = (ρ.2.2.2.1 64353 65).toInt := h7.trans (amn_i (K := 3) (m := 65) (by decide) (by decide) rfl (by decide) (by decide))
  obtain ⟨v0, v4⟩ := ev_m4 (m := 65) (by decide) (h5 65 (by decide))
  rw [← eA] at v0 v4
  have ev : ρ.2.1 60033 = ρ.2.2.2.1 64321 65 := of_decide_eq_true (hF.2 _ (List.mem_cons_self))
  rw [← ev] at v0 v4
  rcases am_3 (g := ρ.2.2.2.1 64321) (m := 65) (n := (ρ.2.1 60033).toInt.toNat) with h | h | h
  · exact t_omb3o hv ρ k1 ⟨hF.1, fcn (dl_lf (x := ρ.2.1 60033) (y := 0) (show (0 : Int) ≤ _ from v0)) (fcn (dl_lf (x := 4) (y := ρ.2.1 60033) (show _ ≤ (4 : Int) from v4)) (fcn (decide_eq_true (show (0 : Int) = amcode (ρ.2.2.2.1 64321) 65 (ρ.2.1 60033).toInt.toNat from h.symm)) (hF.2)))⟩ hI k4
  · exact t_omb3n hv ρ k1 ⟨hF.1, fcn (dl_lf (x := ρ.2.1 60033) (y := 0) (show (0 : Int) ≤ _ from v0)) (fcn (dl_lf (x := 4) (y := ρ.2.1 60033) (show _ ≤ (4 : Int) from v4)) (fcn (decide_eq_true (show (100925505 : Int) = amcode (ρ.2.2.2.1 64321) 65 (ρ.2.1 60033).toInt.toNat from h.symm)) (hF.2)))⟩ hI k4
  · exact t_omb3l hv ρ k1 ⟨hF.1, fcn (dl_lf (x := ρ.2.1 60033) (y := 0) (show (0 : Int) ≤ _ from v0)) (fcn (dl_lf (x := 4) (y := ρ.2.1 60033) (show _ ≤ (4 : Int) from v4)) (fcn (decide_eq_true (show (100925506 : Int) = amcode (ρ.2.2.2.1 64321) 65 (ρ.2.1 60033).toInt.toNat from h.symm)) (hF.2)))⟩ hI k4
noncomputable def q_omc3 : sCut := ((fr 0 95 34 [(0, tr 75), (1, .int 50), (2, .int 2)] [], [fr 0 93 70 [(0, tr 75)] [], fr 0 60 30 [(0, tr 39), (1, .int 0)] [], fBot], 11), (fr 0 297 64 [(0, tr 219), (1, .arg 1308)] [], [fr 0 300 36 [(0, tr 219), (1, .arg 1308)] [], fBot], 12), [zf98zzzp_87, zf98zzzp_17, zf98zzzp_2, zf98zzzp_3, zf98zzzp_4, zf98zzzp_5, ((0, .arg 1702, .int 0), true), ((0, .arg 3360, .int 0), true), ((0, .arg 1350, .int 0), true), ((0, .arg 1826, .int 0), true), zf98zzzp_6, zf98zzzp_14], i_bz)
theorem k_omc3 : cbody kR [] (cpl1 zWB c_bn0 [q_omb3]) (cpl2 zWB c_bn0 [q_omb3]) (cleaf kR zWB c_bn0 [q_omb3]) 60 true false q_omc3.2.2.1 q_omc3.2.2.2 (cst zWB c_bn0.2.2.1.1 q_omc3.1) (cst zWB c_bn0.2.2.1.2 q_omc3.2.1) = true := by decide +kernel
theorem t_omc3 {X : pX} {ρ0 : sR} (hv : vok X ρ0) : CUTOK X kR zWB c_bn0 13 ρ0 q_omc3 := CUT_run kR_x kR_0 (Cs := []) (fun C hC => by cases hC) c_bn0_f (Q := [q_omb3]) hv (fun q hq => by
    simp only [List.mem_cons, List.not_mem_nil, or_false] at hq
    rw [hq]; exact t_omb3 hv) 60 (b1 := true) (b2 := false) k_omc3
noncomputable def zf98zzzp_88 : sQ × Bool := ((6, .arg 60033, .elem (.arg 64321) (.int 60)), true)
noncomputable def zf98zzzp_89 : sQ × Bool := ((157, .add (.elem (.arg 64321) (.int 0)) (.add (.elem (.arg 64353) (.int 0)) (.arg 1308)), .int 2), true)
noncomputable def q_omb2 : sCut := ((fr 0 95 19 [(0, tr 75), (1, .int 50), (2, .int 2), (3, .int 60)] [.arg 60033, .int 60, tr 42], [fr 0 93 70 [(0, tr 75)] [], fr 0 60 30 [(0, tr 39), (1, .int 0)] [], fBot], 11), (fr 0 297 64 [(0, tr 219), (1, .arg 1308)] [], [fr 0 300 36 [(0, tr 219), (1, .arg 1308)] [], fBot], 12), [zf98zzzp_88, zf98zzzp_89, zf98zzzp_17, zf98zzzp_2, zf98zzzp_3, zf98zzzp_4, zf98zzzp_5, ((0, .arg 1702, .int 0), true), ((0, .arg 3360, .int 0), true), ((0, .arg 1350, .int 0), true), ((0, .arg 1826, .int 0), true), zf98zzzp_6, zf98zzzp_14], i_bz)
noncomputable def q_omb2o : sCut := ((fr 0 95 19 [(0, tr 75), (1, .int 50), (2, .int 2), (3, .int 60)] [.arg 60033, .int 60, tr 42], [fr 0 93 70 [(0, tr 75)] [], fr 0 60 30 [(0, tr 39), (1, .int 0)] [], fBot], 11), (fr 0 297 64 [(0, tr 219), (1, .arg 1308)] [], [fr 0 300 36 [(0, tr 219), (1, .arg 1308)] [], fBot], 12), [zf98zzzp_78, zf98zzzp_79, ((139, .add (.elem (.arg 64321) (.int 0)) (.add (.int 60) (.arg 60033)), .int 0), true), zf98zzzp_88, zf98zzzp_89, zf98zzzp_17, zf98zzzp_2, zf98zzzp_3, zf98zzzp_4, zf98zzzp_5, ((0, .arg 1702, .int 0), true), ((0, .arg 3360, .int 0), true), ((0, .arg 1350, .int 0), true), ((0, .arg 1826, .int 0), true), zf98zzzp_6, zf98zzzp_14], i_bz)
noncomputable def w_omb2o : List (sCut × List (Nat × sT) × List (Nat × sT × List (sT × sT))) := [(q_omc3T, [], [(64321, .arg 64321, []), (64353, .arg 64353, [])])]
theorem k_omb2o : cbody kR [(zWB, c_mco)] (cpl1 zWB c_bn0 [q_omc3T]) (cpl2 zWB c_bn0 [q_omc3T]) (cleafB kR zWB c_bn0 w_omb2o) 700 false false q_omb2o.2.2.1 q_omb2o.2.2.2 (cst zWB c_bn0.2.2.1.1 q_omb2o.1) (cst zWB c_bn0.2.2.1.2 q_omb2o.2.1) = true := by decide +kernel
theorem t_omb2o {X : pX} {ρ0 : sR} (hv : vok X ρ0) : CUTOK X kR zWB c_bn0 13 ρ0 q_omb2o := CUTOK_AT (fun ρ k1 hF hI k4 => AT_of (q := q_omb2o) rfl rfl (SEM_runB kR_x kR_0 (Cs := [(zWB, c_mco)]) (fun C hC => by rw [List.mem_singleton.mp hC]; exact s_mco) c_bn0_f (Q := w_omb2o) hv 700 (b1 := false) (b2 := false) k_omb2o k1 hF hI k4 (fun p hp ρ3 m1 m2 m3 m4 m5 m6 => by
  rw [List.mem_singleton.mp hp] at m2 m3 m5 m6 ⊢
  have eD : ρ3.1 1308 = ρ.1 1308 := (m4.1 1308 (by decide) (by decide)).1.trans (k4.1 1308 (by decide) (by decide)).1.symm
  obtain ⟨d0, d4⟩ := d_r hF.1
  have hB : ∀ j, ρ3.2.2.2.1 64353 j = ρ.2.2.2.1 64353 j := fun j => by
    have hw := m6 (64353, .arg 64353, []) (List.mem_cons_of_mem _ (List.mem_cons_self)) j
    have hw : Value.long (ρ3.2.2.2.1 64353 j) = Value.long (ρ.2.2.2.1 64353 j) := hw
    exact Value.long.inj hw
  have hA : ∀ j, ρ3.2.2.2.1 64321 j = ρ.2.2.2.1 64321 j := fun j => by
    have hw := m6 (64321, .arg 64321, []) (List.mem_cons_self) j
    have hw : Value.long (ρ3.2.2.2.1 64321 j) = Value.long (ρ.2.2.2.1 64321 j) := hw
    exact Value.long.inj hw
  have h7 := k157.mp (hF.2 _ (List.mem_cons_of_mem _ (List.mem_cons_of_mem _ (List.mem_cons_of_mem _ (List.mem_cons_of_mem _ (List.mem_cons_self))))))
  have h5 := k155.mp (hF.2 _ (List.mem_cons_of_mem _ (List.mem_cons_of_mem _ (List.mem_cons_of_mem _ (List.mem_cons_of_mem _ (List.mem_cons_of_mem _ (List.mem_cons_self)))))))
  have eB : ρ3.2.2.2.1 64353 = ρ.2.2.2.1 64353 := funext hB
  have ev : ρ.2.1 60033 = ρ.2.2.2.1 64321 60 := of_decide_eq_true (hF.2 _ (List.mem_cons_of_mem _ (List.mem_cons_of_mem _ (List.mem_cons_of_mem _ (List.mem_cons_self)))))
  have hc : (0 : Int) = amcode (ρ.2.2.2.1 64321) 60 (ρ.2.1 60033).toInt.toNat := of_decide_eq_true (hF.2 _ (List.mem_cons_of_mem _ (List.mem_cons_of_mem _ (List.mem_cons_self))))
  rw [ev] at hc
  have x7 : sc X ρ3 (157, .add (.elem (.arg 64321) (.int 0)) (.add (.elem (.arg 64353) (.int 0)) (.arg 1308)), .int 3) = true := k157.mpr (by
    rw [eB, eD]
    exact amn_c (K := 2) (m := 60) (by decide) rfl h7 h5 (Or.inl ⟨hc.symm, fun j _ => hA j⟩))
  have x5 : sc X ρ3 (155, .elem (.arg 64353) (.int 0), .int 0) = true := k155.mpr (by rw [eB]; exact h5)
  have lg60129 : ρ3.2.1 60129 = ρ.2.1 60129 := (m4.1 60129 (by decide) (by decide)).2.trans (k4.1 60129 (by decide) (by decide)).2.symm
  have lg60065 : ρ3.2.1 60065 = ρ.2.1 60065 := (m4.1 60065 (by decide) (by decide)).2.trans (k4.1 60065 (by decide) (by decide)).2.symm
  have lg60097 : ρ3.2.1 60097 = ρ.2.1 60097 := (m4.1 60097 (by decide) (by decide)).2.trans (k4.1 60097 (by decide) (by decide)).2.symm
  have z1 : sc X ρ3 (6, .elem (.arg 64321) (.int 1), .arg 60129) = true := decide_eq_true (show ρ3.2.2.2.1 64321 1 = ρ3.2.1 60129 by
    rw [hA, lg60129]
    exact of_decide_eq_true (hF.2 _ (List.mem_cons_of_mem _ (List.mem_cons_of_mem _ (List.mem_cons_of_mem _ (List.mem_cons_of_mem _ (List.mem_cons_of_mem _ (List.mem_cons_of_mem _ (List.mem_cons_self)))))))))
  have z2 : sc X ρ3 (6, .elem (.arg 64353) (.int 114), .arg 60065) = true := decide_eq_true (show ρ3.2.2.2.1 64353 114 = ρ3.2.1 60065 by
    rw [hB, lg60065]
    exact of_decide_eq_true (hF.2 _ (List.mem_cons_of_mem _ (List.mem_cons_of_mem _ (List.mem_cons_of_mem _ (List.mem_cons_of_mem _ (List.mem_cons_of_mem _ (List.mem_cons_of_mem _ (List.mem_cons_of_mem _ (List.mem_cons_self))))))))))
  have z3 : sc X ρ3 (6, .elem (.arg 64353) (.int 123), .arg 60097) = true := decide_eq_true (show ρ3.2.2.2.1 64353 123 = ρ3.2.1 60097 by
    rw [hB, lg60097]
    exact of_decide_eq_true (hF.2 _ (List.mem_cons_of_mem _ (List.mem_cons_of_mem _ (List.mem_cons_of_mem _ (List.mem_cons_of_mem _ (List.mem_cons_of_mem _ (List.mem_cons_of_mem _ (List.mem_cons_of_mem _ (List.mem_cons_of_mem _ (List.mem_cons_self)))))))))))
  exact t_omc3 hv ρ3 m1 ⟨m2.1, fcn (x7) (fcn (x5) (fcn (z1) (fcn (z2) (fcn (z3) (m2.2)))))⟩ m3 m4)))
noncomputable def q_omb2n : sCut := ((fr 0 95 19 [(0, tr 75), (1, .int 50), (2, .int 2), (3, .int 60)] [.arg 60033, .int 60, tr 42], [fr 0 93 70 [(0, tr 75)] [], fr 0 60 30 [(0, tr 39), (1, .int 0)] [], fBot], 11), (fr 0 297 64 [(0, tr 219), (1, .arg 1308)] [], [fr 0 300 36 [(0, tr 219), (1, .arg 1308)] [], fBot], 12), [zf98zzzp_78, zf98zzzp_79, ((139, .add (.elem (.arg 64321) (.int 0)) (.add (.int 60) (.arg 60033)), .int 100925505), true), zf98zzzp_88, zf98zzzp_89, zf98zzzp_17, zf98zzzp_2, zf98zzzp_3, zf98zzzp_4, zf98zzzp_5, ((0, .arg 1702, .int 0), true), ((0, .arg 3360, .int 0), true), ((0, .arg 1350, .int 0), true), ((0, .arg 1826, .int 0), true), zf98zzzp_6, zf98zzzp_14], i_bz)
noncomputable def w_omb2n : List (sCut × List (Nat × sT) × List (Nat × sT × List (sT × sT))) := [(q_omc3T, [], [(64321, .arg 64321, [(.int 64, .long 0), (.int 63, .long 0), (.int 62, .long 0), (.int 61, .long 0), (.int 60, .long 0)]), (64353, .arg 64353, [])])]
theorem k_omb2n : cbody kR [(zWB, c_mcn)] (cpl1 zWB c_bn0 [q_omc3T]) (cpl2 zWB c_bn0 [q_omc3T]) (cleafB kR zWB c_bn0 w_omb2n) 700 false false q_omb2n.2.2.1 q_omb2n.2.2.2 (cst zWB c_bn0.2.2.1.1 q_omb2n.1) (cst zWB c_bn0.2.2.1.2 q_omb2n.2.1) = true := by decide +kernel
theorem t_omb2n {X : pX} {ρ0 : sR} (hv : vok X ρ0) : CUTOK X kR zWB c_bn0 13 ρ0 q_omb2n := CUTOK_AT (fun ρ k1 hF hI k4 => AT_of (q := q_omb2n) rfl rfl (SEM_runB kR_x kR_0 (Cs := [(zWB, c_mcn)]) (fun C hC => by rw [List.mem_singleton.mp hC]; exact s_mcn) c_bn0_f (Q := w_omb2n) hv 700 (b1 := false) (b2 := false) k_omb2n k1 hF hI k4 (fun p hp ρ3 m1 m2 m3 m4 m5 m6 => by
  rw [List.mem_singleton.mp hp] at m2 m3 m5 m6 ⊢
  have eD : ρ3.1 1308 = ρ.1 1308 := (m4.1 1308 (by decide) (by decide)).1.trans (k4.1 1308 (by decide) (by decide)).1.symm
  obtain ⟨d0, d4⟩ := d_r hF.1
  have hB : ∀ j, ρ3.2.2.2.1 64353 j = ρ.2.2.2.1 64353 j := fun j => by
    have hw := m6 (64353, .arg 64353, []) (List.mem_cons_of_mem _ (List.mem_cons_self)) j
    have hw : Value.long (ρ3.2.2.2.1 64353 j) = Value.long (ρ.2.2.2.1 64353 j) := hw
    exact Value.long.inj hw
  obtain ⟨hAn, hAf⟩ := fiv_w (f := ρ.2.2.2.1 64321) (g := ρ3.2.2.2.1 64321) (m := 60) (d := (ρ.1 1308).toInt) (v0 := 0) (v1 := 0) (v2 := 0) (v3 := 0) (v4 := 0) (fun j => m6 (64321, .arg 64321, [(.int 64, .long 0), (.int 63, .long 0), (.int 62, .long 0), (.int 61, .long 0), (.int 60, .long 0)]) (List.mem_cons_self) j) (amw_60 d0 d4 (i := 0) (by decide)) (amw_60 d0 d4 (i := 1) (by decide)) (amw_60 d0 d4 (i := 2) (by decide)) (amw_60 d0 d4 (i := 3) (by decide)) (amw_60 d0 d4 (i := 4) (by decide))
  have h7 := k157.mp (hF.2 _ (List.mem_cons_of_mem _ (List.mem_cons_of_mem _ (List.mem_cons_of_mem _ (List.mem_cons_of_mem _ (List.mem_cons_self))))))
  have h5 := k155.mp (hF.2 _ (List.mem_cons_of_mem _ (List.mem_cons_of_mem _ (List.mem_cons_of_mem _ (List.mem_cons_of_mem _ (List.mem_cons_of_mem _ (List.mem_cons_self)))))))
  have eB : ρ3.2.2.2.1 64353 = ρ.2.2.2.1 64353 := funext hB
  have ev : ρ.2.1 60033 = ρ.2.2.2.1 64321 60 := of_decide_eq_true (hF.2 _ (List.mem_cons_of_mem _ (List.mem_cons_of_mem _ (List.mem_cons_of_mem _ (List.mem_cons_self)))))
  have hc : (100925505 : Int) = amcode (ρ.2.2.2.1 64321) 60 (ρ.2.1 60033).toInt.toNat := of_decide_eq_true (hF.2 _ (List.mem_cons_of_mem _ (List.mem_cons_of_mem _ (List.mem_cons_self))))
  rw [ev] at hc
  have x7 : sc X ρ3 (157, .add (.elem (.arg 64321) (.int 0)) (.add (.elem (.arg 64353) (.int 0)) (.arg 1308)), .int 3) = true := k157.mpr (by
    rw [eB, eD]
    exact amn_c (K := 2) (m := 60) (by decide) rfl h7 h5 (Or.inr ⟨by rw [← hc]; decide, fun j hj => by
    by_cases hi : 60 ≤ j ∧ j < 60 + 5
    · rw [if_pos hi]; exact hAf j hi.1 hi.2
    · rw [if_neg hi, hAn j hi]⟩))
  have x5 : sc X ρ3 (155, .elem (.arg 64353) (.int 0), .int 0) = true := k155.mpr (by rw [eB]; exact h5)
  have lg60129 : ρ3.2.1 60129 = ρ.2.1 60129 := (m4.1 60129 (by decide) (by decide)).2.trans (k4.1 60129 (by decide) (by decide)).2.symm
  have lg60065 : ρ3.2.1 60065 = ρ.2.1 60065 := (m4.1 60065 (by decide) (by decide)).2.trans (k4.1 60065 (by decide) (by decide)).2.symm
  have lg60097 : ρ3.2.1 60097 = ρ.2.1 60097 := (m4.1 60097 (by decide) (by decide)).2.trans (k4.1 60097 (by decide) (by decide)).2.symm
  have z1 : sc X ρ3 (6, .elem (.arg 64321) (.int 1), .arg 60129) = true := decide_eq_true (show ρ3.2.2.2.1 64321 1 = ρ3.2.1 60129 by
    rw [hAn 1 (by decide), lg60129]
    exact of_decide_eq_true (hF.2 _ (List.mem_cons_of_mem _ (List.mem_cons_of_mem _ (List.mem_cons_of_mem _ (List.mem_cons_of_mem _ (List.mem_cons_of_mem _ (List.mem_cons_of_mem _ (List.mem_cons_self)))))))))
  have z2 : sc X ρ3 (6, .elem (.arg 64353) (.int 114), .arg 60065) = true := decide_eq_true (show ρ3.2.2.2.1 64353 114 = ρ3.2.1 60065 by
    rw [hB, lg60065]
    exact of_decide_eq_true (hF.2 _ (List.mem_cons_of_mem _ (List.mem_cons_of_mem _ (List.mem_cons_of_mem _ (List.mem_cons_of_mem _ (List.mem_cons_of_mem _ (List.mem_cons_of_mem _ (List.mem_cons_of_mem _ (List.mem_cons_self))))))))))
  have z3 : sc X ρ3 (6, .elem (.arg 64353) (.int 123), .arg 60097) = true := decide_eq_true (show ρ3.2.2.2.1 64353 123 = ρ3.2.1 60097 by
    rw [hB, lg60097]
    exact of_decide_eq_true (hF.2 _ (List.mem_cons_of_mem _ (List.mem_cons_of_mem _ (List.mem_cons_of_mem _ (List.mem_cons_of_mem _ (List.mem_cons_of_mem _ (List.mem_cons_of_mem _ (List.mem_cons_of_mem _ (List.mem_cons_of_mem _ (List.mem_cons_self)))))))))))
  exact t_omc3 hv ρ3 m1 ⟨m2.1, fcn (x7) (fcn (x5) (fcn (z1) (fcn (z2) (fcn (z3) (m2.2)))))⟩ m3 m4)))
noncomputable def q_omb2l : sCut := ((fr 0 95 19 [(0, tr 75), (1, .int 50), (2, .int 2), (3, .int 60)] [.arg 60033, .int 60, tr 42], [fr 0 93 70 [(0, tr 75)] [], fr 0 60 30 [(0, tr 39), (1, .int 0)] [], fBot], 11), (fr 0 297 64 [(0, tr 219), (1, .arg 1308)] [], [fr 0 300 36 [(0, tr 219), (1, .arg 1308)] [], fBot], 12), [zf98zzzp_78, zf98zzzp_79, ((139, .add (.elem (.arg 64321) (.int 0)) (.add (.int 60) (.arg 60033)), .int 100925506), true), zf98zzzp_88, zf98zzzp_89, zf98zzzp_17, zf98zzzp_2, zf98zzzp_3, zf98zzzp_4, zf98zzzp_5, ((0, .arg 1702, .int 0), true), ((0, .arg 3360, .int 0), true), ((0, .arg 1350, .int 0), true), ((0, .arg 1826, .int 0), true), zf98zzzp_6, zf98zzzp_14], i_bz)
noncomputable def w_omb2l : List (sCut × List (Nat × sT) × List (Nat × sT × List (sT × sT))) := [(q_omc3T, [], [(64321, .arg 64321, [(.int 64, .long 0), (.int 63, .long 0), (.int 62, .long 0), (.int 61, .long 0), (.int 60, .long 0)]), (64353, .arg 64353, [])])]
theorem k_omb2l : cbody kR [(zWB, c_mcl)] (cpl1 zWB c_bn0 [q_omc3T]) (cpl2 zWB c_bn0 [q_omc3T]) (cleafB kR zWB c_bn0 w_omb2l) 700 false false q_omb2l.2.2.1 q_omb2l.2.2.2 (cst zWB c_bn0.2.2.1.1 q_omb2l.1) (cst zWB c_bn0.2.2.1.2 q_omb2l.2.1) = true := by decide +kernel
theorem t_omb2l {X : pX} {ρ0 : sR} (hv : vok X ρ0) : CUTOK X kR zWB c_bn0 13 ρ0 q_omb2l := CUTOK_AT (fun ρ k1 hF hI k4 => AT_of (q := q_omb2l) rfl rfl (SEM_runB kR_x kR_0 (Cs := [(zWB, c_mcl)]) (fun C hC => by rw [List.mem_singleton.mp hC]; exact s_mcl) c_bn0_f (Q := w_omb2l) hv 700 (b1 := false) (b2 := false) k_omb2l k1 hF hI k4 (fun p hp ρ3 m1 m2 m3 m4 m5 m6 => by
  rw [List.mem_singleton.mp hp] at m2 m3 m5 m6 ⊢
  have eD : ρ3.1 1308 = ρ.1 1308 := (m4.1 1308 (by decide) (by decide)).1.trans (k4.1 1308 (by decide) (by decide)).1.symm
  obtain ⟨d0, d4⟩ := d_r hF.1
  have hB : ∀ j, ρ3.2.2.2.1 64353 j = ρ.2.2.2.1 64353 j := fun j => by
    have hw := m6 (64353, .arg 64353, []) (List.mem_cons_of_mem _ (List.mem_cons_self)) j
    have hw : Value.long (ρ3.2.2.2.1 64353 j) = Value.long (ρ.2.2.2.1 64353 j) := hw
    exact Value.long.inj hw
  obtain ⟨hAn, hAf⟩ := fiv_w (f := ρ.2.2.2.1 64321) (g := ρ3.2.2.2.1 64321) (m := 60) (d := (ρ.1 1308).toInt) (v0 := 0) (v1 := 0) (v2 := 0) (v3 := 0) (v4 := 0) (fun j => m6 (64321, .arg 64321, [(.int 64, .long 0), (.int 63, .long 0), (.int 62, .long 0), (.int 61, .long 0), (.int 60, .long 0)]) (List.mem_cons_self) j) (amw_60 d0 d4 (i := 0) (by decide)) (amw_60 d0 d4 (i := 1) (by decide)) (amw_60 d0 d4 (i := 2) (by decide)) (amw_60 d0 d4 (i := 3) (by decide)) (amw_60 d0 d4 (i := 4) (by decide))
  have h7 := k157.mp (hF.2 _ (List.mem_cons_of_mem _ (List.mem_cons_of_mem _ (List.mem_cons_of_mem _ (List.mem_cons_of_mem _ (List.mem_cons_self))))))
  have h5 := k155.mp (hF.2 _ (List.mem_cons_of_mem _ (List.mem_cons_of_mem _ (List.mem_cons_of_mem _ (List.mem_cons_of_mem _ (List.mem_cons_of_mem _ (List.mem_cons_self)))))))
  have eB : ρ3.2.2.2.1 64353 = ρ.2.2.2.1 64353 := funext hB
  have ev : ρ.2.1 60033 = ρ.2.2.2.1 64321 60 := of_decide_eq_true (hF.2 _ (List.mem_cons_of_mem _ (List.mem_cons_of_mem _ (List.mem_cons_of_mem _ (List.mem_cons_self)))))
  have hc : (100925506 : Int) = amcode (ρ.2.2.2.1 64321) 60 (ρ.2.1 60033).toInt.toNat := of_decide_eq_true (hF.2 _ (List.mem_cons_of_mem _ (List.mem_cons_of_mem _ (List.mem_cons_self))))
  rw [ev] at hc
  have x7 : sc X ρ3 (157, .add (.elem (.arg 64321) (.int 0)) (.add (.elem (.arg 64353) (.int 0)) (.arg 1308)), .int 3) = true := k157.mpr (by
    rw [eB, eD]
    exact amn_c (K := 2) (m := 60) (by decide) rfl h7 h5 (Or.inr ⟨by rw [← hc]; decide, fun j hj => by
    by_cases hi : 60 ≤ j ∧ j < 60 + 5
    · rw [if_pos hi]; exact hAf j hi.1 hi.2
    · rw [if_neg hi, hAn j hi]⟩))
  have x5 : sc X ρ3 (155, .elem (.arg 64353) (.int 0), .int 0) = true := k155.mpr (by rw [eB]; exact h5)
  have lg60129 : ρ3.2.1 60129 = ρ.2.1 60129 := (m4.1 60129 (by decide) (by decide)).2.trans (k4.1 60129 (by decide) (by decide)).2.symm
  have lg60065 : ρ3.2.1 60065 = ρ.2.1 60065 := (m4.1 60065 (by decide) (by decide)).2.trans (k4.1 60065 (by decide) (by decide)).2.symm
  have lg60097 : ρ3.2.1 60097 = ρ.2.1 60097 := (m4.1 60097 (by decide) (by decide)).2.trans (k4.1 60097 (by decide) (by decide)).2.symm
  have z1 : sc X ρ3 (6, .elem (.arg 64321) (.int 1), .arg 60129) = true := decide_eq_true (show ρ3.2.2.2.1 64321 1 = ρ3.2.1 60129 by
    rw [hAn 1 (by decide), lg60129]
    exact of_decide_eq_true (hF.2 _ (List.mem_cons_of_mem _ (List.mem_cons_of_mem _ (List.mem_cons_of_mem _ (List.mem_cons_of_mem _ (List.mem_cons_of_mem _ (List.mem_cons_of_mem _ (List.mem_cons_self)))))))))
  have z2 : sc X ρ3 (6, .elem (.arg 64353) (.int 114), .arg 60065) = true := decide_eq_true (show ρ3.2.2.2.1 64353 114 = ρ3.2.1 60065 by
    rw [hB, lg60065]
    exact of_decide_eq_true (hF.2 _ (List.mem_cons_of_mem _ (List.mem_cons_of_mem _ (List.mem_cons_of_mem _ (List.mem_cons_of_mem _ (List.mem_cons_of_mem _ (List.mem_cons_of_mem _ (List.mem_cons_of_mem _ (List.mem_cons_self))))))))))
  have z3 : sc X ρ3 (6, .elem (.arg 64353) (.int 123), .arg 60097) = true := decide_eq_true (show ρ3.2.2.2.1 64353 123 = ρ3.2.1 60097 by
    rw [hB, lg60097]
    exact of_decide_eq_true (hF.2 _ (List.mem_cons_of_mem _ (List.mem_cons_of_mem _ (List.mem_cons_of_mem _ (List.mem_cons_of_mem _ (List.mem_cons_of_mem _ (List.mem_cons_of_mem _ (List.mem_cons_of_mem _ (List.mem_cons_of_mem _ (List.mem_cons_self)))))))))))
  exact t_omc3 hv ρ3 m1 ⟨m2.1, fcn (x7) (fcn (x5) (fcn (z1) (fcn (z2) (fcn (z3) (m2.2)))))⟩ m3 m4)))
theorem t_omb2 {X : pX} {ρ0 : sR} (hv : vok X ρ0) : CUTOK X kR zWB c_bn0 13 ρ0 q_omb2 := fun ρ k1 hF hI k4 => by
  have h5 := k155.mp (hF.2 _ (List.mem_cons_of_mem _ (List.mem_cons_of_mem _ (List.mem_cons_self))))
  have h7 := (k157.mp (hF.2 _ (List.mem_cons_of_mem _ (List.mem_cons_self))) 60 (by decide)).resolve_left (by decide)
  have eA : (ρ.2.2.2.1 64321 60).toInt = (ρ.2.2.2.1 64353 60).toInt := h7.trans (amn_i (K := 2) (m := 60) (by decide) (by decide) rfl (by decide) (by decide))
  obtain ⟨v0, v4⟩ := ev_m4 (m := 60) (by decide) (h5 60 (by decide))
  rw [← eA] at v0 v4
  have ev : ρ.2.1 60033 = ρ.2.2.2.1 64321 60 := of_decide_eq_true (hF.2 _ (List.mem_cons_self))
  rw [← ev] at v0 v4
  rcases am_3 (g := ρ.2.2.2.1 64321) (m := 60) (n := (ρ.2.1 60033).toInt.toNat) with h | h | h
  · exact t_omb2o hv ρ k1 ⟨hF.1, fcn (dl_lf (x := ρ.2.1 60033) (y := 0) (show (0 : Int) ≤ _ from v0)) (fcn (dl_lf (x := 4) (y := ρ.2.1 60033) (show _ ≤ (4 : Int) from v4)) (fcn (decide_eq_true (show (0 : Int) = amcode (ρ.2.2.2.1 64321) 60 (ρ.2.1 60033).toInt.toNat from h.symm)) (hF.2)))⟩ hI k4
  · exact t_omb2n hv ρ k1 ⟨hF.1, fcn (dl_lf (x := ρ.2.1 60033) (y := 0) (show (0 : Int) ≤ _ from v0)) (fcn (dl_lf (x := 4) (y := ρ.2.1 60033) (show _ ≤ (4 : Int) from v4)) (fcn (decide_eq_true (show (100925505 : Int) = amcode (ρ.2.2.2.1 64321) 60 (ρ.2.1 60033).toInt.toNat from h.symm)) (hF.2)))⟩ hI k4
  · exact t_omb2l hv ρ k1 ⟨hF.1, fcn (dl_lf (x := ρ.2.1 60033) (y := 0) (show (0 : Int) ≤ _ from v0)) (fcn (dl_lf (x := 4) (y := ρ.2.1 60033) (show _ ≤ (4 : Int) from v4)) (fcn (decide_eq_true (show (100925506 : Int) = amcode (ρ.2.2.2.1 64321) 60 (ρ.2.1 60033).toInt.toNat from h.symm)) (hF.2)))⟩ hI k4
noncomputable def q_omc2 : sCut := ((fr 0 95 34 [(0, tr 75), (1, .int 50), (2, .int 1)] [], [fr 0 93 70 [(0, tr 75)] [], fr 0 60 30 [(0, tr 39), (1, .int 0)] [], fBot], 11), (fr 0 297 64 [(0, tr 219), (1, .arg 1308)] [], [fr 0 300 36 [(0, tr 219), (1, .arg 1308)] [], fBot], 12), [zf98zzzp_89, zf98zzzp_17, zf98zzzp_2, zf98zzzp_3, zf98zzzp_4, zf98zzzp_5, ((0, .arg 1702, .int 0), true), ((0, .arg 3360, .int 0), true), ((0, .arg 1350, .int 0), true), ((0, .arg 1826, .int 0), true), zf98zzzp_6, zf98zzzp_14], i_bz)
theorem k_omc2 : cbody kR [] (cpl1 zWB c_bn0 [q_omb2]) (cpl2 zWB c_bn0 [q_omb2]) (cleaf kR zWB c_bn0 [q_omb2]) 60 true false q_omc2.2.2.1 q_omc2.2.2.2 (cst zWB c_bn0.2.2.1.1 q_omc2.1) (cst zWB c_bn0.2.2.1.2 q_omc2.2.1) = true := by decide +kernel
theorem t_omc2 {X : pX} {ρ0 : sR} (hv : vok X ρ0) : CUTOK X kR zWB c_bn0 13 ρ0 q_omc2 := CUT_run kR_x kR_0 (Cs := []) (fun C hC => by cases hC) c_bn0_f (Q := [q_omb2]) hv (fun q hq => by
    simp only [List.mem_cons, List.not_mem_nil, or_false] at hq
    rw [hq]; exact t_omb2 hv) 60 (b1 := true) (b2 := false) k_omc2
noncomputable def zf98zzzp_90 : sQ × Bool := ((6, .arg 60033, .elem (.arg 64321) (.int 55)), true)
noncomputable def zf98zzzp_91 : sQ × Bool := ((157, .add (.elem (.arg 64321) (.int 0)) (.add (.elem (.arg 64353) (.int 0)) (.arg 1308)), .int 1), true)
noncomputable def q_omb1 : sCut := ((fr 0 95 19 [(0, tr 75), (1, .int 50), (2, .int 1), (3, .int 55)] [.arg 60033, .int 55, tr 42], [fr 0 93 70 [(0, tr 75)] [], fr 0 60 30 [(0, tr 39), (1, .int 0)] [], fBot], 11), (fr 0 297 64 [(0, tr 219), (1, .arg 1308)] [], [fr 0 300 36 [(0, tr 219), (1, .arg 1308)] [], fBot], 12), [zf98zzzp_90, zf98zzzp_91, zf98zzzp_17, zf98zzzp_2, zf98zzzp_3, zf98zzzp_4, zf98zzzp_5, ((0, .arg 1702, .int 0), true), ((0, .arg 3360, .int 0), true), ((0, .arg 1350, .int 0), true), ((0, .arg 1826, .int 0), true), zf98zzzp_6, zf98zzzp_14], i_bz)
noncomputable def q_omb1o : sCut := ((fr 0 95 19 [(0, tr 75), (1, .int 50), (2, .int 1), (3, .int 55)] [.arg 60033, .int 55, tr 42], [fr 0 93 70 [(0, tr 75)] [], fr 0 60 30 [(0, tr 39), (1, .int 0)] [], fBot], 11), (fr 0 297 64 [(0, tr 219), (1, .arg 1308)] [], [fr 0 300 36 [(0, tr 219), (1, .arg 1308)] [], fBot], 12), [zf98zzzp_78, zf98zzzp_79, ((139, .add (.elem (.arg 64321) (.int 0)) (.add (.int 55) (.arg 60033)), .int 0), true), zf98zzzp_90, zf98zzzp_91, zf98zzzp_17, zf98zzzp_2, zf98zzzp_3, zf98zzzp_4, zf98zzzp_5, ((0, .arg 1702, .int 0), true), ((0, .arg 3360, .int 0), true), ((0, .arg 1350, .int 0), true), ((0, .arg 1826, .int 0), true), zf98zzzp_6, zf98zzzp_14], i_bz)
noncomputable def w_omb1o : List (sCut × List (Nat × sT) × List (Nat × sT × List (sT × sT))) := [(q_omc2T, [], [(64321, .arg 64321, []), (64353, .arg 64353, [])])]
theorem k_omb1o : cbody kR [(zWB, c_mco)] (cpl1 zWB c_bn0 [q_omc2T]) (cpl2 zWB c_bn0 [q_omc2T]) (cleafB kR zWB c_bn0 w_omb1o) 700 false false q_omb1o.2.2.1 q_omb1o.2.2.2 (cst zWB c_bn0.2.2.1.1 q_omb1o.1) (cst zWB c_bn0.2.2.1.2 q_omb1o.2.1) = true := by decide +kernel
theorem t_omb1o {X : pX} {ρ0 : sR} (hv : vok X ρ0) : CUTOK X kR zWB c_bn0 13 ρ0 q_omb1o := CUTOK_AT (fun ρ k1 hF hI k4 => AT_of (q := q_omb1o) rfl rfl (SEM_runB kR_x kR_0 (Cs := [(zWB, c_mco)]) (fun C hC => by rw [List.mem_singleton.mp hC]; exact s_mco) c_bn0_f (Q := w_omb1o) hv 700 (b1 := false) (b2 := false) k_omb1o k1 hF hI k4 (fun p hp ρ3 m1 m2 m3 m4 m5 m6 => by
  rw [List.mem_singleton.mp hp] at m2 m3 m5 m6 ⊢
  have eD : ρ3.1 1308 = ρ.1 1308 := (m4.1 1308 (by decide) (by decide)).1.trans (k4.1 1308 (by decide) (by decide)).1.symm
  obtain ⟨d0, d4⟩ := d_r hF.1
  have hB : ∀ j, ρ3.2.2.2.1 64353 j = ρ.2.2.2.1 64353 j := fun j => by
    have hw := m6 (64353, .arg 64353, []) (List.mem_cons_of_mem _ (List.mem_cons_self)) j
    have hw : Value.long (ρ3.2.2.2.1 64353 j) = Value.long (ρ.2.2.2.1 64353 j) := hw
    exact Value.long.inj hw
  have hA : ∀ j, ρ3.2.2.2.1 64321 j = ρ.2.2.2.1 64321 j := fun j => by
    have hw := m6 (64321, .arg 64321, []) (List.mem_cons_self) j
    have hw : Value.long (ρ3.2.2.2.1 64321 j) = Value.long (ρ.2.2.2.1 64321 j) := hw
    exact Value.long.inj hw
  have h7 := k157.mp (hF.2 _ (List.mem_cons_of_mem _ (List.mem_cons_of_mem _ (List.mem_cons_of_mem _ (List.mem_cons_of_mem _ (List.mem_cons_self))))))
  have h5 := k155.mp (hF.2 _ (List.mem_cons_of_mem _ (List.mem_cons_of_mem _ (List.mem_cons_of_mem _ (List.mem_cons_of_mem _ (List.mem_cons_of_mem _ (List.mem_cons_self)))))))
  have eB : ρ3.2.2.2.1 64353 = ρ.2.2.2.1 64353 := funext hB
  have ev : ρ.2.1 60033 = ρ.2.2.2.1 64321 55 := of_decide_eq_true (hF.2 _ (List.mem_cons_of_mem _ (List.mem_cons_of_mem _ (List.mem_cons_of_mem _ (List.mem_cons_self)))))
  have hc : (0 : Int) = amcode (ρ.2.2.2.1 64321) 55 (ρ.2.1 60033).toInt.toNat := of_decide_eq_true (hF.2 _ (List.mem_cons_of_mem _ (List.mem_cons_of_mem _ (List.mem_cons_self))))
  rw [ev] at hc
  have x7 : sc X ρ3 (157, .add (.elem (.arg 64321) (.int 0)) (.add (.elem (.arg 64353) (.int 0)) (.arg 1308)), .int 2) = true := k157.mpr (by
    rw [eB, eD]
    exact amn_c (K := 1) (m := 55) (by decide) rfl h7 h5 (Or.inl ⟨hc.symm, fun j _ => hA j⟩))
  have x5 : sc X ρ3 (155, .elem (.arg 64353) (.int 0), .int 0) = true := k155.mpr (by rw [eB]; exact h5)
  have lg60129 : ρ3.2.1 60129 = ρ.2.1 60129 := (m4.1 60129 (by decide) (by decide)).2.trans (k4.1 60129 (by decide) (by decide)).2.symm
  have lg60065 : ρ3.2.1 60065 = ρ.2.1 60065 := (m4.1 60065 (by decide) (by decide)).2.trans (k4.1 60065 (by decide) (by decide)).2.symm
  have lg60097 : ρ3.2.1 60097 = ρ.2.1 60097 := (m4.1 60097 (by decide) (by decide)).2.trans (k4.1 60097 (by decide) (by decide)).2.symm
  have z1 : sc X ρ3 (6, .elem (.arg 64321) (.int 1), .arg 60129) = true := decide_eq_true (show ρ3.2.2.2.1 64321 1 = ρ3.2.1 60129 by
    rw [hA, lg60129]
    exact of_decide_eq_true (hF.2 _ (List.mem_cons_of_mem _ (List.mem_cons_of_mem _ (List.mem_cons_of_mem _ (List.mem_cons_of_mem _ (List.mem_cons_of_mem _ (List.mem_cons_of_mem _ (List.mem_cons_self)))))))))
  have z2 : sc X ρ3 (6, .elem (.arg 64353) (.int 114), .arg 60065) = true := decide_eq_true (show ρ3.2.2.2.1 64353 114 = ρ3.2.1 60065 by
    rw [hB, lg60065]
    exact of_decide_eq_true (hF.2 _ (List.mem_cons_of_mem _ (List.mem_cons_of_mem _ (List.mem_cons_of_mem _ (List.mem_cons_of_mem _ (List.mem_cons_of_mem _ (List.mem_cons_of_mem _ (List.mem_cons_of_mem _ (List.mem_cons_self))))))))))
  have z3 : sc X ρ3 (6, .elem (.arg 64353) (.int 123), .arg 60097) = true := decide_eq_true (show ρ3.2.2.2.1 64353 123 = ρ3.2.1 60097 by
    rw [hB, lg60097]
    exact of_decide_eq_true (hF.2 _ (List.mem_cons_of_mem _ (List.mem_cons_of_mem _ (List.mem_cons_of_mem _ (List.mem_cons_of_mem _ (List.mem_cons_of_mem _ (List.mem_cons_of_mem _ (List.mem_cons_of_mem _ (List.mem_cons_of_mem _ (List.mem_cons_self)))))))))))
  exact t_omc2 hv ρ3 m1 ⟨m2.1, fcn (x7) (fcn (x5) (fcn (z1) (fcn (z2) (fcn (z3) (m2.2)))))⟩ m3 m4)))
noncomputable def q_omb1n : sCut := ((fr 0 95 19 [(0, tr 75), (1, .int 50), (2, .int 1), (3, .int 55)] [.arg 60033, .int 55, tr 42], [fr 0 93 70 [(0, tr 75)] [], fr 0 60 30 [(0, tr 39), (1, .int 0)] [], fBot], 11), (fr 0 297 64 [(0, tr 219), (1, .arg 1308)] [], [fr 0 300 36 [(0, tr 219), (1, .arg 1308)] [], fBot], 12), [zf98zzzp_78, zf98zzzp_79, ((139, .add (.elem (.arg 64321) (.int 0)) (.add (.int 55) (.arg 60033)), .int 100925505), true), zf98zzzp_90, zf98zzzp_91, zf98zzzp_17, zf98zzzp_2, zf98zzzp_3, zf98zzzp_4, zf98zzzp_5, ((0, .arg 1702, .int 0), true), ((0, .arg 3360, .int 0), true), ((0, .arg 1350, .int 0), true), ((0, .arg 1826, .int 0), true), zf98zzzp_6, zf98zzzp_14], i_bz)
noncomputable def w_omb1n : List (sCut × List (Nat × sT) × List (Nat × sT × List (sT × sT))) := [(q_omc2T, [], [(64321, .arg 64321, [(.int 59, .long 0), (.int 58, .long 0), (.int 57, .long 0), (.int 56, .long 0), (.int 55, .long 0)]), (64353, .arg 64353, [])])]
theorem k_omb1n : cbody kR [(zWB, c_mcn)] (cpl1 zWB c_bn0 [q_omc2T]) (cpl2 zWB c_bn0 [q_omc2T]) (cleafB kR zWB c_bn0 w_omb1n) 700 false false q_omb1n.2.2.1 q_omb1n.2.2.2 (cst zWB c_bn0.2.2.1.1 q_omb1n.1) (cst zWB c_bn0.2.2.1.2 q_omb1n.2.1) = true := by decide +kernel
theorem t_omb1n {X : pX} {ρ0 : sR} (hv : vok X ρ0) : CUTOK X kR zWB c_bn0 13 ρ0 q_omb1n := CUTOK_AT (fun ρ k1 hF hI k4 => AT_of (q := q_omb1n) rfl rfl (SEM_runB kR_x kR_0 (Cs := [(zWB, c_mcn)]) (fun C hC => by rw [List.mem_singleton.mp hC]; exact s_mcn) c_bn0_f (Q := w_omb1n) hv 700 (b1 := false) (b2 := false) k_omb1n k1 hF hI k4 (fun p hp ρ3 m1 m2 m3 m4 m5 m6 => by
  rw [List.mem_singleton.mp hp] at m2 m3 m5 m6 ⊢
  have eD : ρ3.1 1308 = ρ.1 1308 := (m4.1 1308 (by decide) (by decide)).1.trans (k4.1 1308 (by decide) (by decide)).1.symm
  obtain ⟨d0, d4⟩ := d_r hF.1
  have hB : ∀ j, ρ3.2.2.2.1 64353 j = ρ.2.2.2.1 64353 j := fun j => by
    have hw := m6 (64353, .arg 64353, []) (List.mem_cons_of_mem _ (List.mem_cons_self)) j
    have hw : Value.long (ρ3.2.2.2.1 64353 j) = Value.long (ρ.2.2.2.1 64353 j) := hw
    exact Value.long.inj hw
  obtain ⟨hAn, hAf⟩ := fiv_w (f := ρ.2.2.2.1 64321) (g := ρ3.2.2.2.1 64321) (m := 55) (d := (ρ.1 1308).toInt) (v0 := 0) (v1 := 0) (v2 := 0) (v3 := 0) (v4 := 0) (fun j => m6 (64321, .arg 64321, [(.int 59, .long 0), (.int 58, .long 0), (.int 57, .long 0), (.int 56, .long 0), (.int 55, .long 0)]) (List.mem_cons_self) j) (amw_55 d0 d4 (i := 0) (by decide)) (amw_55 d0 d4 (i := 1) (by decide)) (amw_55 d0 d4 (i := 2) (by decide)) (amw_55 d0 d4 (i := 3) (by decide)) (amw_55 d0 d4 (i := 4) (by decide))
  have h7 := k157.mp (hF.2 _ (List.mem_cons_of_mem _ (List.mem_cons_of_mem _ (List.mem_cons_of_mem _ (List.mem_cons_of_mem _ (List.mem_cons_self))))))
  have h5 := k155.mp (hF.2 _ (List.mem_cons_of_mem _ (List.mem_cons_of_mem _ (List.mem_cons_of_mem _ (List.mem_cons_of_mem _ (List.mem_cons_of_mem _ (List.mem_cons_self)))))))
  have eB : ρ3.2.2.2.1 64353 = ρ.2.2.2.1 64353 := funext hB
  have ev : ρ.2.1 60033 = ρ.2.2.2.1 64321 55 := of_decide_eq_true (hF.2 _ (List.mem_cons_of_mem _ (List.mem_cons_of_mem _ (List.mem_cons_of_mem _ (List.mem_cons_self)))))
  have hc : (100925505 : Int) = amcode (ρ.2.2.2.1 64321) 55 (ρ.2.1 60033).toInt.toNat := of_decide_eq_true (hF.2 _ (List.mem_cons_of_mem _ (List.mem_cons_of_mem _ (List.mem_cons_self))))
  rw [ev] at hc
  have x7 : sc X ρ3 (157, .add (.elem (.arg 64321) (.int 0)) (.add (.elem (.arg 64353) (.int 0)) (.arg 1308)), .int 2) = true := k157.mpr (by
    rw [eB, eD]
    exact amn_c (K := 1) (m := 55) (by decide) rfl h7 h5 (Or.inr ⟨by rw [← hc]; decide, fun j hj => by
    by_cases hi : 55 ≤ j ∧ j < 55 + 5
    · rw [if_pos hi]; exact hAf j hi.1 hi.2
    · rw [if_neg hi, hAn j hi]⟩))
  have x5 : sc X ρ3 (155, .elem (.arg 64353) (.int 0), .int 0) = true := k155.mpr (by rw [eB]; exact h5)
  have lg60129 : ρ3.2.1 60129 = ρ.2.1 60129 := (m4.1 60129 (by decide) (by decide)).2.trans (k4.1 60129 (by decide) (by decide)).2.symm
  have lg60065 : ρ3.2.1 60065 = ρ.2.1 60065 := (m4.1 60065 (by decide) (by decide)).2.trans (k4.1 60065 (by decide) (by decide)).2.symm
  have lg60097 : ρ3.2.1 60097 = ρ.2.1 60097 := (m4.1 60097 (by decide) (by decide)).2.trans (k4.1 60097 (by decide) (by decide)).2.symm
  have z1 : sc X ρ3 (6, .elem (.arg 64321) (.int 1), .arg 60129) = true := decide_eq_true (show ρ3.2.2.2.1 64321 1 = ρ3.2.1 60129 by
    rw [hAn 1 (by decide), lg60129]
    exact of_decide_eq_true (hF.2 _ (List.mem_cons_of_mem _ (List.mem_cons_of_mem _ (List.mem_cons_of_mem _ (List.mem_cons_of_mem _ (List.mem_cons_of_mem _ (List.mem_cons_of_mem _ (List.mem_cons_self)))))))))
  have z2 : sc X ρ3 (6, .elem (.arg 64353) (.int 114), .arg 60065) = true := decide_eq_true (show ρ3.2.2.2.1 64353 114 = ρ3.2.1 60065 by
    rw [hB, lg60065]
    exact of_decide_eq_true (hF.2 _ (List.mem_cons_of_mem _ (List.mem_cons_of_mem _ (List.mem_cons_of_mem _ (List.mem_cons_of_mem _ (List.mem_cons_of_mem _ (List.mem_cons_of_mem _ (List.mem_cons_of_mem _ (List.mem_cons_self))))))))))
  have z3 : sc X ρ3 (6, .elem (.arg 64353) (.int 123), .arg 60097) = true := decide_eq_true (show ρ3.2.2.2.1 64353 123 = ρ3.2.1 60097 by
    rw [hB, lg60097]
    exact of_decide_eq_true (hF.2 _ (List.mem_cons_of_mem _ (List.mem_cons_of_mem _ (List.mem_cons_of_mem _ (List.mem_cons_of_mem _ (List.mem_cons_of_mem _ (List.mem_cons_of_mem _ (List.mem_cons_of_mem _ (List.mem_cons_of_mem _ (List.mem_cons_self)))))))))))
  exact t_omc2 hv ρ3 m1 ⟨m2.1, fcn (x7) (fcn (x5) (fcn (z1) (fcn (z2) (fcn (z3) (m2.2)))))⟩ m3 m4)))
noncomputable def q_omb1l : sCut := ((fr 0 95 19 [(0, tr 75), (1, .int 50), (2, .int 1), (3, .int 55)] [.arg 60033, .int 55, tr 42], [fr 0 93 70 [(0, tr 75)] [], fr 0 60 30 [(0, tr 39), (1, .int 0)] [], fBot], 11), (fr 0 297 64 [(0, tr 219), (1, .arg 1308)] [], [fr 0 300 36 [(0, tr 219), (1, .arg 1308)] [], fBot], 12), [zf98zzzp_78, zf98zzzp_79, ((139, .add (.elem (.arg 64321) (.int 0)) (.add (.int 55) (.arg 60033)), .int 100925506), true), zf98zzzp_90, zf98zzzp_91, zf98zzzp_17, zf98zzzp_2, zf98zzzp_3, zf98zzzp_4, zf98zzzp_5, ((0, .arg 1702, .int 0), true), ((0, .arg 3360, .int 0), true), ((0, .arg 1350, .int 0), true), ((0, .arg 1826, .int 0), true), zf98zzzp_6, zf98zzzp_14], i_bz)
noncomputable def w_omb1l : List (sCut × List (Nat × sT) × List (Nat × sT × List (sT × sT))) := [(q_omc2T, [], [(64321, .arg 64321, [(.int 59, .long 0), (.int 58, .long 0), (.int 57, .long 0), (.int 56, .long 0), (.int 55, .long 0)]), (64353, .arg 64353, [])])]
theorem k_omb1l : cbody kR [(zWB, c_mcl)] (cpl1 zWB c_bn0 [q_omc2T]) (cpl2 zWB c_bn0 [q_omc2T]) (cleafB kR zWB c_bn0 w_omb1l) 700 false false q_omb1l.2.2.1 q_omb1l.2.2.2 (cst zWB c_bn0.2.2.1.1 q_omb1l.1) (cst zWB c_bn0.2.2.1.2 q_omb1l.2.1) = true := by decide +kernel
theorem t_omb1l {X : pX} {ρ0 : sR} (hv : vok X ρ0) : CUTOK X kR zWB c_bn0 13 ρ0 q_omb1l := CUTOK_AT (fun ρ k1 hF hI k4 => AT_of (q := q_omb1l) rfl rfl (SEM_runB kR_x kR_0 (Cs := [(zWB, c_mcl)]) (fun C hC => by rw [List.mem_singleton.mp hC]; exact s_mcl) c_bn0_f (Q := w_omb1l) hv 700 (b1 := false) (b2 := false) k_omb1l k1 hF hI k4 (fun p hp ρ3 m1 m2 m3 m4 m5 m6 => by
  rw [List.mem_singleton.mp hp] at m2 m3 m5 m6 ⊢
  have eD : ρ3.1 1308 = ρ.1 1308 := (m4.1 1308 (by decide) (by decide)).1.trans (k4.1 1308 (by decide) (by decide)).1.symm
  obtain ⟨d0, d4⟩ := d_r hF.1
  have hB : ∀ j, ρ3.2.2.2.1 64353 j = ρ.2.2.2.1 64353 j := fun j => by
    have hw := m6 (64353, .arg 64353, []) (List.mem_cons_of_mem _ (List.mem_cons_self)) j
    have hw : Value.long (ρ3.2.2.2.1 64353 j) = Value.long (ρ.2.2.2.1 64353 j) := hw
    exact Value.long.inj hw
  obtain ⟨hAn, hAf⟩ := fiv_w (f := ρ.2.2.2.1 64321) (g := ρ3.2.2.2.1 64321) (m := 55) (d := (ρ.1 1308).toInt) (v0 := 0) (v1 := 0) (v2 := 0) (v3 := 0) (v4 := 0) (fun j => m6 (64321, .arg 64321, [(.int 59, .long 0), (.int 58, .long 0), (.int 57, .long 0), (.int 56, .long 0), (.int 55, .long 0)]) (List.mem_cons_self) j) (amw_55 d0 d4 (i := 0) (by decide)) (amw_55 d0 d4 (i := 1) (by decide)) (amw_55 d0 d4 (i := 2) (by decide)) (amw_55 d0 d4 (i := 3) (by decide)) (amw_55 d0 d4 (i := 4) (by decide))
  have h7 := k157.mp (hF.2 _ (List.mem_cons_of_mem _ (List.mem_cons_of_mem _ (List.mem_cons_of_mem _ (List.mem_cons_of_mem _ (List.mem_cons_self))))))
  have h5 := k155.mp (hF.2 _ (List.mem_cons_of_mem _ (List.mem_cons_of_mem _ (List.mem_cons_of_mem _ (List.mem_cons_of_mem _ (List.mem_cons_of_mem _ (List.mem_cons_self)))))))
  have eB : ρ3.2.2.2.1 64353 = ρ.2.2.2.1 64353 := funext hB
  have ev : ρ.2.1 60033 = ρ.2.2.2.1 64321 55 := of_decide_eq_true (hF.2 _ (List.mem_cons_of_mem _ (List.mem_cons_of_mem _ (List.mem_cons_of_mem _ (List.mem_cons_self)))))
  have hc : (100925506 : Int) = amcode (ρ.2.2.2.1 64321) 55 (ρ.2.1 60033).toInt.toNat := of_decide_eq_true (hF.2 _ (List.mem_cons_of_mem _ (List.mem_cons_of_mem _ (List.mem_cons_self))))
  rw [ev] at hc
  have x7 : sc X ρ3 (157, .add (.elem (.arg 64321) (.int 0)) (.add (.elem (.arg 64353) (.int 0)) (.arg 1308)), .int 2) = true := k157.mpr (by
    rw [eB, eD]
    exact amn_c (K := 1) (m := 55) (by decide) rfl h7 h5 (Or.inr ⟨by rw [← hc]; decide, fun j hj => by
    by_cases hi : 55 ≤ j ∧ j < 55 + 5
    · rw [if_pos hi]; exact hAf j hi.1 hi.2
    · rw [if_neg hi, hAn j hi]⟩))
  have x5 : sc X ρ3 (155, .elem (.arg 64353) (.int 0), .int 0) = true := k155.mpr (by rw [eB]; exact h5)
  have lg60129 : ρ3.2.1 60129 = ρ.2.1 60129 := (m4.1 60129 (by decide) (by decide)).2.trans (k4.1 60129 (by decide) (by decide)).2.symm
  have lg60065 : ρ3.2.1 60065 = ρ.2.1 60065 := (m4.1 60065 (by decide) (by decide)).2.trans (k4.1 60065 (by decide) (by decide)).2.symm
  have lg60097 : ρ3.2.1 60097 = ρ.2.1 60097 := (m4.1 60097 (by decide) (by decide)).2.trans (k4.1 60097 (by decide) (by decide)).2.symm
  have z1 : sc X ρ3 (6, .elem (.arg 64321) (.int 1), .arg 60129) = true := decide_eq_true (show ρ3.2.2.2.1 64321 1 = ρ3.2.1 60129 by
    rw [hAn 1 (by decide), lg60129]
    exact of_decide_eq_true (hF.2 _ (List.mem_cons_of_mem _ (List.mem_cons_of_mem _ (List.mem_cons_of_mem _ (List.mem_cons_of_mem _ (List.mem_cons_of_mem _ (List.mem_cons_of_mem _ (List.mem_cons_self)))))))))
  have z2 : sc X ρ3 (6, .elem (.arg 64353) (.int 114), .arg 60065) = true := decide_eq_true (show ρ3.2.2.2.1 64353 114 = ρ3.2.1 60065 by
    rw [hB, lg60065]
    exact of_decide_eq_true (hF.2 _ (List.mem_cons_of_mem _ (List.mem_cons_of_mem _ (List.mem_cons_of_mem _ (List.mem_cons_of_mem _ (List.mem_cons_of_mem _ (List.mem_cons_of_mem _ (List.mem_cons_of_mem _ (List.mem_cons_self))))))))))
  have z3 : sc X ρ3 (6, .elem (.arg 64353) (.int 123), .arg 60097) = true := decide_eq_true (show ρ3.2.2.2.1 64353 123 = ρ3.2.1 60097 by
    rw [hB, lg60097]
    exact of_decide_eq_true (hF.2 _ (List.mem_cons_of_mem _ (List.mem_cons_of_mem _ (List.mem_cons_of_mem _ (List.mem_cons_of_mem _ (List.mem_cons_of_mem _ (List.mem_cons_of_mem _ (List.mem_cons_of_mem _ (List.mem_cons_of_mem _ (List.mem_cons_self)))))))))))
  exact t_omc2 hv ρ3 m1 ⟨m2.1, fcn (x7) (fcn (x5) (fcn (z1) (fcn (z2) (fcn (z3) (m2.2)))))⟩ m3 m4)))
theorem t_omb1 {X : pX} {ρ0 : sR} (hv : vok X ρ0) : CUTOK X kR zWB c_bn0 13 ρ0 q_omb1 := fun ρ k1 hF hI k4 => by
  have h5 := k155.mp (hF.2 _ (List.mem_cons_of_mem _ (List.mem_cons_of_mem _ (List.mem_cons_self))))
  have h7 := (k157.mp (hF.2 _ (List.mem_cons_of_mem _ (List.mem_cons_self))) 55 (by decide)).resolve_left (by decide)
  have eA : (ρ.2.2.2.1 64321 55).toInt = (ρ.2.2.2.1 64353 55).toInt := h7.trans (amn_i (K := 1) (m := 55) (by decide) (by decide) rfl (by decide) (by decide))
  obtain ⟨v0, v4⟩ := ev_m4 (m := 55) (by decide) (h5 55 (by decide))
  rw [← eA] at v0 v4
  have ev : ρ.2.1 60033 = ρ.2.2.2.1 64321 55 := of_decide_eq_true (hF.2 _ (List.mem_cons_self))
  rw [← ev] at v0 v4
  rcases am_3 (g := ρ.2.2.2.1 64321) (m := 55) (n := (ρ.2.1 60033).toInt.toNat) with h | h | h
  · exact t_omb1o hv ρ k1 ⟨hF.1, fcn (dl_lf (x := ρ.2.1 60033) (y := 0) (show (0 : Int) ≤ _ from v0)) (fcn (dl_lf (x := 4) (y := ρ.2.1 60033) (show _ ≤ (4 : Int) from v4)) (fcn (decide_eq_true (show (0 : Int) = amcode (ρ.2.2.2.1 64321) 55 (ρ.2.1 60033).toInt.toNat from h.symm)) (hF.2)))⟩ hI k4
  · exact t_omb1n hv ρ k1 ⟨hF.1, fcn (dl_lf (x := ρ.2.1 60033) (y := 0) (show (0 : Int) ≤ _ from v0)) (fcn (dl_lf (x := 4) (y := ρ.2.1 60033) (show _ ≤ (4 : Int) from v4)) (fcn (decide_eq_true (show (100925505 : Int) = amcode (ρ.2.2.2.1 64321) 55 (ρ.2.1 60033).toInt.toNat from h.symm)) (hF.2)))⟩ hI k4
  · exact t_omb1l hv ρ k1 ⟨hF.1, fcn (dl_lf (x := ρ.2.1 60033) (y := 0) (show (0 : Int) ≤ _ from v0)) (fcn (dl_lf (x := 4) (y := ρ.2.1 60033) (show _ ≤ (4 : Int) from v4)) (fcn (decide_eq_true (show (100925506 : Int) = amcode (ρ.2.2.2.1 64321) 55 (ρ.2.1 60033).toInt.toNat from h.symm)) (hF.2)))⟩ hI k4
noncomputable def q_omc1 : sCut := ((fr 0 95 34 [(0, tr 75), (1, .int 50), (2, .int 0)] [], [fr 0 93 70 [(0, tr 75)] [], fr 0 60 30 [(0, tr 39), (1, .int 0)] [], fBot], 11), (fr 0 297 64 [(0, tr 219), (1, .arg 1308)] [], [fr 0 300 36 [(0, tr 219), (1, .arg 1308)] [], fBot], 12), [zf98zzzp_91, zf98zzzp_17, zf98zzzp_2, zf98zzzp_3, zf98zzzp_4, zf98zzzp_5, ((0, .arg 1702, .int 0), true), ((0, .arg 3360, .int 0), true), ((0, .arg 1350, .int 0), true), ((0, .arg 1826, .int 0), true), zf98zzzp_6, zf98zzzp_14], i_bz)
theorem k_omc1 : cbody kR [] (cpl1 zWB c_bn0 [q_omb1]) (cpl2 zWB c_bn0 [q_omb1]) (cleaf kR zWB c_bn0 [q_omb1]) 60 true false q_omc1.2.2.1 q_omc1.2.2.2 (cst zWB c_bn0.2.2.1.1 q_omc1.1) (cst zWB c_bn0.2.2.1.2 q_omc1.2.1) = true := by decide +kernel
theorem t_omc1 {X : pX} {ρ0 : sR} (hv : vok X ρ0) : CUTOK X kR zWB c_bn0 13 ρ0 q_omc1 := CUT_run kR_x kR_0 (Cs := []) (fun C hC => by cases hC) c_bn0_f (Q := [q_omb1]) hv (fun q hq => by
    simp only [List.mem_cons, List.not_mem_nil, or_false] at hq
    rw [hq]; exact t_omb1 hv) 60 (b1 := true) (b2 := false) k_omc1
noncomputable def zf98zzzp_92 : sQ × Bool := ((6, .arg 60033, .elem (.arg 64321) (.int 50)), true)
noncomputable def zf98zzzp_93 : sQ × Bool := ((157, .add (.elem (.arg 64321) (.int 0)) (.add (.elem (.arg 64353) (.int 0)) (.arg 1308)), .int 0), true)
noncomputable def q_omb0 : sCut := ((fr 0 95 19 [(0, tr 75), (1, .int 50), (2, .int 0), (3, .int 50)] [.arg 60033, .int 50, tr 42], [fr 0 93 70 [(0, tr 75)] [], fr 0 60 30 [(0, tr 39), (1, .int 0)] [], fBot], 11), (fr 0 297 64 [(0, tr 219), (1, .arg 1308)] [], [fr 0 300 36 [(0, tr 219), (1, .arg 1308)] [], fBot], 12), [zf98zzzp_92, zf98zzzp_93, zf98zzzp_17, zf98zzzp_2, zf98zzzp_3, zf98zzzp_4, zf98zzzp_5, ((0, .arg 1702, .int 0), true), ((0, .arg 3360, .int 0), true), ((0, .arg 1350, .int 0), true), ((0, .arg 1826, .int 0), true), zf98zzzp_6, zf98zzzp_14], i_bz)
noncomputable def q_omb0o : sCut := ((fr 0 95 19 [(0, tr 75), (1, .int 50), (2, .int 0), (3, .int 50)] [.arg 60033, .int 50, tr 42], [fr 0 93 70 [(0, tr 75)] [], fr 0 60 30 [(0, tr 39), (1, .int 0)] [], fBot], 11), (fr 0 297 64 [(0, tr 219), (1, .arg 1308)] [], [fr 0 300 36 [(0, tr 219), (1, .arg 1308)] [], fBot], 12), [zf98zzzp_78, zf98zzzp_79, ((139, .add (.elem (.arg 64321) (.int 0)) (.add (.int 50) (.arg 60033)), .int 0), true), zf98zzzp_92, zf98zzzp_93, zf98zzzp_17, zf98zzzp_2, zf98zzzp_3, zf98zzzp_4, zf98zzzp_5, ((0, .arg 1702, .int 0), true), ((0, .arg 3360, .int 0), true), ((0, .arg 1350, .int 0), true), ((0, .arg 1826, .int 0), true), zf98zzzp_6, zf98zzzp_14], i_bz)
noncomputable def w_omb0o : List (sCut × List (Nat × sT) × List (Nat × sT × List (sT × sT))) := [(q_omc1T, [], [(64321, .arg 64321, []), (64353, .arg 64353, [])])]
theorem k_omb0o : cbody kR [(zWB, c_mco)] (cpl1 zWB c_bn0 [q_omc1T]) (cpl2 zWB c_bn0 [q_omc1T]) (cleafB kR zWB c_bn0 w_omb0o) 700 false false q_omb0o.2.2.1 q_omb0o.2.2.2 (cst zWB c_bn0.2.2.1.1 q_omb0o.1) (cst zWB c_bn0.2.2.1.2 q_omb0o.2.1) = true := by decide +kernel
theorem t_omb0o {X : pX} {ρ0 : sR} (hv : vok X ρ0) : CUTOK X kR zWB c_bn0 13 ρ0 q_omb0o := CUTOK_AT (fun ρ k1 hF hI k4 => AT_of (q := q_omb0o) rfl rfl (SEM_runB kR_x kR_0 (Cs := [(zWB, c_mco)]) (fun C hC => by rw [List.mem_singleton.mp hC]; exact s_mco) c_bn0_f (Q := w_omb0o) hv 700 (b1 := false) (b2 := false) k_omb0o k1 hF hI k4 (fun p hp ρ3 m1 m2 m3 m4 m5 m6 => by
  rw [List.mem_singleton.mp hp] at m2 m3 m5 m6 ⊢
  have eD : ρ3.1 1308 = ρ.1 1308 := (m4.1 1308 (by decide) (by decide)).1.trans (k4.1 1308 (by decide) (by decide)).1.symm
  obtain ⟨d0, d4⟩ := d_r hF.1
  have hB : ∀ j, ρ3.2.2.2.1 64353 j = ρ.2.2.2.1 64353 j := fun j => by
    have hw := m6 (64353, .arg 64353, []) (List.mem_cons_of_mem _ (List.mem_cons_self)) j
    have hw : Value.long (ρ3.2.2.2.1 64353 j) = Value.long (ρ.2.2.2.1 64353 j) := hw
    exact Value.long.inj hw
  have hA : ∀ j, ρ3.2.2.2.1 64321 j = ρ.2.2.2.1 64321 j := fun j => by
    have hw := m6 (64321, .arg 64321, []) (List.mem_cons_self) j
    have hw : Value.long (ρ3.2.2.2.1 64321 j) = Value.long (ρ.2.2.2.1 64321 j) := hw
    exact Value.long.inj hw
  have h7 := k157.mp (hF.2 _ (List.mem_cons_of_mem _ (List.mem_cons_of_mem _ (List.mem_cons_of_mem _ (List.mem_cons_of_mem _ (List.mem_cons_self))))))
  have h5 := k155.mp (hF.2 _ (List.mem_cons_of_mem _ (List.mem_cons_of_mem _ (List.mem_cons_of_mem _ (List.mem_cons_of_mem _ (List.mem_cons_of_mem _ (List.mem_cons_self)))))))
  have eB : ρ3.2.2.2.1 64353 = ρ.2.2.2.1 64353 := funext hB
  have ev : ρ.2.1 60033 = ρ.2.2.2.1 64321 50 := of_decide_eq_true (hF.2 _ (List.mem_cons_of_mem _ (List.mem_cons_of_mem _ (List.mem_cons_of_mem _ (List.mem_cons_self)))))
  have hc : (0 : Int) = amcode (ρ.2.2.2.1 64321) 50 (ρ.2.1 60033).toInt.toNat := of_decide_eq_true (hF.2 _ (List.mem_cons_of_mem _ (List.mem_cons_of_mem _ (List.mem_cons_self))))
  rw [ev] at hc
  have x7 : sc X ρ3 (157, .add (.elem (.arg 64321) (.int 0)) (.add (.elem (.arg 64353) (.int 0)) (.arg 1308)), .int 1) = true := k157.mpr (by
    rw [eB, eD]
    exact amn_c (K := 0) (m := 50) (by decide) rfl h7 h5 (Or.inl ⟨hc.symm, fun j _ => hA j⟩))
  have x5 : sc X ρ3 (155, .elem (.arg 64353) (.int 0), .int 0) = true := k155.mpr (by rw [eB]; exact h5)
  have lg60129 : ρ3.2.1 60129 = ρ.2.1 60129 := (m4.1 60129 (by decide) (by decide)).2.trans (k4.1 60129 (by decide) (by decide)).2.symm
  have lg60065 : ρ3.2.1 60065 = ρ.2.1 60065 := (m4.1 60065 (by decide) (by decide)).2.trans (k4.1 60065 (by decide) (by decide)).2.symm
  have lg60097 : ρ3.2.1 60097 = ρ.2.1 60097 := (m4.1 60097 (by decide) (by decide)).2.trans (k4.1 60097 (by decide) (by decide)).2.symm
  have z1 : sc X ρ3 (6, .elem (.arg 64321) (.int 1), .arg 60129) = true := decide_eq_true (show ρ3.2.2.2.1 64321 1 = ρ3.2.1 60129 by
    rw [hA, lg60129]
    exact of_decide_eq_true (hF.2 _ (List.mem_cons_of_mem _ (List.mem_cons_of_mem _ (List.mem_cons_of_mem _ (List.mem_cons_of_mem _ (List.mem_cons_of_mem _ (List.mem_cons_of_mem _ (List.mem_cons_self)))))))))
  have z2 : sc X ρ3 (6, .elem (.arg 64353) (.int 114), .arg 60065) = true := decide_eq_true (show ρ3.2.2.2.1 64353 114 = ρ3.2.1 60065 by
    rw [hB, lg60065]
    exact of_decide_eq_true (hF.2 _ (List.mem_cons_of_mem _ (List.mem_cons_of_mem _ (List.mem_cons_of_mem _ (List.mem_cons_of_mem _ (List.mem_cons_of_mem _ (List.mem_cons_of_mem _ (List.mem_cons_of_mem _ (List.mem_cons_self))))))))))
  have z3 : sc X ρ3 (6, .elem (.arg 64353) (.int 123), .arg 60097) = true := decide_eq_true (show ρ3.2.2.2.1 64353 123 = ρ3.2.1 60097 by
    rw [hB, lg60097]
    exact of_decide_eq_true (hF.2 _ (List.mem_cons_of_mem _ (List.mem_cons_of_mem _ (List.mem_cons_of_mem _ (List.mem_cons_of_mem _ (List.mem_cons_of_mem _ (List.mem_cons_of_mem _ (List.mem_cons_of_mem _ (List.mem_cons_of_mem _ (List.mem_cons_self)))))))))))
  exact t_omc1 hv ρ3 m1 ⟨m2.1, fcn (x7) (fcn (x5) (fcn (z1) (fcn (z2) (fcn (z3) (m2.2)))))⟩ m3 m4)))
noncomputable def q_omb0n : sCut := ((fr 0 95 19 [(0, tr 75), (1, .int 50), (2, .int 0), (3, .int 50)] [.arg 60033, .int 50, tr 42], [fr 0 93 70 [(0, tr 75)] [], fr 0 60 30 [(0, tr 39), (1, .int 0)] [], fBot], 11), (fr 0 297 64 [(0, tr 219), (1, .arg 1308)] [], [fr 0 300 36 [(0, tr 219), (1, .arg 1308)] [], fBot], 12), [zf98zzzp_78, zf98zzzp_79, ((139, .add (.elem (.arg 64321) (.int 0)) (.add (.int 50) (.arg 60033)), .int 100925505), true), zf98zzzp_92, zf98zzzp_93, zf98zzzp_17, zf98zzzp_2, zf98zzzp_3, zf98zzzp_4, zf98zzzp_5, ((0, .arg 1702, .int 0), true), ((0, .arg 3360, .int 0), true), ((0, .arg 1350, .int 0), true), ((0, .arg 1826, .int 0), true), zf98zzzp_6, zf98zzzp_14], i_bz)
noncomputable def w_omb0n : List (sCut × List (Nat × sT) × List (Nat × sT × List (sT × sT))) := [(q_omc1T, [], [(64321, .arg 64321, [(.int 54, .long 0), (.int 53, .long 0), (.int 52, .long 0), (.int 51, .long 1614807056), (.int 50, .long 1)]), (64353, .arg 64353, [])])]
theorem k_omb0n : cbody kR [(zWB, c_mcn)] (cpl1 zWB c_bn0 [q_omc1T]) (cpl2 zWB c_bn0 [q_omc1T]) (cleafB kR zWB c_bn0 w_omb0n) 700 false false q_omb0n.2.2.1 q_omb0n.2.2.2 (cst zWB c_bn0.2.2.1.1 q_omb0n.1) (cst zWB c_bn0.2.2.1.2 q_omb0n.2.1) = true := by decide +kernel
theorem t_omb0n {X : pX} {ρ0 : sR} (hv : vok X ρ0) : CUTOK X kR zWB c_bn0 13 ρ0 q_omb0n := CUTOK_AT (fun ρ k1 hF hI k4 => AT_of (q := q_omb0n) rfl rfl (SEM_runB kR_x kR_0 (Cs := [(zWB, c_mcn)]) (fun C hC => by rw [List.mem_singleton.mp hC]; exact s_mcn) c_bn0_f (Q := w_omb0n) hv 700 (b1 := false) (b2 := false) k_omb0n k1 hF hI k4 (fun p hp ρ3 m1 m2 m3 m4 m5 m6 => by
  rw [List.mem_singleton.mp hp] at m2 m3 m5 m6 ⊢
  have eD : ρ3.1 1308 = ρ.1 1308 := (m4.1 1308 (by decide) (by decide)).1.trans (k4.1 1308 (by decide) (by decide)).1.symm
  obtain ⟨d0, d4⟩ := d_r hF.1
  have hB : ∀ j, ρ3.2.2.2.1 64353 j = ρ.2.2.2.1 64353 j := fun j => by
    have hw := m6 (64353, .arg 64353, []) (List.mem_cons_of_mem _ (List.mem_cons_self)) j
    have hw : Value.long (ρ3.2.2.2.1 64353 j) = Value.long (ρ.2.2.2.1 64353 j) := hw
    exact Value.long.inj hw
  obtain ⟨hAn, hAf⟩ := fiv_w (f := ρ.2.2.2.1 64321) (g := ρ3.2.2.2.1 64321) (m := 50) (d := (ρ.1 1308).toInt) (v0 := 1) (v1 := 1614807056) (v2 := 0) (v3 := 0) (v4 := 0) (fun j => m6 (64321, .arg 64321, [(.int 54, .long 0), (.int 53, .long 0), (.int 52, .long 0), (.int 51, .long 1614807056), (.int 50, .long 1)]) (List.mem_cons_self) j) (amw_50 d0 d4 (i := 0) (by decide)) (amw_50 d0 d4 (i := 1) (by decide)) (amw_50 d0 d4 (i := 2) (by decide)) (amw_50 d0 d4 (i := 3) (by decide)) (amw_50 d0 d4 (i := 4) (by decide))
  have h7 := k157.mp (hF.2 _ (List.mem_cons_of_mem _ (List.mem_cons_of_mem _ (List.mem_cons_of_mem _ (List.mem_cons_of_mem _ (List.mem_cons_self))))))
  have h5 := k155.mp (hF.2 _ (List.mem_cons_of_mem _ (List.mem_cons_of_mem _ (List.mem_cons_of_mem _ (List.mem_cons_of_mem _ (List.mem_cons_of_mem _ (List.mem_cons_self)))))))
  have eB : ρ3.2.2.2.1 64353 = ρ.2.2.2.1 64353 := funext hB
  have ev : ρ.2.1 60033 = ρ.2.2.2.1 64321 50 := of_decide_eq_true (hF.2 _ (List.mem_cons_of_mem _ (List.mem_cons_of_mem _ (List.mem_cons_of_mem _ (List.mem_cons_self)))))
  have hc : (100925505 : Int) = amcode (ρ.2.2.2.1 64321) 50 (ρ.2.1 60033).toInt.toNat := of_decide_eq_true (hF.2 _ (List.mem_cons_of_mem _ (List.mem_cons_of_mem _ (List.mem_cons_self))))
  rw [ev] at hc
  have x7 : sc X ρ3 (157, .add (.elem (.arg 64321) (.int 0)) (.add (.elem (.arg 64353) (.int 0)) (.arg 1308)), .int 1) = true := k157.mpr (by
    rw [eB, eD]
    exact amn_c (K := 0) (m := 50) (by decide) rfl h7 h5 (Or.inr ⟨by rw [← hc]; decide, fun j hj => by
    by_cases hi : 50 ≤ j ∧ j < 50 + 5
    · rw [if_pos hi]; exact hAf j hi.1 hi.2
    · rw [if_neg hi, hAn j hi]⟩))
  have x5 : sc X ρ3 (155, .elem (.arg 64353) (.int 0), .int 0) = true := k155.mpr (by rw [eB]; exact h5)
  have lg60129 : ρ3.2.1 60129 = ρ.2.1 60129 := (m4.1 60129 (by decide) (by decide)).2.trans (k4.1 60129 (by decide) (by decide)).2.symm
  have lg60065 : ρ3.2.1 60065 = ρ.2.1 60065 := (m4.1 60065 (by decide) (by decide)).2.trans (k4.1 60065 (by decide) (by decide)).2.symm
  have lg60097 : ρ3.2.1 60097 = ρ.2.1 60097 := (m4.1 60097 (by decide) (by decide)).2.trans (k4.1 60097 (by decide) (by decide)).2.symm
  have z1 : sc X ρ3 (6, .elem (.arg 64321) (.int 1), .arg 60129) = true := decide_eq_true (show ρ3.2.2.2.1 64321 1 = ρ3.2.1 60129 by
    rw [hAn 1 (by decide), lg60129]
    exact of_decide_eq_true (hF.2 _ (List.mem_cons_of_mem _ (List.mem_cons_of_mem _ (List.mem_cons_of_mem _ (List.mem_cons_of_mem _ (List.mem_cons_of_mem _ (List.mem_cons_of_mem _ (List.mem_cons_self)))))))))
  have z2 : sc X ρ3 (6, .elem (.arg 64353) (.int 114), .arg 60065) = true := decide_eq_true (show ρ3.2.2.2.1 64353 114 = ρ3.2.1 60065 by
    rw [hB, lg60065]
    exact of_decide_eq_true (hF.2 _ (List.mem_cons_of_mem _ (List.mem_cons_of_mem _ (List.mem_cons_of_mem _ (List.mem_cons_of_mem _ (List.mem_cons_of_mem _ (List.mem_cons_of_mem _ (List.mem_cons_of_mem _ (List.mem_cons_self))))))))))
  have z3 : sc X ρ3 (6, .elem (.arg 64353) (.int 123), .arg 60097) = true := decide_eq_true (show ρ3.2.2.2.1 64353 123 = ρ3.2.1 60097 by
    rw [hB, lg60097]
    exact of_decide_eq_true (hF.2 _ (List.mem_cons_of_mem _ (List.mem_cons_of_mem _ (List.mem_cons_of_mem _ (List.mem_cons_of_mem _ (List.mem_cons_of_mem _ (List.mem_cons_of_mem _ (List.mem_cons_of_mem _ (List.mem_cons_of_mem _ (List.mem_cons_self)))))))))))
  exact t_omc1 hv ρ3 m1 ⟨m2.1, fcn (x7) (fcn (x5) (fcn (z1) (fcn (z2) (fcn (z3) (m2.2)))))⟩ m3 m4)))
noncomputable def q_omb0l : sCut := ((fr 0 95 19 [(0, tr 75), (1, .int 50), (2, .int 0), (3, .int 50)] [.arg 60033, .int 50, tr 42], [fr 0 93 70 [(0, tr 75)] [], fr 0 60 30 [(0, tr 39), (1, .int 0)] [], fBot], 11), (fr 0 297 64 [(0, tr 219), (1, .arg 1308)] [], [fr 0 300 36 [(0, tr 219), (1, .arg 1308)] [], fBot], 12), [zf98zzzp_78, zf98zzzp_79, ((139, .add (.elem (.arg 64321) (.int 0)) (.add (.int 50) (.arg 60033)), .int 100925506), true), zf98zzzp_92, zf98zzzp_93, zf98zzzp_17, zf98zzzp_2, zf98zzzp_3, zf98zzzp_4, zf98zzzp_5, ((0, .arg 1702, .int 0), true), ((0, .arg 3360, .int 0), true), ((0, .arg 1350, .int 0), true), ((0, .arg 1826, .int 0), true), zf98zzzp_6, zf98zzzp_14], i_bz)
noncomputable def w_omb0l : List (sCut × List (Nat × sT) × List (Nat × sT × List (sT × sT))) := [(q_omc1T, [], [(64321, .arg 64321, [(.int 54, .long 0), (.int 53, .long 0), (.int 52, .long 0), (.int 51, .long 1614807056), (.int 50, .long 1)]), (64353, .arg 64353, [])])]
theorem k_omb0l : cbody kR [(zWB, c_mcl)] (cpl1 zWB c_bn0 [q_omc1T]) (cpl2 zWB c_bn0 [q_omc1T]) (cleafB kR zWB c_bn0 w_omb0l) 700 false false q_omb0l.2.2.1 q_omb0l.2.2.2 (cst zWB c_bn0.2.2.1.1 q_omb0l.1) (cst zWB c_bn0.2.2.1.2 q_omb0l.2.1) = true := by decide +kernel
theorem t_omb0l {X : pX} {ρ0 : sR} (hv : vok X ρ0) : CUTOK X kR zWB c_bn0 13 ρ0 q_omb0l := CUTOK_AT (fun ρ k1 hF hI k4 => AT_of (q := q_omb0l) rfl rfl (SEM_runB kR_x kR_0 (Cs := [(zWB, c_mcl)]) (fun C hC => by rw [List.mem_singleton.mp hC]; exact s_mcl) c_bn0_f (Q := w_omb0l) hv 700 (b1 := false) (b2 := false) k_omb0l k1 hF hI k4 (fun p hp ρ3 m1 m2 m3 m4 m5 m6 => by
  rw [List.mem_singleton.mp hp] at m2 m3 m5 m6 ⊢
  have eD : ρ3.1 1308 = ρ.1 1308 := (m4.1 1308 (by decide) (by decide)).1.trans (k4.1 1308 (by decide) (by decide)).1.symm
  obtain ⟨d0, d4⟩ := d_r hF.1
  have hB : ∀ j, ρ3.2.2.2.1 64353 j = ρ.2.2.2.1 64353 j := fun j => by
    have hw := m6 (64353, .arg 64353, []) (List.mem_cons_of_mem _ (List.mem_cons_self)) j
    have hw : Value.long (ρ3.2.2.2.1 64353 j) = Value.long (ρ.2.2.2.1 64353 j) := hw
    exact Value.long.inj hw
  obtain ⟨hAn, hAf⟩ := fiv_w (f := ρ.2.2.2.1 64321) (g := ρ3.2.2.2.1 64321) (m := 50) (d := (ρ.1 1308).toInt) (v0 := 1) (v1 := 1614807056) (v2 := 0) (v3 := 0) (v4 := 0) (fun j => m6 (64321, .arg 64321, [(.int 54, .long 0), (.int 53, .long 0), (.int 52, .long 0), (.int 51, .long 1614807056), (.int 50, .long 1)]) (List.mem_cons_self) j) (amw_50 d0 d4 (i := 0) (by decide)) (amw_50 d0 d4 (i := 1) (by decide)) (amw_50 d0 d4 (i := 2) (by decide)) (amw_50 d0 d4 (i := 3) (by decide)) (amw_50 d0 d4 (i := 4) (by decide))
  have h7 := k157.mp (hF.2 _ (List.mem_cons_of_mem _ (List.mem_cons_of_mem _ (List.mem_cons_of_mem _ (List.mem_cons_of_mem _ (List.mem_cons_self))))))
  have h5 := k155.mp (hF.2 _ (List.mem_cons_of_mem _ (List.mem_cons_of_mem _ (List.mem_cons_of_mem _ (List.mem_cons_of_mem _ (List.mem_cons_of_mem _ (List.mem_cons_self)))))))
  have eB : ρ3.2.2.2.1 64353 = ρ.2.2.2.1 64353 := funext hB
  have ev : ρ.2.1 60033 = ρ.2.2.2.1 64321 50 := of_decide_eq_true (hF.2 _ (List.mem_cons_of_mem _ (List.mem_cons_of_mem _ (List.mem_cons_of_mem _ (List.mem_cons_self)))))
  have hc : (100925506 : Int) = amcode (ρ.2.2.2.1 64321) 50 (ρ.2.1 60033).toInt.toNat := of_decide_eq_true (hF.2 _ (List.mem_cons_of_mem _ (List.mem_cons_of_mem _ (List.mem_cons_self))))
  rw [ev] at hc
  have x7 : sc X ρ3 (157, .add (.elem (.arg 64321) (.int 0)) (.add (.elem (.arg 64353) (.int 0)) (.arg 1308)), .int 1) = true := k157.mpr (by
    rw [eB, eD]
    exact amn_c (K := 0) (m := 50) (by decide) rfl h7 h5 (Or.inr ⟨by rw [← hc]; decide, fun j hj => by
    by_cases hi : 50 ≤ j ∧ j < 50 + 5
    · rw [if_pos hi]; exact hAf j hi.1 hi.2
    · rw [if_neg hi, hAn j hi]⟩))
  have x5 : sc X ρ3 (155, .elem (.arg 64353) (.int 0), .int 0) = true := k155.mpr (by rw [eB]; exact h5)
  have lg60129 : ρ3.2.1 60129 = ρ.2.1 60129 := (m4.1 60129 (by decide) (by decide)).2.trans (k4.1 60129 (by decide) (by decide)).2.symm
  have lg60065 : ρ3.2.1 60065 = ρ.2.1 60065 := (m4.1 60065 (by decide) (by decide)).2.trans (k4.1 60065 (by decide) (by decide)).2.symm
  have lg60097 : ρ3.2.1 60097 = ρ.2.1 60097 := (m4.1 60097 (by decide) (by decide)).2.trans (k4.1 60097 (by decide) (by decide)).2.symm
  have z1 : sc X ρ3 (6, .elem (.arg 64321) (.int 1), .arg 60129) = true := decide_eq_true (show ρ3.2.2.2.1 64321 1 = ρ3.2.1 60129 by
    rw [hAn 1 (by decide), lg60129]
    exact of_decide_eq_true (hF.2 _ (List.mem_cons_of_mem _ (List.mem_cons_of_mem _ (List.mem_cons_of_mem _ (List.mem_cons_of_mem _ (List.mem_cons_of_mem _ (List.mem_cons_of_mem _ (List.mem_cons_self)))))))))
  have z2 : sc X ρ3 (6, .elem (.arg 64353) (.int 114), .arg 60065) = true := decide_eq_true (show ρ3.2.2.2.1 64353 114 = ρ3.2.1 60065 by
    rw [hB, lg60065]
    exact of_decide_eq_true (hF.2 _ (List.mem_cons_of_mem _ (List.mem_cons_of_mem _ (List.mem_cons_of_mem _ (List.mem_cons_of_mem _ (List.mem_cons_of_mem _ (List.mem_cons_of_mem _ (List.mem_cons_of_mem _ (List.mem_cons_self))))))))))
  have z3 : sc X ρ3 (6, .elem (.arg 64353) (.int 123), .arg 60097) = true := decide_eq_true (show ρ3.2.2.2.1 64353 123 = ρ3.2.1 60097 by
    rw [hB, lg60097]
    exact of_decide_eq_true (hF.2 _ (List.mem_cons_of_mem _ (List.mem_cons_of_mem _ (List.mem_cons_of_mem _ (List.mem_cons_of_mem _ (List.mem_cons_of_mem _ (List.mem_cons_of_mem _ (List.mem_cons_of_mem _ (List.mem_cons_of_mem _ (List.mem_cons_self)))))))))))
  exact t_omc1 hv ρ3 m1 ⟨m2.1, fcn (x7) (fcn (x5) (fcn (z1) (fcn (z2) (fcn (z3) (m2.2)))))⟩ m3 m4)))
theorem t_omb0 {X : pX} {ρ0 : sR} (hv : vok X ρ0) : CUTOK X kR zWB c_bn0 13 ρ0 q_omb0 := fun ρ k1 hF hI k4 => by
  have h5 := k155.mp (hF.2 _ (List.mem_cons_of_mem _ (List.mem_cons_of_mem _ (List.mem_cons_self))))
  have h7 := (k157.mp (hF.2 _ (List.mem_cons_of_mem _ (List.mem_cons_self))) 50 (by decide)).resolve_left (by decide)
  have eA : (ρ.2.2.2.1 64321 50).toInt = (ρ.2.2.2.1 64353 50).toInt := h7.trans (amn_i (K := 0) (m := 50) (by decide) (by decide) rfl (by decide) (by decide))
  obtain ⟨v0, v4⟩ := ev_m4 (m := 50) (by decide) (h5 50 (by decide))
  rw [← eA] at v0 v4
  have ev : ρ.2.1 60033 = ρ.2.2.2.1 64321 50 := of_decide_eq_true (hF.2 _ (List.mem_cons_self))
  rw [← ev] at v0 v4
  rcases am_3 (g := ρ.2.2.2.1 64321) (m := 50) (n := (ρ.2.1 60033).toInt.toNat) with h | h | h
  · exact t_omb0o hv ρ k1 ⟨hF.1, fcn (dl_lf (x := ρ.2.1 60033) (y := 0) (show (0 : Int) ≤ _ from v0)) (fcn (dl_lf (x := 4) (y := ρ.2.1 60033) (show _ ≤ (4 : Int) from v4)) (fcn (decide_eq_true (show (0 : Int) = amcode (ρ.2.2.2.1 64321) 50 (ρ.2.1 60033).toInt.toNat from h.symm)) (hF.2)))⟩ hI k4
  · exact t_omb0n hv ρ k1 ⟨hF.1, fcn (dl_lf (x := ρ.2.1 60033) (y := 0) (show (0 : Int) ≤ _ from v0)) (fcn (dl_lf (x := 4) (y := ρ.2.1 60033) (show _ ≤ (4 : Int) from v4)) (fcn (decide_eq_true (show (100925505 : Int) = amcode (ρ.2.2.2.1 64321) 50 (ρ.2.1 60033).toInt.toNat from h.symm)) (hF.2)))⟩ hI k4
  · exact t_omb0l hv ρ k1 ⟨hF.1, fcn (dl_lf (x := ρ.2.1 60033) (y := 0) (show (0 : Int) ≤ _ from v0)) (fcn (dl_lf (x := 4) (y := ρ.2.1 60033) (show _ ≤ (4 : Int) from v4)) (fcn (decide_eq_true (show (100925506 : Int) = amcode (ρ.2.2.2.1 64321) 50 (ρ.2.1 60033).toInt.toNat from h.symm)) (hF.2)))⟩ hI k4
noncomputable def q_omc0 : sCut := ((fr 0 93 67 [(0, tr 75)] [], [fr 0 60 30 [(0, tr 39), (1, .int 0)] [], fBot], 12), (fr 0 297 64 [(0, tr 219), (1, .arg 1308)] [], [fr 0 300 36 [(0, tr 219), (1, .arg 1308)] [], fBot], 12), [zf98zzzp_93, zf98zzzp_17, zf98zzzp_2, zf98zzzp_3, zf98zzzp_4, zf98zzzp_5, ((0, .arg 1702, .int 0), true), ((0, .arg 3360, .int 0), true), ((0, .arg 1350, .int 0), true), ((0, .arg 1826, .int 0), true), zf98zzzp_6, zf98zzzp_14], i_bz)
theorem k_omc0 : cbody kR [] (cpl1 zWB c_bn0 [q_omb0]) (cpl2 zWB c_bn0 [q_omb0]) (cleaf kR zWB c_bn0 [q_omb0]) 60 true false q_omc0.2.2.1 q_omc0.2.2.2 (cst zWB c_bn0.2.2.1.1 q_omc0.1) (cst zWB c_bn0.2.2.1.2 q_omc0.2.1) = true := by decide +kernel
theorem t_omc0 {X : pX} {ρ0 : sR} (hv : vok X ρ0) : CUTOK X kR zWB c_bn0 13 ρ0 q_omc0 := CUT_run kR_x kR_0 (Cs := []) (fun C hC => by cases hC) c_bn0_f (Q := [q_omb0]) hv (fun q hq => by
    simp only [List.mem_cons, List.not_mem_nil, or_false] at hq
    rw [hq]; exact t_omb0 hv) 60 (b1 := true) (b2 := false) k_omc0
theorem t_oms1 {X : pX} {ρ0 : sR} (hv : vok X ρ0) : CUTOK X kR zWB c_bn0 13 ρ0 q_oms1 := CUT_mono (t_omc0 hv) (fun ρ hF hI => ⟨⟨hF.1, fcn (k157.mpr (fun j hj => (k156.mp (hF.2 _ (List.mem_cons_self)) j hj).imp_right (fun q => congrArg Int64.toInt q))) (fun f hf => hF.2 f (List.mem_cons_of_mem _ hf))⟩, hI⟩)
