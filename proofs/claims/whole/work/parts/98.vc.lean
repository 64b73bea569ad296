set_option maxRecDepth 20000
theorem et_11 : evt[11]? = some (0, 4294967295, 8) := by decide +kernel
noncomputable def zi98vc_0 : sFs × sQ × Bool := ([((0, .arg 1698, .int 0), false), ((0, .arg 1762, .int 0), true)], (0, .arg 8386, .int 1), true)
noncomputable def zi98vc_1 : sFs × sQ × Bool := ([((0, .arg 1698, .int 0), false), ((0, .arg 1762, .int 0), false)], (0, .arg 8386, .int 0), true)
noncomputable def q_wR11 : sCut := ((fr 0 10 53 [] [], [fr 0 5 23 [(4, .int 0)] [], fBot], 7), (fr 0 281 150 [] [], [fr 0 277 91 [(3, .int 0)] [], fBot], 7), [((129, .int 11, .arg 60033), true)], [zi98vc_0, zi98vc_1])
noncomputable def zf98vc_2 : sQ × Bool := ((8, .arg 60033, .long 0), false)
noncomputable def zf98vc_3 : sQ × Bool := ((8, .long 4294967295, .arg 60033), false)
noncomputable def zf98vc_4 : sQ × Bool := ((101, .elem (.arg 1761) (.int 0), .int 0), true)
noncomputable def zf98vc_5 : sQ × Bool := ((137, .add (.elem (.arg 1761) (.int 0)) (.add (.arg 2848) (.add (.elem (.arg 24512) (.int 0)) (.add (.elem (.arg 2404) (.int 0)) (.add (.elem (.arg 24544) (.int 0)) (.add (.elem (.arg 2436) (.int 0)) (.add (.arg 5728) (.add (.arg 5760) (.add (.arg 5792) (.add (.arg 5824) (.add (.arg 5856) (.add (.arg 5888) (.add (.arg 5920) (.add (.arg 5952) (.add (.arg 2082) (.add (.arg 2114) (.add (.arg 2146) (.add (.arg 2178) (.add (.arg 6850) (.add (.arg 6882) (.add (.arg 6914) (.add (.arg 6946) (.add (.arg 2210) (.add (.arg 2242) (.add (.arg 2274) (.add (.arg 2306) (.add (.arg 7362) (.add (.arg 7394) (.add (.arg 7426) (.add (.arg 7458) (.add (.arg 2338) (.add (.arg 2370) (.add (.arg 2402) (.add (.arg 2434) (.add (.arg 7874) (.add (.arg 7906) (.add (.arg 7938) (.add (.arg 7970) (.add (.arg 6240) (.add (.arg 6272) (.add (.arg 6304) (.add (.arg 6336) (.add (.arg 21216) (.add (.arg 21248) (.add (.arg 21280) (.add (.arg 21312) (.add (.arg 1570) (.add (.arg 1602) (.add (.arg 6466) (.arg 6498))))))))))))))))))))))))))))))))))))))))))))))))), .int 0), true)
noncomputable def zf98vc_6 : sQ × Bool := ((0, .op2 .iand (.op2 .iushr (.arg 2848) (.int 4)) (.int 1), .arg 60578), true)
noncomputable def zf98vc_7 : sQ × Bool := ((2, .op2 .iand (.op2 .iushr (.arg 2848) (.int 4)) (.int 1), .arg 60578), false)
noncomputable def q_wq11 : sCut := ((fr 0 5 0 [(0, tr 57), (1, .int 11), (2, .arg 60033)] [], [fBot], 8), (fr 0 277 60 [(0, tr 219), (1, .arg 1308), (2, .int 11), (4, .arg 60033)] [], [fBot], 8), [zf98vc_2, zf98vc_3, zf98vc_4, zf98vc_5, zf98vc_6, zf98vc_7], [zi98vc_0, zi98vc_1])
noncomputable def q_wq11i : sCut := ((fr 0 5 0 [(0, tr 57), (1, .int 11), (2, .arg 60033)] [], [fBot], 8), (fr 0 277 60 [(0, tr 219), (1, .arg 1308), (2, .int 11), (4, .arg 60033)] [], [fBot], 8), [zf98vc_2, zf98vc_3, zf98vc_4, zf98vc_5, zf98vc_6, zf98vc_7], [([((6, .op2 .land (.arg 60033) (.long 2047), .long 0), false), ((6, .op2 .land (.arg 60033) (.long (-1073743872)), .long 0), true)], (129, .int 11, .arg 60033), true), zi98vc_0, zi98vc_1])
noncomputable def w_wq11i : List (sCut × List (Nat × sT) × List (Nat × sT × List (sT × sT))) := [(q_wR11, [(60033, .arg 60033), (2848, .op2 .ior (.arg 2848) (.int 1)), (6850, .arg 6850), (6882, .arg 6882), (6914, .arg 6914), (6946, .arg 6946), (7362, .arg 7362), (7394, .arg 7394), (7426, .arg 7426), (7458, .arg 7458), (7874, .arg 7874), (7906, .arg 7906), (7938, .arg 7938), (7970, .arg 7970), (21216, .arg 21216), (21248, .arg 21248), (21280, .arg 21280), (21312, .arg 21312), (6466, .arg 6466), (6498, .arg 6498)], [(1761, .arg 1761, [(.int 11, .arg 60033)])])]
theorem k_wq11i : cbody kR [] (cpl1 zWP c_wn2 [q_wR11]) (cpl2 zWP c_wn2 [q_wR11]) (cleafB kR zWP c_wn2 w_wq11i) 1500 true true q_wq11i.2.2.1 q_wq11i.2.2.2 (cst zWP c_wn2.2.2.1.1 q_wq11i.1) (cst zWP c_wn2.2.2.1.2 q_wq11i.2.1) = true := by decide +kernel
theorem t_wq11i {X : pX} {ρ0 : sR} (hv : vok X ρ0) : CUTOK X kR zWP c_wn2 8 ρ0 q_wq11i := CUTOK_AT (fun ρ k1 hF hI k4 => AT_of (q := q_wq11i) rfl rfl (SEM_runB kR_x kR_0 (Cs := []) (fun C hC => by cases hC) c_wn2_f (Q := w_wq11i) hv 1500 (b1 := true) (b2 := true) k_wq11i k1 hF hI k4 (fun p hp ρ3 m1 m2 m3 m4 m5 m6 => by
  rw [List.mem_singleton.mp hp] at m2 m3 m5 m6 ⊢
  have y3 : ρ3.2.1 60033 = ρ.2.1 60033 := congrArg Prod.snd (m5 (60033, .arg 60033) List.mem_cons_self)
  have hA : ∀ j, ρ3.2.2.2.1 1761 j = if 11 = j then ρ.2.1 60033 else ρ.2.2.2.1 1761 j := fun j => ad_l (X := X) (p := 11) (t := .arg 60033) rfl (m6 _ List.mem_cons_self) j
  have hk : evk 11 (ρ.2.1 60033).toInt = true := by
    have h := m2.2 _ List.mem_cons_self
    rw [← y3]
    exact h
  have ea : ρ3.1 2848 = (sd X ρ (.op2 .ior (.arg 2848) (.int 1))).1 := congrArg Prod.fst (m5 (2848, .op2 .ior (.arg 2848) (.int 1)) (List.mem_cons_of_mem _ List.mem_cons_self))
  have eL : ρ3.1 60578 = ρ.1 60578 := (m4.1 60578 (by decide) (by decide)).1.trans (k4.1 60578 (by decide) (by decide)).1.symm
  have mo : sc X ρ3 (2, .op2 .iand (.op2 .iushr (.arg 2848) (.int 4)) (.int 1), .arg 60578) = false := by
    show decide (((ρ3.1 2848).toUInt32 >>> ((4 : Int32).toUInt32 &&& (31 : Int32).toUInt32)).toInt32 &&& 1 < ρ3.1 60578) = false
    rw [ea, eL]
    have q := tbv_ok (X := X) (ρ := ρ) (F := []) (a := .op2 .iand (.op2 .iushr (.op2 .ior (.arg 2848) (.int 1)) (.int 4)) (.int 1)) (b := .op2 .iand (.op2 .iushr (.arg 2848) (.int 4)) (.int 1)) ⟨hF.1, fun f hf => by cases hf⟩ (by decide +kernel)
    rw [sv_int rfl, sv_int rfl] at q
    exact mn_e (Value.int.inj q) (of_decide_eq_true (hF.2 _ (List.mem_cons_of_mem _ (List.mem_cons_of_mem _ (List.mem_cons_of_mem _ (List.mem_cons_of_mem _ (List.mem_cons_self)))))))
  exact t_wE2 hv ρ3 m1 ⟨m2.1, fcn (ev_nm (g := ρ.2.2.2.1 1761) (p := 11) (hF.2 _ (List.mem_cons_of_mem _ (List.mem_cons_of_mem _ (List.mem_cons_self)))) hk hA (by decide +kernel)) (fcn (pd_up (X := X) (p := 11) (c := 1) (z := []) (hF.2 _ (List.mem_cons_of_mem _ (List.mem_cons_of_mem _ (List.mem_cons_of_mem _ (List.mem_cons_self))))) hA (fun x hx => m5 x (List.mem_cons_of_mem _ hx)) k4 m4 wm_2 wb_2 (by decide +kernel)) (fcn (mo) (fnl)))⟩ m3 m4)))
theorem t_wq11 {X : pX} {ρ0 : sR} (hv : vok X ρ0) : CUTOK X kR zWP c_wn2 8 ρ0 q_wq11 := CUT_mono (t_wq11i hv) (fun ρ hF hI => by
  have b0 := rl_lf (x := ρ.2.1 60033) (y := 0) (hF.2 _ (List.mem_cons_self))
  have b1 := rl_lf (x := 4294967295) (y := ρ.2.1 60033) (hF.2 _ (List.mem_cons_of_mem _ (List.mem_cons_self)))
  have y0 : (0 : Int64).toInt = 0 := by decide +kernel
  have y1 : (4294967295 : Int64).toInt = 4294967295 := by decide +kernel
  rw [y0] at b0
  rw [y1] at b1
  exact ⟨hF, ik_c (fun hg => by
    have c0 : ¬ ρ.2.1 60033 &&& 2047 = 0 := of_decide_eq_false (hg _ List.mem_cons_self)
    have c1 : ρ.2.1 60033 &&& (-1073743872) = 0 := of_decide_eq_true (hg _ (List.mem_cons_of_mem _ List.mem_cons_self))
    exact wn_129 (p := 11) (q := 11) rfl et_11 b0 b1 (id_8 b0 b1 c1 c0)) (hI)⟩)
theorem e_wp11 : frun kR [] (cpl1 zWP (c_wp2 11) [q_wq11]) (cpl2 zWP (c_wp2 11) [q_wq11]) (cleaf kR zWP (c_wp2 11) [q_wq11]) 300 65536 (isatP ((c_wp2 11).2.2.2.1) (c_wp2 11).2.2.2.2.2.2.2.1) (c_wp2 11).2.2.2.2.2.2.2.1 (sin0 mt_all (c_wp2 11).1.1 8 (c_wp2 11).2.1.1 (foot zWP (c_wp2 11).2.2.1.1)) (sin0 mt_all (c_wp2 11).1.2.1 8 (c_wp2 11).2.1.2 (foot zWP (c_wp2 11).2.2.1.2)) = true := by decide +kernel
theorem s_wp11 {X : pX} : SREL X pF pdfl mt_all kR zWP (c_wp2 11) := SREL_QC kR_x kR_0 (Cs := []) (fun C hC => by cases hC) (d := 8) rfl (c_wp2_f 11) (Q := [q_wq11]) (fun ρ0 hv => fun q hq => by
    simp only [List.mem_cons, List.not_mem_nil, or_false] at hq
    rw [hq]; exact (t_wq11 hv : CUTOK X kR zWP c_wn2 8 ρ0 q_wq11)) (QC_run 300 e_wp11)
theorem et_12 : evt[12]? = some (0, 100000, 0) := by decide +kernel
noncomputable def q_wR12 : sCut := ((fr 0 10 53 [] [], [fr 0 5 23 [(4, .int 0)] [], fBot], 7), (fr 0 281 150 [] [], [fr 0 277 91 [(3, .int 0)] [], fBot], 7), [((129, .int 12, .arg 60033), true)], [zi98vc_0, zi98vc_1])
noncomputable def q_wq12 : sCut := ((fr 0 5 0 [(0, tr 57), (1, .int 12), (2, .arg 60033)] [], [fBot], 8), (fr 0 277 60 [(0, tr 219), (1, .arg 1308), (2, .int 12), (4, .arg 60033)] [], [fBot], 8), [zf98vc_2, zf98vc_3, zf98vc_4, zf98vc_5, zf98vc_6, zf98vc_7], [zi98vc_0, zi98vc_1])
noncomputable def q_wq12i : sCut := ((fr 0 5 0 [(0, tr 57), (1, .int 12), (2, .arg 60033)] [], [fBot], 8), (fr 0 277 60 [(0, tr 219), (1, .arg 1308), (2, .int 12), (4, .arg 60033)] [], [fBot], 8), [zf98vc_2, zf98vc_3, zf98vc_4, zf98vc_5, zf98vc_6, zf98vc_7], [([((8, .arg 60033, .long 0), false), ((8, .long 100000, .arg 60033), false)], (129, .int 12, .arg 60033), true), zi98vc_0, zi98vc_1])
noncomputable def w_wq12i : List (sCut × List (Nat × sT) × List (Nat × sT × List (sT × sT))) := [(q_wR12, [(60033, .arg 60033), (2848, .op2 .ior (.arg 2848) (.int 1)), (6850, .arg 6850), (6882, .arg 6882), (6914, .arg 6914), (6946, .arg 6946), (7362, .arg 7362), (7394, .arg 7394), (7426, .arg 7426), (7458, .arg 7458), (7874, .arg 7874), (7906, .arg 7906), (7938, .arg 7938), (7970, .arg 7970), (21216, .arg 21216), (21248, .arg 21248), (21280, .arg 21280), (21312, .arg 21312), (6466, .arg 6466), (6498, .arg 6498)], [(1761, .arg 1761, [(.int 12, .arg 60033)])])]
theorem k_wq12i : cbody kR [] (cpl1 zWP c_wn2 [q_wR12]) (cpl2 zWP c_wn2 [q_wR12]) (cleafB kR zWP c_wn2 w_wq12i) 1500 true true q_wq12i.2.2.1 q_wq12i.2.2.2 (cst zWP c_wn2.2.2.1.1 q_wq12i.1) (cst zWP c_wn2.2.2.1.2 q_wq12i.2.1) = true := by decide +kernel
theorem t_wq12i {X : pX} {ρ0 : sR} (hv : vok X ρ0) : CUTOK X kR zWP c_wn2 8 ρ0 q_wq12i := CUTOK_AT (fun ρ k1 hF hI k4 => AT_of (q := q_wq12i) rfl rfl (SEM_runB kR_x kR_0 (Cs := []) (fun C hC => by cases hC) c_wn2_f (Q := w_wq12i) hv 1500 (b1 := true) (b2 := true) k_wq12i k1 hF hI k4 (fun p hp ρ3 m1 m2 m3 m4 m5 m6 => by
  rw [List.mem_singleton.mp hp] at m2 m3 m5 m6 ⊢
  have y3 : ρ3.2.1 60033 = ρ.2.1 60033 := congrArg Prod.snd (m5 (60033, .arg 60033) List.mem_cons_self)
  have hA : ∀ j, ρ3.2.2.2.1 1761 j = if 12 = j then ρ.2.1 60033 else ρ.2.2.2.1 1761 j := fun j => ad_l (X := X) (p := 12) (t := .arg 60033) rfl (m6 _ List.mem_cons_self) j
  have hk : evk 12 (ρ.2.1 60033).toInt = true := by
    have h := m2.2 _ List.mem_cons_self
    rw [← y3]
    exact h
  have ea : ρ3.1 2848 = (sd X ρ (.op2 .ior (.arg 2848) (.int 1))).1 := congrArg Prod.fst (m5 (2848, .op2 .ior (.arg 2848) (.int 1)) (List.mem_cons_of_mem _ List.mem_cons_self))
  have eL : ρ3.1 60578 = ρ.1 60578 := (m4.1 60578 (by decide) (by decide)).1.trans (k4.1 60578 (by decide) (by decide)).1.symm
  have mo : sc X ρ3 (2, .op2 .iand (.op2 .iushr (.arg 2848) (.int 4)) (.int 1), .arg 60578) = false := by
    show decide (((ρ3.1 2848).toUInt32 >>> ((4 : Int32).toUInt32 &&& (31 : Int32).toUInt32)).toInt32 &&& 1 < ρ3.1 60578) = false
    rw [ea, eL]
    have q := tbv_ok (X := X) (ρ := ρ) (F := []) (a := .op2 .iand (.op2 .iushr (.op2 .ior (.arg 2848) (.int 1)) (.int 4)) (.int 1)) (b := .op2 .iand (.op2 .iushr (.arg 2848) (.int 4)) (.int 1)) ⟨hF.1, fun f hf => by cases hf⟩ (by decide +kernel)
    rw [sv_int rfl, sv_int rfl] at q
    exact mn_e (Value.int.inj q) (of_decide_eq_true (hF.2 _ (List.mem_cons_of_mem _ (List.mem_cons_of_mem _ (List.mem_cons_of_mem _ (List.mem_cons_of_mem _ (List.mem_cons_self)))))))
  exact t_wE2 hv ρ3 m1 ⟨m2.1, fcn (ev_nm (g := ρ.2.2.2.1 1761) (p := 12) (hF.2 _ (List.mem_cons_of_mem _ (List.mem_cons_of_mem _ (List.mem_cons_self)))) hk hA (by decide +kernel)) (fcn (pd_up (X := X) (p := 12) (c := 1) (z := []) (hF.2 _ (List.mem_cons_of_mem _ (List.mem_cons_of_mem _ (List.mem_cons_of_mem _ (List.mem_cons_self))))) hA (fun x hx => m5 x (List.mem_cons_of_mem _ hx)) k4 m4 wm_2 wb_2 (by decide +kernel)) (fcn (mo) (fnl)))⟩ m3 m4)))
theorem t_wq12 {X : pX} {ρ0 : sR} (hv : vok X ρ0) : CUTOK X kR zWP c_wn2 8 ρ0 q_wq12 := CUT_mono (t_wq12i hv) (fun ρ hF hI => by
  have b0 := rl_lf (x := ρ.2.1 60033) (y := 0) (hF.2 _ (List.mem_cons_self))
  have b1 := rl_lf (x := 4294967295) (y := ρ.2.1 60033) (hF.2 _ (List.mem_cons_of_mem _ (List.mem_cons_self)))
  have y0 : (0 : Int64).toInt = 0 := by decide +kernel
  have y1 : (4294967295 : Int64).toInt = 4294967295 := by decide +kernel
  rw [y0] at b0
  rw [y1] at b1
  exact ⟨hF, ik_c (fun hg => by
    have c0 := rl_lf (x := ρ.2.1 60033) (y := 0) (hg _ List.mem_cons_self)
    have c1 := rl_lf (x := 100000) (y := ρ.2.1 60033) (hg _ (List.mem_cons_of_mem _ List.mem_cons_self))
    have z0 : (0 : Int64).toInt = 0 := by decide +kernel
    have z1 : (100000 : Int64).toInt = 100000 := by decide +kernel
    rw [z0] at c0
    rw [z1] at c1
    exact wn_129 (p := 12) (q := 12) rfl et_12 c0 c1 rfl) (hI)⟩)
theorem e_wp12 : frun kR [] (cpl1 zWP (c_wp2 12) [q_wq12]) (cpl2 zWP (c_wp2 12) [q_wq12]) (cleaf kR zWP (c_wp2 12) [q_wq12]) 300 65536 (isatP ((c_wp2 12).2.2.2.1) (c_wp2 12).2.2.2.2.2.2.2.1) (c_wp2 12).2.2.2.2.2.2.2.1 (sin0 mt_all (c_wp2 12).1.1 8 (c_wp2 12).2.1.1 (foot zWP (c_wp2 12).2.2.1.1)) (sin0 mt_all (c_wp2 12).1.2.1 8 (c_wp2 12).2.1.2 (foot zWP (c_wp2 12).2.2.1.2)) = true := by decide +kernel
theorem s_wp12 {X : pX} : SREL X pF pdfl mt_all kR zWP (c_wp2 12) := SREL_QC kR_x kR_0 (Cs := []) (fun C hC => by cases hC) (d := 8) rfl (c_wp2_f 12) (Q := [q_wq12]) (fun ρ0 hv => fun q hq => by
    simp only [List.mem_cons, List.not_mem_nil, or_false] at hq
    rw [hq]; exact (t_wq12 hv : CUTOK X kR zWP c_wn2 8 ρ0 q_wq12)) (QC_run 300 e_wp12)
theorem et_17 : evt[17]? = some (0, 4294967295, 0) := by decide +kernel
noncomputable def q_wR17 : sCut := ((fr 0 10 15 [] [], [fr 0 5 23 [(4, .int 0)] [], fBot], 7), (fr 0 281 28 [] [], [fr 0 277 91 [(3, .int 0)] [], fBot], 7), [], [zi98vc_0, zi98vc_1])
noncomputable def q_wq17 : sCut := ((fr 0 5 0 [(0, tr 57), (1, .int 17), (2, .arg 60033)] [], [fBot], 8), (fr 0 277 60 [(0, tr 219), (1, .arg 1308), (2, .int 17), (4, .arg 60033)] [], [fBot], 8), [zf98vc_2, zf98vc_3, zf98vc_4, zf98vc_5, zf98vc_6, zf98vc_7], [zi98vc_0, zi98vc_1])
noncomputable def q_wq17i : sCut := ((fr 0 5 0 [(0, tr 57), (1, .int 17), (2, .arg 60033)] [], [fBot], 8), (fr 0 277 60 [(0, tr 219), (1, .arg 1308), (2, .int 17), (4, .arg 60033)] [], [fBot], 8), [zf98vc_2, zf98vc_3, zf98vc_4, zf98vc_5, zf98vc_6, zf98vc_7], [([((0, .arg 1698, .int 0), false)], (0, .arg 1698, .int 1), true), zi98vc_0, zi98vc_1])
noncomputable def w_wq17i : List (sCut × List (Nat × sT) × List (Nat × sT × List (sT × sT))) := [(q_wR17, [(60033, .arg 60033), (2848, .arg 2848), (6850, .arg 6850), (6882, .arg 6882), (6914, .arg 6914), (6946, .arg 6946), (7362, .arg 7362), (7394, .arg 7394), (7426, .arg 7426), (7458, .arg 7458), (7874, .arg 7874), (7906, .arg 7906), (7938, .arg 7938), (7970, .arg 7970), (21216, .arg 21216), (21248, .arg 21248), (21280, .arg 21280), (21312, .arg 21312), (6466, .arg 6466), (6498, .arg 6498)], [(1761, .arg 1761, [])])]
theorem k_wq17i : cbody kR [] (cpl1 zWP c_wn2 [q_wR17]) (cpl2 zWP c_wn2 [q_wR17]) (cleafB kR zWP c_wn2 w_wq17i) 1500 true true q_wq17i.2.2.1 q_wq17i.2.2.2 (cst zWP c_wn2.2.2.1.1 q_wq17i.1) (cst zWP c_wn2.2.2.1.2 q_wq17i.2.1) = true := by decide +kernel
theorem t_wq17i {X : pX} {ρ0 : sR} (hv : vok X ρ0) : CUTOK X kR zWP c_wn2 8 ρ0 q_wq17i := CUTOK_AT (fun ρ k1 hF hI k4 => AT_of (q := q_wq17i) rfl rfl (SEM_runB kR_x kR_0 (Cs := []) (fun C hC => by cases hC) c_wn2_f (Q := w_wq17i) hv 1500 (b1 := true) (b2 := true) k_wq17i k1 hF hI k4 (fun p hp ρ3 m1 m2 m3 m4 m5 m6 => by
  rw [List.mem_singleton.mp hp] at m2 m3 m5 m6 ⊢
  have y3 : ρ3.2.1 60033 = ρ.2.1 60033 := congrArg Prod.snd (m5 (60033, .arg 60033) List.mem_cons_self)
  have hE : ∀ j, ρ3.2.2.2.1 1761 j = ρ.2.2.2.1 1761 j := fun j => Value.long.inj (m6 _ List.mem_cons_self j)
  have hA : ∀ j, ρ3.2.2.2.1 1761 j = if 17 = j then ρ.2.2.2.1 1761 17 else ρ.2.2.2.1 1761 j := fun j => by
    rw [hE j]
    split
    · next h => rw [h]
    · rfl
  have hG : ρ3.2.2.2.1 1761 = ρ.2.2.2.1 1761 := funext hE
  have ea : ρ3.1 2848 = (sd X ρ (.arg 2848)).1 := congrArg Prod.fst (m5 (2848, .arg 2848) (List.mem_cons_of_mem _ List.mem_cons_self))
  have eL : ρ3.1 60578 = ρ.1 60578 := (m4.1 60578 (by decide) (by decide)).1.trans (k4.1 60578 (by decide) (by decide)).1.symm
  have mo : sc X ρ3 (2, .op2 .iand (.op2 .iushr (.arg 2848) (.int 4)) (.int 1), .arg 60578) = false := by
    show decide (((ρ3.1 2848).toUInt32 >>> ((4 : Int32).toUInt32 &&& (31 : Int32).toUInt32)).toInt32 &&& 1 < ρ3.1 60578) = false
    rw [ea, eL]
    exact mn_e rfl (of_decide_eq_true (hF.2 _ (List.mem_cons_of_mem _ (List.mem_cons_of_mem _ (List.mem_cons_of_mem _ (List.mem_cons_of_mem _ (List.mem_cons_self)))))))
  exact t_wF2 hv ρ3 m1 ⟨m2.1, fcn (show evall (ρ3.2.2.2.1 1761) = true by rw [hG]; exact hF.2 _ (List.mem_cons_of_mem _ (List.mem_cons_of_mem _ (List.mem_cons_self)))) (fcn (pd_un (X := X) (p := 17) (hF.2 _ (List.mem_cons_of_mem _ (List.mem_cons_of_mem _ (List.mem_cons_of_mem _ (List.mem_cons_self))))) hA (fun x hx => m5 x (List.mem_cons_of_mem _ hx)) k4 m4 wm_2 wb_2 (by decide +kernel)) (fcn (mo) (fnl)))⟩ m3 m4)))
theorem t_wq17 {X : pX} {ρ0 : sR} (hv : vok X ρ0) : CUTOK X kR zWP c_wn2 8 ρ0 q_wq17 := CUT_mono (t_wq17i hv) (fun ρ hF hI => by
  have b0 := rl_lf (x := ρ.2.1 60033) (y := 0) (hF.2 _ (List.mem_cons_self))
  have b1 := rl_lf (x := 4294967295) (y := ρ.2.1 60033) (hF.2 _ (List.mem_cons_of_mem _ (List.mem_cons_self)))
  have y0 : (0 : Int64).toInt = 0 := by decide +kernel
  have y1 : (4294967295 : Int64).toInt = 4294967295 := by decide +kernel
  rw [y0] at b0
  rw [y1] at b1
  exact ⟨hF, ik_c (fun hg => by
    have c0 : ¬ ρ.1 1698 = 0 := of_decide_eq_false (hg _ List.mem_cons_self)
    rcases kp_b (hF.1.1 1698 (0, 1) rfl) with e | e
    · exact absurd e c0
    · exact decide_eq_true e) (hI)⟩)
theorem e_wp17 : frun kR [] (cpl1 zWP (c_wp2 17) [q_wq17]) (cpl2 zWP (c_wp2 17) [q_wq17]) (cleaf kR zWP (c_wp2 17) [q_wq17]) 300 65536 (isatP ((c_wp2 17).2.2.2.1) (c_wp2 17).2.2.2.2.2.2.2.1) (c_wp2 17).2.2.2.2.2.2.2.1 (sin0 mt_all (c_wp2 17).1.1 8 (c_wp2 17).2.1.1 (foot zWP (c_wp2 17).2.2.1.1)) (sin0 mt_all (c_wp2 17).1.2.1 8 (c_wp2 17).2.1.2 (foot zWP (c_wp2 17).2.2.1.2)) = true := by decide +kernel
theorem s_wp17 {X : pX} : SREL X pF pdfl mt_all kR zWP (c_wp2 17) := SREL_QC kR_x kR_0 (Cs := []) (fun C hC => by cases hC) (d := 8) rfl (c_wp2_f 17) (Q := [q_wq17]) (fun ρ0 hv => fun q hq => by
    simp only [List.mem_cons, List.not_mem_nil, or_false] at hq
    rw [hq]; exact (t_wq17 hv : CUTOK X kR zWP c_wn2 8 ρ0 q_wq17)) (QC_run 300 e_wp17)
theorem et_21 : evt[21]? = some (0, 8388607, 0) := by decide +kernel
noncomputable def q_wR21 : sCut := ((fr 0 10 53 [] [], [fr 0 5 23 [(4, .int 0)] [], fBot], 7), (fr 0 281 150 [] [], [fr 0 277 91 [(3, .int 0)] [], fBot], 7), [((129, .int 21, .arg 60033), true)], [zi98vc_0, zi98vc_1])
noncomputable def q_wq21 : sCut := ((fr 0 5 0 [(0, tr 57), (1, .int 21), (2, .arg 60033)] [], [fBot], 8), (fr 0 277 60 [(0, tr 219), (1, .arg 1308), (2, .int 21), (4, .arg 60033)] [], [fBot], 8), [zf98vc_2, zf98vc_3, zf98vc_4, zf98vc_5, zf98vc_6, zf98vc_7], [zi98vc_0, zi98vc_1])
noncomputable def q_wq21i : sCut := ((fr 0 5 0 [(0, tr 57), (1, .int 21), (2, .arg 60033)] [], [fBot], 8), (fr 0 277 60 [(0, tr 219), (1, .arg 1308), (2, .int 21), (4, .arg 60033)] [], [fBot], 8), [zf98vc_2, zf98vc_3, zf98vc_4, zf98vc_5, zf98vc_6, zf98vc_7], [([((8, .arg 60033, .long 0), false), ((8, .long 8388607, .arg 60033), false)], (129, .int 21, .arg 60033), true), zi98vc_0, zi98vc_1])
noncomputable def w_wq21i : List (sCut × List (Nat × sT) × List (Nat × sT × List (sT × sT))) := [(q_wR21, [(60033, .arg 60033), (2848, .op2 .ior (.arg 2848) (.int 4)), (6850, .arg 6850), (6882, .arg 6882), (6914, .arg 6914), (6946, .arg 6946), (7362, .arg 7362), (7394, .arg 7394), (7426, .arg 7426), (7458, .arg 7458), (7874, .arg 7874), (7906, .arg 7906), (7938, .arg 7938), (7970, .arg 7970), (21216, .arg 21216), (21248, .arg 21248), (21280, .arg 21280), (21312, .arg 21312), (6466, .int 0), (6498, .arg 6498)], [(1761, .arg 1761, [(.int 21, .arg 60033)])])]
theorem k_wq21i : cbody kR [] (cpl1 zWP c_wn2 [q_wR21]) (cpl2 zWP c_wn2 [q_wR21]) (cleafB kR zWP c_wn2 w_wq21i) 1500 true true q_wq21i.2.2.1 q_wq21i.2.2.2 (cst zWP c_wn2.2.2.1.1 q_wq21i.1) (cst zWP c_wn2.2.2.1.2 q_wq21i.2.1) = true := by decide +kernel
theorem t_wq21i {X : pX} {ρ0 : sR} (hv : vok X ρ0) : CUTOK X kR zWP c_wn2 8 ρ0 q_wq21i := CUTOK_AT (fun ρ k1 hF hI k4 => AT_of (q := q_wq21i) rfl rfl (SEM_runB kR_x kR_0 (Cs := []) (fun C hC => by cases hC) c_wn2_f (Q := w_wq21i) hv 1500 (b1 := true) (b2 := true) k_wq21i k1 hF hI k4 (fun p hp ρ3 m1 m2 m3 m4 m5 m6 => by
  rw [List.mem_singleton.mp hp] at m2 m3 m5 m6 ⊢
  have y3 : ρ3.2.1 60033 = ρ.2.1 60033 := congrArg Prod.snd (m5 (60033, .arg 60033) List.mem_cons_self)
  have hA : ∀ j, ρ3.2.2.2.1 1761 j = if 21 = j then ρ.2.1 60033 else ρ.2.2.2.1 1761 j := fun j => ad_l (X := X) (p := 21) (t := .arg 60033) rfl (m6 _ List.mem_cons_self) j
  have hk : evk 21 (ρ.2.1 60033).toInt = true := by
    have h := m2.2 _ List.mem_cons_self
    rw [← y3]
    exact h
  have ea : ρ3.1 2848 = (sd X ρ (.op2 .ior (.arg 2848) (.int 4))).1 := congrArg Prod.fst (m5 (2848, .op2 .ior (.arg 2848) (.int 4)) (List.mem_cons_of_mem _ List.mem_cons_self))
  have eL : ρ3.1 60578 = ρ.1 60578 := (m4.1 60578 (by decide) (by decide)).1.trans (k4.1 60578 (by decide) (by decide)).1.symm
  have mo : sc X ρ3 (2, .op2 .iand (.op2 .iushr (.arg 2848) (.int 4)) (.int 1), .arg 60578) = false := by
    show decide (((ρ3.1 2848).toUInt32 >>> ((4 : Int32).toUInt32 &&& (31 : Int32).toUInt32)).toInt32 &&& 1 < ρ3.1 60578) = false
    rw [ea, eL]
    have q := tbv_ok (X := X) (ρ := ρ) (F := []) (a := .op2 .iand (.op2 .iushr (.op2 .ior (.arg 2848) (.int 4)) (.int 4)) (.int 1)) (b := .op2 .iand (.op2 .iushr (.arg 2848) (.int 4)) (.int 1)) ⟨hF.1, fun f hf => by cases hf⟩ (by decide +kernel)
    rw [sv_int rfl, sv_int rfl] at q
    exact mn_e (Value.int.inj q) (of_decide_eq_true (hF.2 _ (List.mem_cons_of_mem _ (List.mem_cons_of_mem _ (List.mem_cons_of_mem _ (List.mem_cons_of_mem _ (List.mem_cons_self)))))))
  exact t_wE2 hv ρ3 m1 ⟨m2.1, fcn (ev_nm (g := ρ.2.2.2.1 1761) (p := 21) (hF.2 _ (List.mem_cons_of_mem _ (List.mem_cons_of_mem _ (List.mem_cons_self)))) hk hA (by decide +kernel)) (fcn (pd_up (X := X) (p := 21) (c := 4) (z := [6466]) (hF.2 _ (List.mem_cons_of_mem _ (List.mem_cons_of_mem _ (List.mem_cons_of_mem _ (List.mem_cons_self))))) hA (fun x hx => m5 x (List.mem_cons_of_mem _ hx)) k4 m4 wm_2 wb_2 (by decide +kernel)) (fcn (mo) (fnl)))⟩ m3 m4)))
theorem t_wq21 {X : pX} {ρ0 : sR} (hv : vok X ρ0) : CUTOK X kR zWP c_wn2 8 ρ0 q_wq21 := CUT_mono (t_wq21i hv) (fun ρ hF hI => by
  have b0 := rl_lf (x := ρ.2.1 60033) (y := 0) (hF.2 _ (List.mem_cons_self))
  have b1 := rl_lf (x := 4294967295) (y := ρ.2.1 60033) (hF.2 _ (List.mem_cons_of_mem _ (List.mem_cons_self)))
  have y0 : (0 : Int64).toInt = 0 := by decide +kernel
  have y1 : (4294967295 : Int64).toInt = 4294967295 := by decide +kernel
  rw [y0] at b0
  rw [y1] at b1
  exact ⟨hF, ik_c (fun hg => by
    have c0 := rl_lf (x := ρ.2.1 60033) (y := 0) (hg _ List.mem_cons_self)
    have c1 := rl_lf (x := 8388607) (y := ρ.2.1 60033) (hg _ (List.mem_cons_of_mem _ List.mem_cons_self))
    have z0 : (0 : Int64).toInt = 0 := by decide +kernel
    have z1 : (8388607 : Int64).toInt = 8388607 := by decide +kernel
    rw [z0] at c0
    rw [z1] at c1
    exact wn_129 (p := 21) (q := 21) rfl et_21 c0 c1 rfl) (hI)⟩)
theorem e_wp21 : frun kR [] (cpl1 zWP (c_wp2 21) [q_wq21]) (cpl2 zWP (c_wp2 21) [q_wq21]) (cleaf kR zWP (c_wp2 21) [q_wq21]) 300 65536 (isatP ((c_wp2 21).2.2.2.1) (c_wp2 21).2.2.2.2.2.2.2.1) (c_wp2 21).2.2.2.2.2.2.2.1 (sin0 mt_all (c_wp2 21).1.1 8 (c_wp2 21).2.1.1 (foot zWP (c_wp2 21).2.2.1.1)) (sin0 mt_all (c_wp2 21).1.2.1 8 (c_wp2 21).2.1.2 (foot zWP (c_wp2 21).2.2.1.2)) = true := by decide +kernel
theorem s_wp21 {X : pX} : SREL X pF pdfl mt_all kR zWP (c_wp2 21) := SREL_QC kR_x kR_0 (Cs := []) (fun C hC => by cases hC) (d := 8) rfl (c_wp2_f 21) (Q := [q_wq21]) (fun ρ0 hv => fun q hq => by
    simp only [List.mem_cons, List.not_mem_nil, or_false] at hq
    rw [hq]; exact (t_wq21 hv : CUTOK X kR zWP c_wn2 8 ρ0 q_wq21)) (QC_run 300 e_wp21)
theorem et_22 : evt[22]? = some (0, 8388607, 0) := by decide +kernel
noncomputable def q_wR22 : sCut := ((fr 0 10 53 [] [], [fr 0 5 23 [(4, .int 0)] [], fBot], 7), (fr 0 281 150 [] [], [fr 0 277 91 [(3, .int 0)] [], fBot], 7), [((129, .int 22, .arg 60033), true)], [zi98vc_0, zi98vc_1])
noncomputable def q_wq22 : sCut := ((fr 0 5 0 [(0, tr 57), (1, .int 22), (2, .arg 60033)] [], [fBot], 8), (fr 0 277 60 [(0, tr 219), (1, .arg 1308), (2, .int 22), (4, .arg 60033)] [], [fBot], 8), [zf98vc_2, zf98vc_3, zf98vc_4, zf98vc_5, zf98vc_6, zf98vc_7], [zi98vc_0, zi98vc_1])
noncomputable def q_wq22i : sCut := ((fr 0 5 0 [(0, tr 57), (1, .int 22), (2, .arg 60033)] [], [fBot], 8), (fr 0 277 60 [(0, tr 219), (1, .arg 1308), (2, .int 22), (4, .arg 60033)] [], [fBot], 8), [zf98vc_2, zf98vc_3, zf98vc_4, zf98vc_5, zf98vc_6, zf98vc_7], [([((8, .arg 60033, .long 0), false), ((8, .long 8388607, .arg 60033), false)], (129, .int 22, .arg 60033), true), zi98vc_0, zi98vc_1])
noncomputable def w_wq22i : List (sCut × List (Nat × sT) × List (Nat × sT × List (sT × sT))) := [(q_wR22, [(60033, .arg 60033), (2848, .op2 .ior (.arg 2848) (.int 8)), (6850, .arg 6850), (6882, .arg 6882), (6914, .arg 6914), (6946, .arg 6946), (7362, .arg 7362), (7394, .arg 7394), (7426, .arg 7426), (7458, .arg 7458), (7874, .arg 7874), (7906, .arg 7906), (7938, .arg 7938), (7970, .arg 7970), (21216, .arg 21216), (21248, .arg 21248), (21280, .arg 21280), (21312, .arg 21312), (6466, .arg 6466), (6498, .int 0)], [(1761, .arg 1761, [(.int 22, .arg 60033)])])]
theorem k_wq22i : cbody kR [] (cpl1 zWP c_wn2 [q_wR22]) (cpl2 zWP c_wn2 [q_wR22]) (cleafB kR zWP c_wn2 w_wq22i) 1500 true true q_wq22i.2.2.1 q_wq22i.2.2.2 (cst zWP c_wn2.2.2.1.1 q_wq22i.1) (cst zWP c_wn2.2.2.1.2 q_wq22i.2.1) = true := by decide +kernel
theorem t_wq22i {X : pX} {ρ0 : sR} (hv : vok X ρ0) : CUTOK X kR zWP c_wn2 8 ρ0 q_wq22i := CUTOK_AT (fun ρ k1 hF hI k4 => AT_of (q := q_wq22i) rfl rfl (SEM_runB kR_x kR_0 (Cs := []) (fun C hC => by cases hC) c_wn2_f (Q := w_wq22i) hv 1500 (b1 := true) (b2 := true) k_wq22i k1 hF hI k4 (fun p hp ρ3 m1 m2 m3 m4 m5 m6 => by
  rw [List.mem_singleton.mp hp] at m2 m3 m5 m6 ⊢
  have y3 : ρ3.2.1 60033 = ρ.2.1 60033 := congrArg Prod.snd (m5 (60033, .arg 60033) List.mem_cons_self)
  have hA : ∀ j, ρ3.2.2.2.1 1761 j = if 22 = j then ρ.2.1 60033 else ρ.2.2.2.1 1761 j := fun j => ad_l (X := X) (p := 22) (t := .arg 60033) rfl (m6 _ List.mem_cons_self) j
  have hk : evk 22 (ρ.2.1 60033).toInt = true := by
    have h := m2.2 _ List.mem_cons_self
    rw [← y3]
    exact h
  have ea : ρ3.1 2848 = (sd X ρ (.op2 .ior (.arg 2848) (.int 8))).1 := congrArg Prod.fst (m5 (2848, .op2 .ior (.arg 2848) (.int 8)) (List.mem_cons_of_mem _ List.mem_cons_self))
  have eL : ρ3.1 60578 = ρ.1 60578 := (m4.1 60578 (by decide) (by decide)).1.trans (k4.1 60578 (by decide) (by decide)).1.symm
  have mo : sc X ρ3 (2, .op2 .iand (.op2 .iushr (.arg 2848) (.int 4)) (.int 1), .arg 60578) = false := by
    show decide (((ρ3.1 2848).toUInt32 >>> ((4 : Int32).toUInt32 &&& (31 : Int32).toUInt32)).toInt32 &&& 1 < ρ3.1 60578) = false
    rw [ea, eL]
    have q := tbv_ok (X := X) (ρ := ρ) (F := []) (a := .op2 .iand (.op2 .iushr (.op2 .ior (.arg 2848) (.int 8)) (.int 4)) (.int 1)) (b := .op2 .iand (.op2 .iushr (.arg 2848) (.int 4)) (.int 1)) ⟨hF.1, fun f hf => by cases hf⟩ (by decide +kernel)
    rw [sv_int rfl, sv_int rfl] at q
    exact mn_e (Value.int.inj q) (of_decide_eq_true (hF.2 _ (List.mem_cons_of_mem _ (List.mem_cons_of_mem _ (List.mem_cons_of_mem _ (List.mem_cons_of_mem _ (List.mem_cons_self)))))))
  exact t_wE2 hv ρ3 m1 ⟨m2.1, fcn (ev_nm (g := ρ.2.2.2.1 1761) (p := 22) (hF.2 _ (List.mem_cons_of_mem _ (List.mem_cons_of_mem _ (List.mem_cons_self)))) hk hA (by decide +kernel)) (fcn (pd_up (X := X) (p := 22) (c := 8) (z := [6498]) (hF.2 _ (List.mem_cons_of_mem _ (List.mem_cons_of_mem _ (List.mem_cons_of_mem _ (List.mem_cons_self))))) hA (fun x hx => m5 x (List.mem_cons_of_mem _ hx)) k4 m4 wm_2 wb_2 (by decide +kernel)) (fcn (mo) (fnl)))⟩ m3 m4)))
theorem t_wq22 {X : pX} {ρ0 : sR} (hv : vok X ρ0) : CUTOK X kR zWP c_wn2 8 ρ0 q_wq22 := CUT_mono (t_wq22i hv) (fun ρ hF hI => by
  have b0 := rl_lf (x := ρ.2.1 60033) (y := 0) (hF.2 _ (List.mem_cons_self))
  have b1 := rl_lf (x := 4294967295) (y := ρ.2.1 60033) (hF.2 _ (List.mem_cons_of_mem _ (List.mem_cons_self)))
  have y0 : (0 : Int64).toInt = 0 := by decide +kernel
  have y1 : (4294967295 : Int64).toInt = 4294967295 := by decide +kernel
  rw [y0] at b0
  rw [y1] at b1
  exact ⟨hF, ik_c (fun hg => by
    have c0 := rl_lf (x := ρ.2.1 60033) (y := 0) (hg _ List.mem_cons_self)
    have c1 := rl_lf (x := 8388607) (y := ρ.2.1 60033) (hg _ (List.mem_cons_of_mem _ List.mem_cons_self))
    have z0 : (0 : Int64).toInt = 0 := by decide +kernel
    have z1 : (8388607 : Int64).toInt = 8388607 := by decide +kernel
    rw [z0] at c0
    rw [z1] at c1
    exact wn_129 (p := 22) (q := 22) rfl et_22 c0 c1 rfl) (hI)⟩)
theorem e_wp22 : frun kR [] (cpl1 zWP (c_wp2 22) [q_wq22]) (cpl2 zWP (c_wp2 22) [q_wq22]) (cleaf kR zWP (c_wp2 22) [q_wq22]) 300 65536 (isatP ((c_wp2 22).2.2.2.1) (c_wp2 22).2.2.2.2.2.2.2.1) (c_wp2 22).2.2.2.2.2.2.2.1 (sin0 mt_all (c_wp2 22).1.1 8 (c_wp2 22).2.1.1 (foot zWP (c_wp2 22).2.2.1.1)) (sin0 mt_all (c_wp2 22).1.2.1 8 (c_wp2 22).2.1.2 (foot zWP (c_wp2 22).2.2.1.2)) = true := by decide +kernel
theorem s_wp22 {X : pX} : SREL X pF pdfl mt_all kR zWP (c_wp2 22) := SREL_QC kR_x kR_0 (Cs := []) (fun C hC => by cases hC) (d := 8) rfl (c_wp2_f 22) (Q := [q_wq22]) (fun ρ0 hv => fun q hq => by
    simp only [List.mem_cons, List.not_mem_nil, or_false] at hq
    rw [hq]; exact (t_wq22 hv : CUTOK X kR zWP c_wn2 8 ρ0 q_wq22)) (QC_run 300 e_wp22)
theorem et_35 : evt[35]? = some (0, 4294967295, 9) := by decide +kernel
noncomputable def q_wR35 : sCut := ((fr 0 10 53 [] [], [fr 0 5 23 [(4, .int 0)] [], fBot], 7), (fr 0 281 150 [] [], [fr 0 277 91 [(3, .int 0)] [], fBot], 7), [((129, .int 35, .arg 60033), true)], [zi98vc_0, zi98vc_1])
noncomputable def q_wq35 : sCut := ((fr 0 5 0 [(0, tr 57), (1, .int 35), (2, .arg 60033)] [], [fBot], 8), (fr 0 277 60 [(0, tr 219), (1, .arg 1308), (2, .int 35), (4, .arg 60033)] [], [fBot], 8), [zf98vc_2, zf98vc_3, zf98vc_4, zf98vc_5, zf98vc_6, zf98vc_7], [zi98vc_0, zi98vc_1])
noncomputable def q_wq35i : sCut := ((fr 0 5 0 [(0, tr 57), (1, .int 35), (2, .arg 60033)] [], [fBot], 8), (fr 0 277 60 [(0, tr 219), (1, .arg 1308), (2, .int 35), (4, .arg 60033)] [], [fBot], 8), [zf98vc_2, zf98vc_3, zf98vc_4, zf98vc_5, zf98vc_6, zf98vc_7], [([((6, .op2 .land (.arg 60033) (.long 2047), .long 0), false), ((6, .op2 .land (.arg 60033) (.long (-2147485696)), .long 0), true)], (129, .int 35, .arg 60033), true), zi98vc_0, zi98vc_1])
noncomputable def w_wq35i : List (sCut × List (Nat × sT) × List (Nat × sT × List (sT × sT))) := [(q_wR35, [(60033, .arg 60033), (2848, .op2 .ior (.arg 2848) (.int 256)), (6850, .int 0), (6882, .arg 6882), (6914, .arg 6914), (6946, .arg 6946), (7362, .int 0), (7394, .arg 7394), (7426, .arg 7426), (7458, .arg 7458), (7874, .arg 7874), (7906, .arg 7906), (7938, .arg 7938), (7970, .arg 7970), (21216, .arg 21216), (21248, .arg 21248), (21280, .arg 21280), (21312, .arg 21312), (6466, .arg 6466), (6498, .arg 6498)], [(1761, .arg 1761, [(.int 35, .arg 60033)])])]
theorem k_wq35i : cbody kR [] (cpl1 zWP c_wn2 [q_wR35]) (cpl2 zWP c_wn2 [q_wR35]) (cleafB kR zWP c_wn2 w_wq35i) 1500 true true q_wq35i.2.2.1 q_wq35i.2.2.2 (cst zWP c_wn2.2.2.1.1 q_wq35i.1) (cst zWP c_wn2.2.2.1.2 q_wq35i.2.1) = true := by decide +kernel
theorem t_wq35i {X : pX} {ρ0 : sR} (hv : vok X ρ0) : CUTOK X kR zWP c_wn2 8 ρ0 q_wq35i := CUTOK_AT (fun ρ k1 hF hI k4 => AT_of (q := q_wq35i) rfl rfl (SEM_runB kR_x kR_0 (Cs := []) (fun C hC => by cases hC) c_wn2_f (Q := w_wq35i) hv 1500 (b1 := true) (b2 := true) k_wq35i k1 hF hI k4 (fun p hp ρ3 m1 m2 m3 m4 m5 m6 => by
  rw [List.mem_singleton.mp hp] at m2 m3 m5 m6 ⊢
  have y3 : ρ3.2.1 60033 = ρ.2.1 60033 := congrArg Prod.snd (m5 (60033, .arg 60033) List.mem_cons_self)
  have hA : ∀ j, ρ3.2.2.2.1 1761 j = if 35 = j then ρ.2.1 60033 else ρ.2.2.2.1 1761 j := fun j => ad_l (X := X) (p := 35) (t := .arg 60033) rfl (m6 _ List.mem_cons_self) j
  have hk : evk 35 (ρ.2.1 60033).toInt = true := by
    have h := m2.2 _ List.mem_cons_self
    rw [← y3]
    exact h
  have ea : ρ3.1 2848 = (sd X ρ (.op2 .ior (.arg 2848) (.int 256))).1 := congrArg Prod.fst (m5 (2848, .op2 .ior (.arg 2848) (.int 256)) (List.mem_cons_of_mem _ List.mem_cons_self))
  have eL : ρ3.1 60578 = ρ.1 60578 := (m4.1 60578 (by decide) (by decide)).1.trans (k4.1 60578 (by decide) (by decide)).1.symm
  have mo : sc X ρ3 (2, .op2 .iand (.op2 .iushr (.arg 2848) (.int 4)) (.int 1), .arg 60578) = false := by
    show decide (((ρ3.1 2848).toUInt32 >>> ((4 : Int32).toUInt32 &&& (31 : Int32).toUInt32)).toInt32 &&& 1 < ρ3.1 60578) = false
    rw [ea, eL]
    have q := tbv_ok (X := X) (ρ := ρ) (F := []) (a := .op2 .iand (.op2 .iushr (.op2 .ior (.arg 2848) (.int 256)) (.int 4)) (.int 1)) (b := .op2 .iand (.op2 .iushr (.arg 2848) (.int 4)) (.int 1)) ⟨hF.1, fun f hf => by cases hf⟩ (by decide +kernel)
    rw [sv_int rfl, sv_int rfl] at q
    exact mn_e (Value.int.inj q) (of_decide_eq_true (hF.2 _ (List.mem_cons_of_mem _ (List.mem_cons_of_mem _ (List.mem_cons_of_mem _ (List.mem_cons_of_mem _ (List.mem_cons_self)))))))
  exact t_wE2 hv ρ3 m1 ⟨m2.1, fcn (ev_nm (g := ρ.2.2.2.1 1761) (p := 35) (hF.2 _ (List.mem_cons_of_mem _ (List.mem_cons_of_mem _ (List.mem_cons_self)))) hk hA (by decide +kernel)) (fcn (pd_up (X := X) (p := 35) (c := 256) (z := [6850, 7362]) (hF.2 _ (List.mem_cons_of_mem _ (List.mem_cons_of_mem _ (List.mem_cons_of_mem _ (List.mem_cons_self))))) hA (fun x hx => m5 x (List.mem_cons_of_mem _ hx)) k4 m4 wm_2 wb_2 (by decide +kernel)) (fcn (mo) (fnl)))⟩ m3 m4)))
theorem t_wq35 {X : pX} {ρ0 : sR} (hv : vok X ρ0) : CUTOK X kR zWP c_wn2 8 ρ0 q_wq35 := CUT_mono (t_wq35i hv) (fun ρ hF hI => by
  have b0 := rl_lf (x := ρ.2.1 60033) (y := 0) (hF.2 _ (List.mem_cons_self))
  have b1 := rl_lf (x := 4294967295) (y := ρ.2.1 60033) (hF.2 _ (List.mem_cons_of_mem _ (List.mem_cons_self)))
  have y0 : (0 : Int64).toInt = 0 := by decide +kernel
  have y1 : (4294967295 : Int64).toInt = 4294967295 := by decide +kernel
  rw [y0] at b0
  rw [y1] at b1
  exact ⟨hF, ik_c (fun hg => by
    have c0 : ¬ ρ.2.1 60033 &&& 2047 = 0 := of_decide_eq_false (hg _ List.mem_cons_self)
    have c1 : ρ.2.1 60033 &&& (-2147485696) = 0 := of_decide_eq_true (hg _ (List.mem_cons_of_mem _ List.mem_cons_self))
    exact wn_129 (p := 35) (q := 35) rfl et_35 b0 b1 (id_9 b0 b1 c1 c0)) (hI)⟩)
theorem e_wp35 : frun kR [] (cpl1 zWP (c_wp2 35) [q_wq35]) (cpl2 zWP (c_wp2 35) [q_wq35]) (cleaf kR zWP (c_wp2 35) [q_wq35]) 300 65536 (isatP ((c_wp2 35).2.2.2.1) (c_wp2 35).2.2.2.2.2.2.2.1) (c_wp2 35).2.2.2.2.2.2.2.1 (sin0 mt_all (c_wp2 35).1.1 8 (c_wp2 35).2.1.1 (foot zWP (c_wp2 35).2.2.1.1)) (sin0 mt_all (c_wp2 35).1.2.1 8 (c_wp2 35).2.1.2 (foot zWP (c_wp2 35).2.2.1.2)) = true := by decide +kernel
theorem s_wp35 {X : pX} : SREL X pF pdfl mt_all kR zWP (c_wp2 35) := SREL_QC kR_x kR_0 (Cs := []) (fun C hC => by cases hC) (d := 8) rfl (c_wp2_f 35) (Q := [q_wq35]) (fun ρ0 hv => fun q hq => by
    simp only [List.mem_cons, List.not_mem_nil, or_false] at hq
    rw [hq]; exact (t_wq35 hv : CUTOK X kR zWP c_wn2 8 ρ0 q_wq35)) (QC_run 300 e_wp35)
theorem et_39 : evt[39]? = some (0, 4294967295, 9) := by decide +kernel
noncomputable def q_wR39 : sCut := ((fr 0 10 53 [] [], [fr 0 5 23 [(4, .int 0)] [], fBot], 7), (fr 0 281 150 [] [], [fr 0 277 91 [(3, .int 0)] [], fBot], 7), [((129, .int 39, .arg 60033), true)], [zi98vc_0, zi98vc_1])
noncomputable def q_wq39 : sCut := ((fr 0 5 0 [(0, tr 57), (1, .int 39), (2, .arg 60033)] [], [fBot], 8), (fr 0 277 60 [(0, tr 219), (1, .arg 1308), (2, .int 39), (4, .arg 60033)] [], [fBot], 8), [zf98vc_2, zf98vc_3, zf98vc_4, zf98vc_5, zf98vc_6, zf98vc_7], [zi98vc_0, zi98vc_1])
noncomputable def q_wq39i : sCut := ((fr 0 5 0 [(0, tr 57), (1, .int 39), (2, .arg 60033)] [], [fBot], 8), (fr 0 277 60 [(0, tr 219), (1, .arg 1308), (2, .int 39), (4, .arg 60033)] [], [fBot], 8), [zf98vc_2, zf98vc_3, zf98vc_4, zf98vc_5, zf98vc_6, zf98vc_7], [([((6, .op2 .land (.arg 60033) (.long 2047), .long 0), false), ((6, .op2 .land (.arg 60033) (.long (-2147485696)), .long 0), true)], (129, .int 39, .arg 60033), true), zi98vc_0, zi98vc_1])
noncomputable def w_wq39i : List (sCut × List (Nat × sT) × List (Nat × sT × List (sT × sT))) := [(q_wR39, [(60033, .arg 60033), (2848, .op2 .ior (.arg 2848) (.int 512)), (6850, .arg 6850), (6882, .int 0), (6914, .arg 6914), (6946, .arg 6946), (7362, .arg 7362), (7394, .int 0), (7426, .arg 7426), (7458, .arg 7458), (7874, .arg 7874), (7906, .arg 7906), (7938, .arg 7938), (7970, .arg 7970), (21216, .arg 21216), (21248, .arg 21248), (21280, .arg 21280), (21312, .arg 21312), (6466, .arg 6466), (6498, .arg 6498)], [(1761, .arg 1761, [(.int 39, .arg 60033)])])]
theorem k_wq39i : cbody kR [] (cpl1 zWP c_wn2 [q_wR39]) (cpl2 zWP c_wn2 [q_wR39]) (cleafB kR zWP c_wn2 w_wq39i) 1500 true true q_wq39i.2.2.1 q_wq39i.2.2.2 (cst zWP c_wn2.2.2.1.1 q_wq39i.1) (cst zWP c_wn2.2.2.1.2 q_wq39i.2.1) = true := by decide +kernel
theorem t_wq39i {X : pX} {ρ0 : sR} (hv : vok X ρ0) : CUTOK X kR zWP c_wn2 8 ρ0 q_wq39i := CUTOK_AT (fun ρ k1 hF hI k4 => AT_of (q := q_wq39i) rfl rfl (SEM_runB kR_x kR_0 (Cs := []) (fun C hC => by cases hC) c_wn2_f (Q := w_wq39i) hv 1500 (b1 := true) (b2 := true) k_wq39i k1 hF hI k4 (fun p hp ρ3 m1 m2 m3 m4 m5 m6 => by
  rw [List.mem_singleton.mp hp] at m2 m3 m5 m6 ⊢
  have y3 : ρ3.2.1 60033 = ρ.2.1 60033 := congrArg Prod.snd (m5 (60033, .arg 60033) List.mem_cons_self)
  have hA : ∀ j, ρ3.2.2.2.1 1761 j = if 39 = j then ρ.2.1 60033 else ρ.2.2.2.1 1761 j := fun j => ad_l (X := X) (p := 39) (t := .arg 60033) rfl (m6 _ List.mem_cons_self) j
  have hk : evk 39 (ρ.2.1 60033).toInt = true := by
    have h := m2.2 _ List.mem_cons_self
    rw [← y3]
    exact h
  have ea : ρ3.1 2848 = (sd X ρ (.op2 .ior (.arg 2848) (.int 512))).1 := congrArg Prod.fst (m5 (2848, .op2 .ior (.arg 2848) (.int 512)) (List.mem_cons_of_mem _ List.mem_cons_self))
  have eL : ρ3.1 60578 = ρ.1 60578 := (m4.1 60578 (by decide) (by decide)).1.trans (k4.1 60578 (by decide) (by decide)).1.symm
  have mo : sc X ρ3 (2, .op2 .iand (.op2 .iushr (.arg 2848) (.int 4)) (.int 1), .arg 60578) = false := by
    show decide (((ρ3.1 2848).toUInt32 >>> ((4 : Int32).toUInt32 &&& (31 : Int32).toUInt32)).toInt32 &&& 1 < ρ3.1 60578) = false
    rw [ea, eL]
    have q := tbv_ok (X := X) (ρ := ρ) (F := []) (a := .op2 .iand (.op2 .iushr (.op2 .ior (.arg 2848) (.int 512)) (.int 4)) (.int 1)) (b := .op2 .iand (.op2 .iushr (.arg 2848) (.int 4)) (.int 1)) ⟨hF.1, fun f hf => by cases hf⟩ (by decide +kernel)
    rw [sv_int rfl, sv_int rfl] at q
    exact mn_e (Value.int.inj q) (of_decide_eq_true (hF.2 _ (List.mem_cons_of_mem _ (List.mem_cons_of_mem _ (List.mem_cons_of_mem _ (List.mem_cons_of_mem _ (List.mem_cons_self)))))))
  exact t_wE2 hv ρ3 m1 ⟨m2.1, fcn (ev_nm (g := ρ.2.2.2.1 1761) (p := 39) (hF.2 _ (List.mem_cons_of_mem _ (List.mem_cons_of_mem _ (List.mem_cons_self)))) hk hA (by decide +kernel)) (fcn (pd_up (X := X) (p := 39) (c := 512) (z := [6882, 7394]) (hF.2 _ (List.mem_cons_of_mem _ (List.mem_cons_of_mem _ (List.mem_cons_of_mem _ (List.mem_cons_self))))) hA (fun x hx => m5 x (List.mem_cons_of_mem _ hx)) k4 m4 wm_2 wb_2 (by decide +kernel)) (fcn (mo) (fnl)))⟩ m3 m4)))
theorem t_wq39 {X : pX} {ρ0 : sR} (hv : vok X ρ0) : CUTOK X kR zWP c_wn2 8 ρ0 q_wq39 := CUT_mono (t_wq39i hv) (fun ρ hF hI => by
  have b0 := rl_lf (x := ρ.2.1 60033) (y := 0) (hF.2 _ (List.mem_cons_self))
  have b1 := rl_lf (x := 4294967295) (y := ρ.2.1 60033) (hF.2 _ (List.mem_cons_of_mem _ (List.mem_cons_self)))
  have y0 : (0 : Int64).toInt = 0 := by decide +kernel
  have y1 : (4294967295 : Int64).toInt = 4294967295 := by decide +kernel
  rw [y0] at b0
  rw [y1] at b1
  exact ⟨hF, ik_c (fun hg => by
    have c0 : ¬ ρ.2.1 60033 &&& 2047 = 0 := of_decide_eq_false (hg _ List.mem_cons_self)
    have c1 : ρ.2.1 60033 &&& (-2147485696) = 0 := of_decide_eq_true (hg _ (List.mem_cons_of_mem _ List.mem_cons_self))
    exact wn_129 (p := 39) (q := 39) rfl et_39 b0 b1 (id_9 b0 b1 c1 c0)) (hI)⟩)
theorem e_wp39 : frun kR [] (cpl1 zWP (c_wp2 39) [q_wq39]) (cpl2 zWP (c_wp2 39) [q_wq39]) (cleaf kR zWP (c_wp2 39) [q_wq39]) 300 65536 (isatP ((c_wp2 39).2.2.2.1) (c_wp2 39).2.2.2.2.2.2.2.1) (c_wp2 39).2.2.2.2.2.2.2.1 (sin0 mt_all (c_wp2 39).1.1 8 (c_wp2 39).2.1.1 (foot zWP (c_wp2 39).2.2.1.1)) (sin0 mt_all (c_wp2 39).1.2.1 8 (c_wp2 39).2.1.2 (foot zWP (c_wp2 39).2.2.1.2)) = true := by decide +kernel
theorem s_wp39 {X : pX} : SREL X pF pdfl mt_all kR zWP (c_wp2 39) := SREL_QC kR_x kR_0 (Cs := []) (fun C hC => by cases hC) (d := 8) rfl (c_wp2_f 39) (Q := [q_wq39]) (fun ρ0 hv => fun q hq => by
    simp only [List.mem_cons, List.not_mem_nil, or_false] at hq
    rw [hq]; exact (t_wq39 hv : CUTOK X kR zWP c_wn2 8 ρ0 q_wq39)) (QC_run 300 e_wp39)
theorem et_43 : evt[43]? = some (0, 4294967295, 9) := by decide +kernel
noncomputable def q_wR43 : sCut := ((fr 0 10 53 [] [], [fr 0 5 23 [(4, .int 0)] [], fBot], 7), (fr 0 281 150 [] [], [fr 0 277 91 [(3, .int 0)] [], fBot], 7), [((129, .int 43, .arg 60033), true)], [zi98vc_0, zi98vc_1])
noncomputable def q_wq43 : sCut := ((fr 0 5 0 [(0, tr 57), (1, .int 43), (2, .arg 60033)] [], [fBot], 8), (fr 0 277 60 [(0, tr 219), (1, .arg 1308), (2, .int 43), (4, .arg 60033)] [], [fBot], 8), [zf98vc_2, zf98vc_3, zf98vc_4, zf98vc_5, zf98vc_6, zf98vc_7], [zi98vc_0, zi98vc_1])
noncomputable def q_wq43i : sCut := ((fr 0 5 0 [(0, tr 57), (1, .int 43), (2, .arg 60033)] [], [fBot], 8), (fr 0 277 60 [(0, tr 219), (1, .arg 1308), (2, .int 43), (4, .arg 60033)] [], [fBot], 8), [zf98vc_2, zf98vc_3, zf98vc_4, zf98vc_5, zf98vc_6, zf98vc_7], [([((6, .op2 .land (.arg 60033) (.long 2047), .long 0), false), ((6, .op2 .land (.arg 60033) (.long (-2147485696)), .long 0), true)], (129, .int 43, .arg 60033), true), zi98vc_0, zi98vc_1])
noncomputable def w_wq43i : List (sCut × List (Nat × sT) × List (Nat × sT × List (sT × sT))) := [(q_wR43, [(60033, .arg 60033), (2848, .op2 .ior (.arg 2848) (.int 1024)), (6850, .arg 6850), (6882, .arg 6882), (6914, .int 0), (6946, .arg 6946), (7362, .arg 7362), (7394, .arg 7394), (7426, .int 0), (7458, .arg 7458), (7874, .arg 7874), (7906, .arg 7906), (7938, .arg 7938), (7970, .arg 7970), (21216, .arg 21216), (21248, .arg 21248), (21280, .arg 21280), (21312, .arg 21312), (6466, .arg 6466), (6498, .arg 6498)], [(1761, .arg 1761, [(.int 43, .arg 60033)])])]
theorem k_wq43i : cbody kR [] (cpl1 zWP c_wn2 [q_wR43]) (cpl2 zWP c_wn2 [q_wR43]) (cleafB kR zWP c_wn2 w_wq43i) 1500 true true q_wq43i.2.2.1 q_wq43i.2.2.2 (cst zWP c_wn2.2.2.1.1 q_wq43i.1) (cst zWP c_wn2.2.2.1.2 q_wq43i.2.1) = true := by decide +kernel
theorem t_wq43i {X : pX} {ρ0 : sR} (hv : vok X ρ0) : CUTOK X kR zWP c_wn2 8 ρ0 q_wq43i := CUTOK_AT (fun ρ k1 hF hI k4 => AT_of (q := q_wq43i) rfl rfl (SEM_runB kR_x kR_0 (Cs := []) (fun C hC => by cases hC) c_wn2_f (Q := w_wq43i) hv 1500 (b1 := true) (b2 := true) k_wq43i k1 hF hI k4 (fun p hp ρ3 m1 m2 m3 m4 m5 m6 => by
  rw [List.mem_singleton.mp hp] at m2 m3 m5 m6 ⊢
  have y3 : ρ3.2.1 60033 = ρ.2.1 60033 := congrArg Prod.snd (m5 (60033, .arg 60033) List.mem_cons_self)
  have hA : ∀ j, ρ3.2.2.2.1 1761 j = if 43 = j then ρ.2.1 60033 else ρ.2.2.2.1 1761 j := fun j => ad_l (X := X) (p := 43) (t := .arg 60033) rfl (m6 _ List.mem_cons_self) j
  have hk : evk 43 (ρ.2.1 60033).toInt = true := by
    have h := m2.2 _ List.mem_cons_self
    rw [← y3]
    exact h
  have ea : ρ3.1 2848 = (sd X ρ (.op2 .ior (.arg 2848) (.int 1024))).1 := congrArg Prod.fst (m5 (2848, .op2 .ior (.arg 2848) (.int 1024)) (List.mem_cons_of_mem _ List.mem_cons_self))
  have eL : ρ3.1 60578 = ρ.1 60578 := (m4.1 60578 (by decide) (by decide)).1.trans (k4.1 60578 (by decide) (by decide)).1.symm
  have mo : sc X ρ3 (2, .op2 .iand (.op2 .iushr (.arg 2848) (.int 4)) (.int 1), .arg 60578) = false := by
    show decide (((ρ3.1 2848).toUInt32 >>> ((4 : Int32).toUInt32 &&& (31 : Int32).toUInt32)).toInt32 &&& 1 < ρ3.1 60578) = false
    rw [ea, eL]
    have q := tbv_ok (X := X) (ρ := ρ) (F := []) (a := .op2 .iand (.op2 .iushr (.op2 .ior (.arg 2848) (.int 1024)) (.int 4)) (.int 1)) (b := .op2 .iand (.op2 .iushr (.arg 2848) (.int 4)) (.int 1)) ⟨hF.1, fun f hf => by cases hf⟩ (by decide +kernel)
    rw [sv_int rfl, sv_int rfl] at q
    exact mn_e (Value.int.inj q) (of_decide_eq_true (hF.2 _ (List.mem_cons_of_mem _ (List.mem_cons_of_mem _ (List.mem_cons_of_mem _ (List.mem_cons_of_mem _ (List.mem_cons_self)))))))
  exact t_wE2 hv ρ3 m1 ⟨m2.1, fcn (ev_nm (g := ρ.2.2.2.1 1761) (p := 43) (hF.2 _ (List.mem_cons_of_mem _ (List.mem_cons_of_mem _ (List.mem_cons_self)))) hk hA (by decide +kernel)) (fcn (pd_up (X := X) (p := 43) (c := 1024) (z := [6914, 7426]) (hF.2 _ (List.mem_cons_of_mem _ (List.mem_cons_of_mem _ (List.mem_cons_of_mem _ (List.mem_cons_self))))) hA (fun x hx => m5 x (List.mem_cons_of_mem _ hx)) k4 m4 wm_2 wb_2 (by decide +kernel)) (fcn (mo) (fnl)))⟩ m3 m4)))
theorem t_wq43 {X : pX} {ρ0 : sR} (hv : vok X ρ0) : CUTOK X kR zWP c_wn2 8 ρ0 q_wq43 := CUT_mono (t_wq43i hv) (fun ρ hF hI => by
  have b0 := rl_lf (x := ρ.2.1 60033) (y := 0) (hF.2 _ (List.mem_cons_self))
  have b1 := rl_lf (x := 4294967295) (y := ρ.2.1 60033) (hF.2 _ (List.mem_cons_of_mem _ (List.mem_cons_self)))
  have y0 : (0 : Int64).toInt = 0 := by decide +kernel
  have y1 : (4294967295 : Int64).toInt = 4294967295 := by decide +kernel
  rw [y0] at b0
  rw [y1] at b1
  exact ⟨hF, ik_c (fun hg => by
    have c0 : ¬ ρ.2.1 60033 &&& 2047 = 0 := of_decide_eq_false (hg _ List.mem_cons_self)
    have c1 : ρ.2.1 60033 &&& (-2147485696) = 0 := of_decide_eq_true (hg _ (List.mem_cons_of_mem _ List.mem_cons_self))
    exact wn_129 (p := 43) (q := 43) rfl et_43 b0 b1 (id_9 b0 b1 c1 c0)) (hI)⟩)
theorem e_wp43 : frun kR [] (cpl1 zWP (c_wp2 43) [q_wq43]) (cpl2 zWP (c_wp2 43) [q_wq43]) (cleaf kR zWP (c_wp2 43) [q_wq43]) 300 65536 (isatP ((c_wp2 43).2.2.2.1) (c_wp2 43).2.2.2.2.2.2.2.1) (c_wp2 43).2.2.2.2.2.2.2.1 (sin0 mt_all (c_wp2 43).1.1 8 (c_wp2 43).2.1.1 (foot zWP (c_wp2 43).2.2.1.1)) (sin0 mt_all (c_wp2 43).1.2.1 8 (c_wp2 43).2.1.2 (foot zWP (c_wp2 43).2.2.1.2)) = true := by decide +kernel
theorem s_wp43 {X : pX} : SREL X pF pdfl mt_all kR zWP (c_wp2 43) := SREL_QC kR_x kR_0 (Cs := []) (fun C hC => by cases hC) (d := 8) rfl (c_wp2_f 43) (Q := [q_wq43]) (fun ρ0 hv => fun q hq => by
    simp only [List.mem_cons, List.not_mem_nil, or_false] at hq
    rw [hq]; exact (t_wq43 hv : CUTOK X kR zWP c_wn2 8 ρ0 q_wq43)) (QC_run 300 e_wp43)
theorem et_47 : evt[47]? = some (0, 4294967295, 9) := by decide +kernel
noncomputable def q_wR47 : sCut := ((fr 0 10 53 [] [], [fr 0 5 23 [(4, .int 0)] [], fBot], 7), (fr 0 281 150 [] [], [fr 0 277 91 [(3, .int 0)] [], fBot], 7), [((129, .int 47, .arg 60033), true)], [zi98vc_0, zi98vc_1])
noncomputable def q_wq47 : sCut := ((fr 0 5 0 [(0, tr 57), (1, .int 47), (2, .arg 60033)] [], [fBot], 8), (fr 0 277 60 [(0, tr 219), (1, .arg 1308), (2, .int 47), (4, .arg 60033)] [], [fBot], 8), [zf98vc_2, zf98vc_3, zf98vc_4, zf98vc_5, zf98vc_6, zf98vc_7], [zi98vc_0, zi98vc_1])
noncomputable def q_wq47i : sCut := ((fr 0 5 0 [(0, tr 57), (1, .int 47), (2, .arg 60033)] [], [fBot], 8), (fr 0 277 60 [(0, tr 219), (1, .arg 1308), (2, .int 47), (4, .arg 60033)] [], [fBot], 8), [zf98vc_2, zf98vc_3, zf98vc_4, zf98vc_5, zf98vc_6, zf98vc_7], [([((6, .op2 .land (.arg 60033) (.long 2047), .long 0), false), ((6, .op2 .land (.arg 60033) (.long (-2147485696)), .long 0), true)], (129, .int 47, .arg 60033), true), zi98vc_0, zi98vc_1])
noncomputable def w_wq47i : List (sCut × List (Nat × sT) × List (Nat × sT × List (sT × sT))) := [(q_wR47, [(60033, .arg 60033), (2848, .op2 .ior (.arg 2848) (.int 2048)), (6850, .arg 6850), (6882, .arg 6882), (6914, .arg 6914), (6946, .int 0), (7362, .arg 7362), (7394, .arg 7394), (7426, .arg 7426), (7458, .int 0), (7874, .arg 7874), (7906, .arg 7906), (7938, .arg 7938), (7970, .arg 7970), (21216, .arg 21216), (21248, .arg 21248), (21280, .arg 21280), (21312, .arg 21312), (6466, .arg 6466), (6498, .arg 6498)], [(1761, .arg 1761, [(.int 47, .arg 60033)])])]
theorem k_wq47i : cbody kR [] (cpl1 zWP c_wn2 [q_wR47]) (cpl2 zWP c_wn2 [q_wR47]) (cleafB kR zWP c_wn2 w_wq47i) 1500 true true q_wq47i.2.2.1 q_wq47i.2.2.2 (cst zWP c_wn2.2.2.1.1 q_wq47i.1) (cst zWP c_wn2.2.2.1.2 q_wq47i.2.1) = true := by decide +kernel
theorem t_wq47i {X : pX} {ρ0 : sR} (hv : vok X ρ0) : CUTOK X kR zWP c_wn2 8 ρ0 q_wq47i := CUTOK_AT (fun ρ k1 hF hI k4 => AT_of (q := q_wq47i) rfl rfl (SEM_runB kR_x kR_0 (Cs := []) (fun C hC => by cases hC) c_wn2_f (Q := w_wq47i) hv 1500 (b1 := true) (b2 := true) k_wq47i k1 hF hI k4 (fun p hp ρ3 m1 m2 m3 m4 m5 m6 => by
  rw [List.mem_singleton.mp hp] at m2 m3 m5 m6 ⊢
  have y3 : ρ3.2.1 60033 = ρ.2.1 60033 := congrArg Prod.snd (m5 (60033, .arg 60033) List.mem_cons_self)
  have hA : ∀ j, ρ3.2.2.2.1 1761 j = if 47 = j then ρ.2.1 60033 else ρ.2.2.2.1 1761 j := fun j => ad_l (X := X) (p := 47) (t := .arg 60033) rfl (m6 _ List.mem_cons_self) j
  have hk : evk 47 (ρ.2.1 60033).toInt = true := by
    have h := m2.2 _ List.mem_cons_self
    rw [← y3]
    exact h
  have ea : ρ3.1 2848 = (sd X ρ (.op2 .ior (.arg 2848) (.int 2048))).1 := congrArg Prod.fst (m5 (2848, .op2 .ior (.arg 2848) (.int 2048)) (List.mem_cons_of_mem _ List.mem_cons_self))
  have eL : ρ3.1 60578 = ρ.1 60578 := (m4.1 60578 (by decide) (by decide)).1.trans (k4.1 60578 (by decide) (by decide)).1.symm
  have mo : sc X ρ3 (2, .op2 .iand (.op2 .iushr (.arg 2848) (.int 4)) (.int 1), .arg 60578) = false := by
    show decide (((ρ3.1 2848).toUInt32 >>> ((4 : Int32).toUInt32 &&& (31 : Int32).toUInt32)).toInt32 &&& 1 < ρ3.1 60578) = false
    rw [ea, eL]
    have q := tbv_ok (X := X) (ρ := ρ) (F := []) (a := .op2 .iand (.op2 .iushr (.op2 .ior (.arg 2848) (.int 2048)) (.int 4)) (.int 1)) (b := .op2 .iand (.op2 .iushr (.arg 2848) (.int 4)) (.int 1)) ⟨hF.1, fun f hf => by cases hf⟩ (by decide +kernel)
    rw [sv_int rfl, sv_int rfl] at q
    exact mn_e (Value.int.inj q) (of_decide_eq_true (hF.2 _ (List.mem_cons_of_mem _ (List.mem_cons_of_mem _ (List.mem_cons_of_mem _ (List.mem_cons_of_mem _ (List.mem_cons_self)))))))
  exact t_wE2 hv ρ3 m1 ⟨m2.1, fcn (ev_nm (g := ρ.2.2.2.1 1761) (p := 47) (hF.2 _ (List.mem_cons_of_mem _ (List.mem_cons_of_mem _ (List.mem_cons_self)))) hk hA (by decide +kernel)) (fcn (pd_up (X := X) (p := 47) (c := 2048) (z := [6946, 7458]) (hF.2 _ (List.mem_cons_of_mem _ (List.mem_cons_of_mem _ (List.mem_cons_of_mem _ (List.mem_cons_self))))) hA (fun x hx => m5 x (List.mem_cons_of_mem _ hx)) k4 m4 wm_2 wb_2 (by decide +kernel)) (fcn (mo) (fnl)))⟩ m3 m4)))
theorem t_wq47 {X : pX} {ρ0 : sR} (hv : vok X ρ0) : CUTOK X kR zWP c_wn2 8 ρ0 q_wq47 := CUT_mono (t_wq47i hv) (fun ρ hF hI => by
  have b0 := rl_lf (x := ρ.2.1 60033) (y := 0) (hF.2 _ (List.mem_cons_self))
  have b1 := rl_lf (x := 4294967295) (y := ρ.2.1 60033) (hF.2 _ (List.mem_cons_of_mem _ (List.mem_cons_self)))
  have y0 : (0 : Int64).toInt = 0 := by decide +kernel
  have y1 : (4294967295 : Int64).toInt = 4294967295 := by decide +kernel
  rw [y0] at b0
  rw [y1] at b1
  exact ⟨hF, ik_c (fun hg => by
    have c0 : ¬ ρ.2.1 60033 &&& 2047 = 0 := of_decide_eq_false (hg _ List.mem_cons_self)
    have c1 : ρ.2.1 60033 &&& (-2147485696) = 0 := of_decide_eq_true (hg _ (List.mem_cons_of_mem _ List.mem_cons_self))
    exact wn_129 (p := 47) (q := 47) rfl et_47 b0 b1 (id_9 b0 b1 c1 c0)) (hI)⟩)
theorem e_wp47 : frun kR [] (cpl1 zWP (c_wp2 47) [q_wq47]) (cpl2 zWP (c_wp2 47) [q_wq47]) (cleaf kR zWP (c_wp2 47) [q_wq47]) 300 65536 (isatP ((c_wp2 47).2.2.2.1) (c_wp2 47).2.2.2.2.2.2.2.1) (c_wp2 47).2.2.2.2.2.2.2.1 (sin0 mt_all (c_wp2 47).1.1 8 (c_wp2 47).2.1.1 (foot zWP (c_wp2 47).2.2.1.1)) (sin0 mt_all (c_wp2 47).1.2.1 8 (c_wp2 47).2.1.2 (foot zWP (c_wp2 47).2.2.1.2)) = true := by decide +kernel
theorem s_wp47 {X : pX} : SREL X pF pdfl mt_all kR zWP (c_wp2 47) := SREL_QC kR_x kR_0 (Cs := []) (fun C hC => by cases hC) (d := 8) rfl (c_wp2_f 47) (Q := [q_wq47]) (fun ρ0 hv => fun q hq => by
    simp only [List.mem_cons, List.not_mem_nil, or_false] at hq
    rw [hq]; exact (t_wq47 hv : CUTOK X kR zWP c_wn2 8 ρ0 q_wq47)) (QC_run 300 e_wp47)
theorem et_71 : evt[71]? = some (0, 4294967295, 9) := by decide +kernel
noncomputable def q_wR71 : sCut := ((fr 0 10 53 [] [], [fr 0 5 23 [(4, .int 0)] [], fBot], 7), (fr 0 281 150 [] [], [fr 0 277 91 [(3, .int 0)] [], fBot], 7), [((129, .int 71, .arg 60033), true)], [zi98vc_0, zi98vc_1])
noncomputable def q_wq71 : sCut := ((fr 0 5 0 [(0, tr 57), (1, .int 71), (2, .arg 60033)] [], [fBot], 8), (fr 0 277 60 [(0, tr 219), (1, .arg 1308), (2, .int 71), (4, .arg 60033)] [], [fBot], 8), [zf98vc_2, zf98vc_3, zf98vc_4, zf98vc_5, zf98vc_6, zf98vc_7], [zi98vc_0, zi98vc_1])
noncomputable def q_wq71i : sCut := ((fr 0 5 0 [(0, tr 57), (1, .int 71), (2, .arg 60033)] [], [fBot], 8), (fr 0 277 60 [(0, tr 219), (1, .arg 1308), (2, .int 71), (4, .arg 60033)] [], [fBot], 8), [zf98vc_2, zf98vc_3, zf98vc_4, zf98vc_5, zf98vc_6, zf98vc_7], [([((6, .op2 .land (.arg 60033) (.long 2047), .long 0), false), ((6, .op2 .land (.arg 60033) (.long (-2147485696)), .long 0), true)], (129, .int 71, .arg 60033), true), zi98vc_0, zi98vc_1])
noncomputable def w_wq71i : List (sCut × List (Nat × sT) × List (Nat × sT × List (sT × sT))) := [(q_wR71, [(60033, .arg 60033), (2848, .op2 .ior (.arg 2848) (.int 4096)), (6850, .arg 6850), (6882, .arg 6882), (6914, .arg 6914), (6946, .arg 6946), (7362, .arg 7362), (7394, .arg 7394), (7426, .arg 7426), (7458, .arg 7458), (7874, .int 0), (7906, .arg 7906), (7938, .arg 7938), (7970, .arg 7970), (21216, .int 0), (21248, .arg 21248), (21280, .arg 21280), (21312, .arg 21312), (6466, .arg 6466), (6498, .arg 6498)], [(1761, .arg 1761, [(.int 71, .arg 60033)])])]
theorem k_wq71i : cbody kR [] (cpl1 zWP c_wn2 [q_wR71]) (cpl2 zWP c_wn2 [q_wR71]) (cleafB kR zWP c_wn2 w_wq71i) 1500 true true q_wq71i.2.2.1 q_wq71i.2.2.2 (cst zWP c_wn2.2.2.1.1 q_wq71i.1) (cst zWP c_wn2.2.2.1.2 q_wq71i.2.1) = true := by decide +kernel
theorem t_wq71i {X : pX} {ρ0 : sR} (hv : vok X ρ0) : CUTOK X kR zWP c_wn2 8 ρ0 q_wq71i := CUTOK_AT (fun ρ k1 hF hI k4 => AT_of (q := q_wq71i) rfl rfl (SEM_runB kR_x kR_0 (Cs := []) (fun C hC => by cases hC) c_wn2_f (Q := w_wq71i) hv 1500 (b1 := true) (b2 := true) k_wq71i k1 hF hI k4 (fun p hp ρ3 m1 m2 m3 m4 m5 m6 => by
  rw [List.mem_singleton.mp hp] at m2 m3 m5 m6 ⊢
  have y3 : ρ3.2.1 60033 = ρ.2.1 60033 := congrArg Prod.snd (m5 (60033, .arg 60033) List.mem_cons_self)
  have hA : ∀ j, ρ3.2.2.2.1 1761 j = if 71 = j then ρ.2.1 60033 else ρ.2.2.2.1 1761 j := fun j => ad_l (X := X) (p := 71) (t := .arg 60033) rfl (m6 _ List.mem_cons_self) j
  have hk : evk 71 (ρ.2.1 60033).toInt = true := by
    have h := m2.2 _ List.mem_cons_self
    rw [← y3]
    exact h
  have ea : ρ3.1 2848 = (sd X ρ (.op2 .ior (.arg 2848) (.int 4096))).1 := congrArg Prod.fst (m5 (2848, .op2 .ior (.arg 2848) (.int 4096)) (List.mem_cons_of_mem _ List.mem_cons_self))
  have eL : ρ3.1 60578 = ρ.1 60578 := (m4.1 60578 (by decide) (by decide)).1.trans (k4.1 60578 (by decide) (by decide)).1.symm
  have mo : sc X ρ3 (2, .op2 .iand (.op2 .iushr (.arg 2848) (.int 4)) (.int 1), .arg 60578) = false := by
    show decide (((ρ3.1 2848).toUInt32 >>> ((4 : Int32).toUInt32 &&& (31 : Int32).toUInt32)).toInt32 &&& 1 < ρ3.1 60578) = false
    rw [ea, eL]
    have q := tbv_ok (X := X) (ρ := ρ) (F := []) (a := .op2 .iand (.op2 .iushr (.op2 .ior (.arg 2848) (.int 4096)) (.int 4)) (.int 1)) (b := .op2 .iand (.op2 .iushr (.arg 2848) (.int 4)) (.int 1)) ⟨hF.1, fun f hf => by cases hf⟩ (by decide +kernel)
    rw [sv_int rfl, sv_int rfl] at q
    exact mn_e (Value.int.inj q) (of_decide_eq_true (hF.2 _ (List.mem_cons_of_mem _ (List.mem_cons_of_mem _ (List.mem_cons_of_mem _ (List.mem_cons_of_mem _ (List.mem_cons_self)))))))
  exact t_wE2 hv ρ3 m1 ⟨m2.1, fcn (ev_nm (g := ρ.2.2.2.1 1761) (p := 71) (hF.2 _ (List.mem_cons_of_mem _ (List.mem_cons_of_mem _ (List.mem_cons_self)))) hk hA (by decide +kernel)) (fcn (pd_up (X := X) (p := 71) (c := 4096) (z := [7874, 21216]) (hF.2 _ (List.mem_cons_of_mem _ (List.mem_cons_of_mem _ (List.mem_cons_of_mem _ (List.mem_cons_self))))) hA (fun x hx => m5 x (List.mem_cons_of_mem _ hx)) k4 m4 wm_2 wb_2 (by decide +kernel)) (fcn (mo) (fnl)))⟩ m3 m4)))
theorem t_wq71 {X : pX} {ρ0 : sR} (hv : vok X ρ0) : CUTOK X kR zWP c_wn2 8 ρ0 q_wq71 := CUT_mono (t_wq71i hv) (fun ρ hF hI => by
  have b0 := rl_lf (x := ρ.2.1 60033) (y := 0) (hF.2 _ (List.mem_cons_self))
  have b1 := rl_lf (x := 4294967295) (y := ρ.2.1 60033) (hF.2 _ (List.mem_cons_of_mem _ (List.mem_cons_self)))
  have y0 : (0 : Int64).toInt = 0 := by decide +kernel
  have y1 : (4294967295 : Int64).toInt = 4294967295 := by decide +kernel
  rw [y0] at b0
  rw [y1] at b1
  exact ⟨hF, ik_c (fun hg => by
    have c0 : ¬ ρ.2.1 60033 &&& 2047 = 0 := of_decide_eq_false (hg _ List.mem_cons_self)
    have c1 : ρ.2.1 60033 &&& (-2147485696) = 0 := of_decide_eq_true (hg _ (List.mem_cons_of_mem _ List.mem_cons_self))
    exact wn_129 (p := 71) (q := 71) rfl et_71 b0 b1 (id_9 b0 b1 c1 c0)) (hI)⟩)
theorem e_wp71 : frun kR [] (cpl1 zWP (c_wp2 71) [q_wq71]) (cpl2 zWP (c_wp2 71) [q_wq71]) (cleaf kR zWP (c_wp2 71) [q_wq71]) 300 65536 (isatP ((c_wp2 71).2.2.2.1) (c_wp2 71).2.2.2.2.2.2.2.1) (c_wp2 71).2.2.2.2.2.2.2.1 (sin0 mt_all (c_wp2 71).1.1 8 (c_wp2 71).2.1.1 (foot zWP (c_wp2 71).2.2.1.1)) (sin0 mt_all (c_wp2 71).1.2.1 8 (c_wp2 71).2.1.2 (foot zWP (c_wp2 71).2.2.1.2)) = true := by decide +kernel
theorem s_wp71 {X : pX} : SREL X pF pdfl mt_all kR zWP (c_wp2 71) := SREL_QC kR_x kR_0 (Cs := []) (fun C hC => by cases hC) (d := 8) rfl (c_wp2_f 71) (Q := [q_wq71]) (fun ρ0 hv => fun q hq => by
    simp only [List.mem_cons, List.not_mem_nil, or_false] at hq
    rw [hq]; exact (t_wq71 hv : CUTOK X kR zWP c_wn2 8 ρ0 q_wq71)) (QC_run 300 e_wp71)
theorem et_76 : evt[76]? = some (0, 4294967295, 9) := by decide +kernel
noncomputable def q_wR76 : sCut := ((fr 0 10 53 [] [], [fr 0 5 23 [(4, .int 0)] [], fBot], 7), (fr 0 281 150 [] [], [fr 0 277 91 [(3, .int 0)] [], fBot], 7), [((129, .int 76, .arg 60033), true)], [zi98vc_0, zi98vc_1])
noncomputable def q_wq76 : sCut := ((fr 0 5 0 [(0, tr 57), (1, .int 76), (2, .arg 60033)] [], [fBot], 8), (fr 0 277 60 [(0, tr 219), (1, .arg 1308), (2, .int 76), (4, .arg 60033)] [], [fBot], 8), [zf98vc_2, zf98vc_3, zf98vc_4, zf98vc_5, zf98vc_6, zf98vc_7], [zi98vc_0, zi98vc_1])
noncomputable def q_wq76i : sCut := ((fr 0 5 0 [(0, tr 57), (1, .int 76), (2, .arg 60033)] [], [fBot], 8), (fr 0 277 60 [(0, tr 219), (1, .arg 1308), (2, .int 76), (4, .arg 60033)] [], [fBot], 8), [zf98vc_2, zf98vc_3, zf98vc_4, zf98vc_5, zf98vc_6, zf98vc_7], [([((6, .op2 .land (.arg 60033) (.long 2047), .long 0), false), ((6, .op2 .land (.arg 60033) (.long (-2147485696)), .long 0), true)], (129, .int 76, .arg 60033), true), zi98vc_0, zi98vc_1])
noncomputable def w_wq76i : List (sCut × List (Nat × sT) × List (Nat × sT × List (sT × sT))) := [(q_wR76, [(60033, .arg 60033), (2848, .op2 .ior (.arg 2848) (.int 8192)), (6850, .arg 6850), (6882, .arg 6882), (6914, .arg 6914), (6946, .arg 6946), (7362, .arg 7362), (7394, .arg 7394), (7426, .arg 7426), (7458, .arg 7458), (7874, .arg 7874), (7906, .int 0), (7938, .arg 7938), (7970, .arg 7970), (21216, .arg 21216), (21248, .int 0), (21280, .arg 21280), (21312, .arg 21312), (6466, .arg 6466), (6498, .arg 6498)], [(1761, .arg 1761, [(.int 76, .arg 60033)])])]
theorem k_wq76i : cbody kR [] (cpl1 zWP c_wn2 [q_wR76]) (cpl2 zWP c_wn2 [q_wR76]) (cleafB kR zWP c_wn2 w_wq76i) 1500 true true q_wq76i.2.2.1 q_wq76i.2.2.2 (cst zWP c_wn2.2.2.1.1 q_wq76i.1) (cst zWP c_wn2.2.2.1.2 q_wq76i.2.1) = true := by decide +kernel
theorem t_wq76i {X : pX} {ρ0 : sR} (hv : vok X ρ0) : CUTOK X kR zWP c_wn2 8 ρ0 q_wq76i := CUTOK_AT (fun ρ k1 hF hI k4 => AT_of (q := q_wq76i) rfl rfl (SEM_runB kR_x kR_0 (Cs := []) (fun C hC => by cases hC) c_wn2_f (Q := w_wq76i) hv 1500 (b1 := true) (b2 := true) k_wq76i k1 hF hI k4 (fun p hp ρ3 m1 m2 m3 m4 m5 m6 => by
  rw [List.mem_singleton.mp hp] at m2 m3 m5 m6 ⊢
  have y3 : ρ3.2.1 60033 = ρ.2.1 60033 := congrArg Prod.snd (m5 (60033, .arg 60033) List.mem_cons_self)
  have hA : ∀ j, ρ3.2.2.2.1 1761 j = if 76 = j then ρ.2.1 60033 else ρ.2.2.2.1 1761 j := fun j => ad_l (X := X) (p := 76) (t := .arg 60033) rfl (m6 _ List.mem_cons_self) j
  have hk : evk 76 (ρ.2.1 60033).toInt = true := by
    have h := m2.2 _ List.mem_cons_self
    rw [← y3]
    exact h
  have ea : ρ3.1 2848 = (sd X ρ (.op2 .ior (.arg 2848) (.int 8192))).1 := congrArg Prod.fst (m5 (2848, .op2 .ior (.arg 2848) (.int 8192)) (List.mem_cons_of_mem _ List.mem_cons_self))
  have eL : ρ3.1 60578 = ρ.1 60578 := (m4.1 60578 (by decide) (by decide)).1.trans (k4.1 60578 (by decide) (by decide)).1.symm
  have mo : sc X ρ3 (2, .op2 .iand (.op2 .iushr (.arg 2848) (.int 4)) (.int 1), .arg 60578) = false := by
    show decide (((ρ3.1 2848).toUInt32 >>> ((4 : Int32).toUInt32 &&& (31 : Int32).toUInt32)).toInt32 &&& 1 < ρ3.1 60578) = false
    rw [ea, eL]
    have q := tbv_ok (X := X) (ρ := ρ) (F := []) (a := .op2 .iand (.op2 .iushr (.op2 .ior (.arg 2848) (.int 8192)) (.int 4)) (.int 1)) (b := .op2 .iand (.op2 .iushr (.arg 2848) (.int 4)) (.int 1)) ⟨hF.1, fun f hf => by cases hf⟩ (by decide +kernel)
    rw [sv_int rfl, sv_int rfl] at q
    exact mn_e (Value.int.inj q) (of_decide_eq_true (hF.2 _ (List.mem_cons_of_mem _ (List.mem_cons_of_mem _ (List.mem_cons_of_mem _ (List.mem_cons_of_mem _ (List.mem_cons_self)))))))
  exact t_wE2 hv ρ3 m1 ⟨m2.1, fcn (ev_nm (g := ρ.2.2.2.1 1761) (p := 76) (hF.2 _ (List.mem_cons_of_mem _ (List.mem_cons_of_mem _ (List.mem_cons_self)))) hk hA (by decide +kernel)) (fcn (pd_up (X := X) (p := 76) (c := 8192) (z := [7906, 21248]) (hF.2 _ (List.mem_cons_of_mem _ (List.mem_cons_of_mem _ (List.mem_cons_of_mem _ (List.mem_cons_self))))) hA (fun x hx => m5 x (List.mem_cons_of_mem _ hx)) k4 m4 wm_2 wb_2 (by decide +kernel)) (fcn (mo) (fnl)))⟩ m3 m4)))
theorem t_wq76 {X : pX} {ρ0 : sR} (hv : vok X ρ0) : CUTOK X kR zWP c_wn2 8 ρ0 q_wq76 := CUT_mono (t_wq76i hv) (fun ρ hF hI => by
  have b0 := rl_lf (x := ρ.2.1 60033) (y := 0) (hF.2 _ (List.mem_cons_self))
  have b1 := rl_lf (x := 4294967295) (y := ρ.2.1 60033) (hF.2 _ (List.mem_cons_of_mem _ (List.mem_cons_self)))
  have y0 : (0 : Int64).toInt = 0 := by decide +kernel
  have y1 : (4294967295 : Int64).toInt = 4294967295 := by decide +kernel
  rw [y0] at b0
  rw [y1] at b1
  exact ⟨hF, ik_c (fun hg => by
    have c0 : ¬ ρ.2.1 60033 &&& 2047 = 0 := of_decide_eq_false (hg _ List.mem_cons_self)
    have c1 : ρ.2.1 60033 &&& (-2147485696) = 0 := of_decide_eq_true (hg _ (List.mem_cons_of_mem _ List.mem_cons_self))
    exact wn_129 (p := 76) (q := 76) rfl et_76 b0 b1 (id_9 b0 b1 c1 c0)) (hI)⟩)
theorem e_wp76 : frun kR [] (cpl1 zWP (c_wp2 76) [q_wq76]) (cpl2 zWP (c_wp2 76) [q_wq76]) (cleaf kR zWP (c_wp2 76) [q_wq76]) 300 65536 (isatP ((c_wp2 76).2.2.2.1) (c_wp2 76).2.2.2.2.2.2.2.1) (c_wp2 76).2.2.2.2.2.2.2.1 (sin0 mt_all (c_wp2 76).1.1 8 (c_wp2 76).2.1.1 (foot zWP (c_wp2 76).2.2.1.1)) (sin0 mt_all (c_wp2 76).1.2.1 8 (c_wp2 76).2.1.2 (foot zWP (c_wp2 76).2.2.1.2)) = true := by decide +kernel
theorem s_wp76 {X : pX} : SREL X pF pdfl mt_all kR zWP (c_wp2 76) := SREL_QC kR_x kR_0 (Cs := []) (fun C hC => by cases hC) (d := 8) rfl (c_wp2_f 76) (Q := [q_wq76]) (fun ρ0 hv => fun q hq => by
    simp only [List.mem_cons, List.not_mem_nil, or_false] at hq
    rw [hq]; exact (t_wq76 hv : CUTOK X kR zWP c_wn2 8 ρ0 q_wq76)) (QC_run 300 e_wp76)
theorem et_81 : evt[81]? = some (0, 4294967295, 9) := by decide +kernel
noncomputable def q_wR81 : sCut := ((fr 0 10 53 [] [], [fr 0 5 23 [(4, .int 0)] [], fBot], 7), (fr 0 281 150 [] [], [fr 0 277 91 [(3, .int 0)] [], fBot], 7), [((129, .int 81, .arg 60033), true)], [zi98vc_0, zi98vc_1])
noncomputable def q_wq81 : sCut := ((fr 0 5 0 [(0, tr 57), (1, .int 81), (2, .arg 60033)] [], [fBot], 8), (fr 0 277 60 [(0, tr 219), (1, .arg 1308), (2, .int 81), (4, .arg 60033)] [], [fBot], 8), [zf98vc_2, zf98vc_3, zf98vc_4, zf98vc_5, zf98vc_6, zf98vc_7], [zi98vc_0, zi98vc_1])
noncomputable def q_wq81i : sCut := ((fr 0 5 0 [(0, tr 57), (1, .int 81), (2, .arg 60033)] [], [fBot], 8), (fr 0 277 60 [(0, tr 219), (1, .arg 1308), (2, .int 81), (4, .arg 60033)] [], [fBot], 8), [zf98vc_2, zf98vc_3, zf98vc_4, zf98vc_5, zf98vc_6, zf98vc_7], [([((6, .op2 .land (.arg 60033) (.long 2047), .long 0), false), ((6, .op2 .land (.arg 60033) (.long (-2147485696)), .long 0), true)], (129, .int 81, .arg 60033), true), zi98vc_0, zi98vc_1])
noncomputable def w_wq81i : List (sCut × List (Nat × sT) × List (Nat × sT × List (sT × sT))) := [(q_wR81, [(60033, .arg 60033), (2848, .op2 .ior (.arg 2848) (.int 16384)), (6850, .arg 6850), (6882, .arg 6882), (6914, .arg 6914), (6946, .arg 6946), (7362, .arg 7362), (7394, .arg 7394), (7426, .arg 7426), (7458, .arg 7458), (7874, .arg 7874), (7906, .arg 7906), (7938, .int 0), (7970, .arg 7970), (21216, .arg 21216), (21248, .arg 21248), (21280, .int 0), (21312, .arg 21312), (6466, .arg 6466), (6498, .arg 6498)], [(1761, .arg 1761, [(.int 81, .arg 60033)])])]
theorem k_wq81i : cbody kR [] (cpl1 zWP c_wn2 [q_wR81]) (cpl2 zWP c_wn2 [q_wR81]) (cleafB kR zWP c_wn2 w_wq81i) 1500 true true q_wq81i.2.2.1 q_wq81i.2.2.2 (cst zWP c_wn2.2.2.1.1 q_wq81i.1) (cst zWP c_wn2.2.2.1.2 q_wq81i.2.1) = true := by decide +kernel
theorem t_wq81i {X : pX} {ρ0 : sR} (hv : vok X ρ0) : CUTOK X kR zWP c_wn2 8 ρ0 q_wq81i := CUTOK_AT (fun ρ k1 hF hI k4 => AT_of (q := q_wq81i) rfl rfl (SEM_runB kR_x kR_0 (Cs := []) (fun C hC => by cases hC) c_wn2_f (Q := w_wq81i) hv 1500 (b1 := true) (b2 := true) k_wq81i k1 hF hI k4 (fun p hp ρ3 m1 m2 m3 m4 m5 m6 => by
  rw [List.mem_singleton.mp hp] at m2 m3 m5 m6 ⊢
  have y3 : ρ3.2.1 60033 = ρ.2.1 60033 := congrArg Prod.snd (m5 (60033, .arg 60033) List.mem_cons_self)
  have hA : ∀ j, ρ3.2.2.2.1 1761 j = if 81 = j then ρ.2.1 60033 else ρ.2.2.2.1 1761 j := fun j => ad_l (X := X) (p := 81) (t := .arg 60033) rfl (m6 _ List.mem_cons_self) j
  have hk : evk 81 (ρ.2.1 60033).toInt = true := by
    have h := m2.2 _ List.mem_cons_self
    rw [← y3]
    exact h
  have ea : ρ3.1 2848 = (sd X ρ (.op2 .ior (.arg 2848) (.int 16384))).1 := congrArg Prod.fst (m5 (2848, .op2 .ior (.arg 2848) (.int 16384)) (List.mem_cons_of_mem _ List.mem_cons_self))
  have eL : ρ3.1 60578 = ρ.1 60578 := (m4.1 60578 (by decide) (by decide)).1.trans (k4.1 60578 (by decide) (by decide)).1.symm
  have mo : sc X ρ3 (2, .op2 .iand (.op2 .iushr (.arg 2848) (.int 4)) (.int 1), .arg 60578) = false := by
    show decide (((ρ3.1 2848).toUInt32 >>> ((4 : Int32).toUInt32 &&& (31 : Int32).toUInt32)).toInt32 &&& 1 < ρ3.1 60578) = false
    rw [ea, eL]
    have q := tbv_ok (X := X) (ρ := ρ) (F := []) (a := .op2 .iand (.op2 .iushr (.op2 .ior (.arg 2848) (.int 16384)) (.int 4)) (.int 1)) (b := .op2 .iand (.op2 .iushr (.arg 2848) (.int 4)) (.int 1)) ⟨hF.1, fun f hf => by cases hf⟩ (by decide +kernel)
    rw [sv_int rfl, sv_int rfl] at q
    exact mn_e (Value.int.inj q) (of_decide_eq_true (hF.2 _ (List.mem_cons_of_mem _ (List.mem_cons_of_mem _ (List.mem_cons_of_mem _ (List.mem_cons_of_mem _ (List.mem_cons_self)))))))
  exact t_wE2 hv ρ3 m1 ⟨m2.1, fcn (ev_nm (g := ρ.2.2.2.1 1761) (p := 81) (hF.2 _ (List.mem_cons_of_mem _ (List.mem_cons_of_mem _ (List.mem_cons_self)))) hk hA (by decide +kernel)) (fcn (pd_up (X := X) (p := 81) (c := 16384) (z := [7938, 21280]) (hF.2 _ (List.mem_cons_of_mem _ (List.mem_cons_of_mem _ (List.mem_cons_of_mem _ (List.mem_cons_self))))) hA (fun x hx => m5 x (List.mem_cons_of_mem _ hx)) k4 m4 wm_2 wb_2 (by decide +kernel)) (fcn (mo) (fnl)))⟩ m3 m4)))
theorem t_wq81 {X : pX} {ρ0 : sR} (hv : vok X ρ0) : CUTOK X kR zWP c_wn2 8 ρ0 q_wq81 := CUT_mono (t_wq81i hv) (fun ρ hF hI => by
  have b0 := rl_lf (x := ρ.2.1 60033) (y := 0) (hF.2 _ (List.mem_cons_self))
  have b1 := rl_lf (x := 4294967295) (y := ρ.2.1 60033) (hF.2 _ (List.mem_cons_of_mem _ (List.mem_cons_self)))
  have y0 : (0 : Int64).toInt = 0 := by decide +kernel
  have y1 : (4294967295 : Int64).toInt = 4294967295 := by decide +kernel
  rw [y0] at b0
  rw [y1] at b1
  exact ⟨hF, ik_c (fun hg => by
    have c0 : ¬ ρ.2.1 60033 &&& 2047 = 0 := of_decide_eq_false (hg _ List.mem_cons_self)
    have c1 : ρ.2.1 60033 &&& (-2147485696) = 0 := of_decide_eq_true (hg _ (List.mem_cons_of_mem _ List.mem_cons_self))
    exact wn_129 (p := 81) (q := 81) rfl et_81 b0 b1 (id_9 b0 b1 c1 c0)) (hI)⟩)
theorem e_wp81 : frun kR [] (cpl1 zWP (c_wp2 81) [q_wq81]) (cpl2 zWP (c_wp2 81) [q_wq81]) (cleaf kR zWP (c_wp2 81) [q_wq81]) 300 65536 (isatP ((c_wp2 81).2.2.2.1) (c_wp2 81).2.2.2.2.2.2.2.1) (c_wp2 81).2.2.2.2.2.2.2.1 (sin0 mt_all (c_wp2 81).1.1 8 (c_wp2 81).2.1.1 (foot zWP (c_wp2 81).2.2.1.1)) (sin0 mt_all (c_wp2 81).1.2.1 8 (c_wp2 81).2.1.2 (foot zWP (c_wp2 81).2.2.1.2)) = true := by decide +kernel
theorem s_wp81 {X : pX} : SREL X pF pdfl mt_all kR zWP (c_wp2 81) := SREL_QC kR_x kR_0 (Cs := []) (fun C hC => by cases hC) (d := 8) rfl (c_wp2_f 81) (Q := [q_wq81]) (fun ρ0 hv => fun q hq => by
    simp only [List.mem_cons, List.not_mem_nil, or_false] at hq
    rw [hq]; exact (t_wq81 hv : CUTOK X kR zWP c_wn2 8 ρ0 q_wq81)) (QC_run 300 e_wp81)
theorem et_86 : evt[86]? = some (0, 4294967295, 9) := by decide +kernel
noncomputable def q_wR86 : sCut := ((fr 0 10 53 [] [], [fr 0 5 23 [(4, .int 0)] [], fBot], 7), (fr 0 281 150 [] [], [fr 0 277 91 [(3, .int 0)] [], fBot], 7), [((129, .int 86, .arg 60033), true)], [zi98vc_0, zi98vc_1])
noncomputable def q_wq86 : sCut := ((fr 0 5 0 [(0, tr 57), (1, .int 86), (2, .arg 60033)] [], [fBot], 8), (fr 0 277 60 [(0, tr 219), (1, .arg 1308), (2, .int 86), (4, .arg 60033)] [], [fBot], 8), [zf98vc_2, zf98vc_3, zf98vc_4, zf98vc_5, zf98vc_6, zf98vc_7], [zi98vc_0, zi98vc_1])
noncomputable def q_wq86i : sCut := ((fr 0 5 0 [(0, tr 57), (1, .int 86), (2, .arg 60033)] [], [fBot], 8), (fr 0 277 60 [(0, tr 219), (1, .arg 1308), (2, .int 86), (4, .arg 60033)] [], [fBot], 8), [zf98vc_2, zf98vc_3, zf98vc_4, zf98vc_5, zf98vc_6, zf98vc_7], [([((6, .op2 .land (.arg 60033) (.long 2047), .long 0), false), ((6, .op2 .land (.arg 60033) (.long (-2147485696)), .long 0), true)], (129, .int 86, .arg 60033), true), zi98vc_0, zi98vc_1])
noncomputable def w_wq86i : List (sCut × List (Nat × sT) × List (Nat × sT × List (sT × sT))) := [(q_wR86, [(60033, .arg 60033), (2848, .op2 .ior (.arg 2848) (.int 32768)), (6850, .arg 6850), (6882, .arg 6882), (6914, .arg 6914), (6946, .arg 6946), (7362, .arg 7362), (7394, .arg 7394), (7426, .arg 7426), (7458, .arg 7458), (7874, .arg 7874), (7906, .arg 7906), (7938, .arg 7938), (7970, .int 0), (21216, .arg 21216), (21248, .arg 21248), (21280, .arg 21280), (21312, .int 0), (6466, .arg 6466), (6498, .arg 6498)], [(1761, .arg 1761, [(.int 86, .arg 60033)])])]
theorem k_wq86i : cbody kR [] (cpl1 zWP c_wn2 [q_wR86]) (cpl2 zWP c_wn2 [q_wR86]) (cleafB kR zWP c_wn2 w_wq86i) 1500 true true q_wq86i.2.2.1 q_wq86i.2.2.2 (cst zWP c_wn2.2.2.1.1 q_wq86i.1) (cst zWP c_wn2.2.2.1.2 q_wq86i.2.1) = true := by decide +kernel
theorem t_wq86i {X : pX} {ρ0 : sR} (hv : vok X ρ0) : CUTOK X kR zWP c_wn2 8 ρ0 q_wq86i := CUTOK_AT (fun ρ k1 hF hI k4 => AT_of (q := q_wq86i) rfl rfl (SEM_runB kR_x kR_0 (Cs := []) (fun C hC => by cases hC) c_wn2_f (Q := w_wq86i) hv 1500 (b1 := true) (b2 := true) k_wq86i k1 hF hI k4 (fun p hp ρ3 m1 m2 m3 m4 m5 m6 => by
  rw [List.mem_singleton.mp hp] at m2 m3 m5 m6 ⊢
  have y3 : ρ3.2.1 60033 = ρ.2.1 60033 := congrArg Prod.snd (m5 (60033, .arg 60033) List.mem_cons_self)
  have hA : ∀ j, ρ3.2.2.2.1 1761 j = if 86 = j then ρ.2.1 60033 else ρ.2.2.2.1 1761 j := fun j => ad_l (X := X) (p := 86) (t := .arg 60033) rfl (m6 _ List.mem_cons_self) j
  have hk : evk 86 (ρ.2.1 60033).toInt = true := by
    have h := m2.2 _ List.mem_cons_self
    rw [← y3]
    exact h
  have ea : ρ3.1 2848 = (sd X ρ (.op2 .ior (.arg 2848) (.int 32768))).1 := congrArg Prod.fst (m5 (2848, .op2 .ior (.arg 2848) (.int 32768)) (List.mem_cons_of_mem _ List.mem_cons_self))
  have eL : ρ3.1 60578 = ρ.1 60578 := (m4.1 60578 (by decide) (by decide)).1.trans (k4.1 60578 (by decide) (by decide)).1.symm
  have mo : sc X ρ3 (2, .op2 .iand (.op2 .iushr (.arg 2848) (.int 4)) (.int 1), .arg 60578) = false := by
    show decide (((ρ3.1 2848).toUInt32 >>> ((4 : Int32).toUInt32 &&& (31 : Int32).toUInt32)).toInt32 &&& 1 < ρ3.1 60578) = false
    rw [ea, eL]
    have q := tbv_ok (X := X) (ρ := ρ) (F := []) (a := .op2 .iand (.op2 .iushr (.op2 .ior (.arg 2848) (.int 32768)) (.int 4)) (.int 1)) (b := .op2 .iand (.op2 .iushr (.arg 2848) (.int 4)) (.int 1)) ⟨hF.1, fun f hf => by cases hf⟩ (by decide +kernel)
    rw [sv_int rfl, sv_int rfl] at q
    exact mn_e (Value.int.inj q) (of_decide_eq_true (hF.2 _ (List.mem_cons_of_mem _ (List.mem_cons_of_mem _ (List.mem_cons_of_mem _ (List.mem_cons_of_mem _ (List.mem_cons_self)))))))
  exact t_wE2 hv ρ3 m1 ⟨m2.1, fcn (ev_nm (g := ρ.2.2.2.1 1761) (p := 86) (hF.2 _ (List.mem_cons_of_mem _ (List.mem_cons_of_mem _ (List.mem_cons_self)))) hk hA (by decide +kernel)) (fcn (pd_up (X := X) (p := 86) (c := 32768) (z := [7970, 21312]) (hF.2 _ (List.mem_cons_of_mem _ (List.mem_cons_of_mem _ (List.mem_cons_of_mem _ (List.mem_cons_self))))) hA (fun x hx => m5 x (List.mem_cons_of_mem _ hx)) k4 m4 wm_2 wb_2 (by decide +kernel)) (fcn (mo) (fnl)))⟩ m3 m4)))
theorem t_wq86 {X : pX} {ρ0 : sR} (hv : vok X ρ0) : CUTOK X kR zWP c_wn2 8 ρ0 q_wq86 := CUT_mono (t_wq86i hv) (fun ρ hF hI => by
  have b0 := rl_lf (x := ρ.2.1 60033) (y := 0) (hF.2 _ (List.mem_cons_self))
  have b1 := rl_lf (x := 4294967295) (y := ρ.2.1 60033) (hF.2 _ (List.mem_cons_of_mem _ (List.mem_cons_self)))
  have y0 : (0 : Int64).toInt = 0 := by decide +kernel
  have y1 : (4294967295 : Int64).toInt = 4294967295 := by decide +kernel
  rw [y0] at b0
  rw [y1] at b1
  exact ⟨hF, ik_c (fun hg => by
    have c0 : ¬ ρ.2.1 60033 &&& 2047 = 0 := of_decide_eq_false (hg _ List.mem_cons_self)
    have c1 : ρ.2.1 60033 &&& (-2147485696) = 0 := of_decide_eq_true (hg _ (List.mem_cons_of_mem _ List.mem_cons_self))
    exact wn_129 (p := 86) (q := 86) rfl et_86 b0 b1 (id_9 b0 b1 c1 c0)) (hI)⟩)
theorem e_wp86 : frun kR [] (cpl1 zWP (c_wp2 86) [q_wq86]) (cpl2 zWP (c_wp2 86) [q_wq86]) (cleaf kR zWP (c_wp2 86) [q_wq86]) 300 65536 (isatP ((c_wp2 86).2.2.2.1) (c_wp2 86).2.2.2.2.2.2.2.1) (c_wp2 86).2.2.2.2.2.2.2.1 (sin0 mt_all (c_wp2 86).1.1 8 (c_wp2 86).2.1.1 (foot zWP (c_wp2 86).2.2.1.1)) (sin0 mt_all (c_wp2 86).1.2.1 8 (c_wp2 86).2.1.2 (foot zWP (c_wp2 86).2.2.1.2)) = true := by decide +kernel
theorem s_wp86 {X : pX} : SREL X pF pdfl mt_all kR zWP (c_wp2 86) := SREL_QC kR_x kR_0 (Cs := []) (fun C hC => by cases hC) (d := 8) rfl (c_wp2_f 86) (Q := [q_wq86]) (fun ρ0 hv => fun q hq => by
    simp only [List.mem_cons, List.not_mem_nil, or_false] at hq
    rw [hq]; exact (t_wq86 hv : CUTOK X kR zWP c_wn2 8 ρ0 q_wq86)) (QC_run 300 e_wp86)
theorem et_126 : evt[126]? = some (0, 1000000, 0) := by decide +kernel
noncomputable def q_wR126 : sCut := ((fr 0 10 53 [] [], [fr 0 5 23 [(4, .int 0)] [], fBot], 7), (fr 0 281 150 [] [], [fr 0 277 91 [(3, .int 0)] [], fBot], 7), [((129, .int 126, .arg 60033), true)], [zi98vc_0, zi98vc_1])
noncomputable def q_wq126 : sCut := ((fr 0 5 0 [(0, tr 57), (1, .int 126), (2, .arg 60033)] [], [fBot], 8), (fr 0 277 60 [(0, tr 219), (1, .arg 1308), (2, .int 126), (4, .arg 60033)] [], [fBot], 8), [zf98vc_2, zf98vc_3, zf98vc_4, zf98vc_5, zf98vc_6, zf98vc_7], [zi98vc_0, zi98vc_1])
noncomputable def q_wq126i : sCut := ((fr 0 5 0 [(0, tr 57), (1, .int 126), (2, .arg 60033)] [], [fBot], 8), (fr 0 277 60 [(0, tr 219), (1, .arg 1308), (2, .int 126), (4, .arg 60033)] [], [fBot], 8), [zf98vc_2, zf98vc_3, zf98vc_4, zf98vc_5, zf98vc_6, zf98vc_7], [([((8, .arg 60033, .long 0), false), ((8, .long 1000000, .arg 60033), false)], (129, .int 126, .arg 60033), true), zi98vc_0, zi98vc_1])
noncomputable def w_wq126i : List (sCut × List (Nat × sT) × List (Nat × sT × List (sT × sT))) := [(q_wR126, [(60033, .arg 60033), (2848, .op2 .ior (.arg 2848) (.int 0)), (6850, .arg 6850), (6882, .arg 6882), (6914, .arg 6914), (6946, .arg 6946), (7362, .arg 7362), (7394, .arg 7394), (7426, .arg 7426), (7458, .arg 7458), (7874, .arg 7874), (7906, .arg 7906), (7938, .arg 7938), (7970, .arg 7970), (21216, .arg 21216), (21248, .arg 21248), (21280, .arg 21280), (21312, .arg 21312), (6466, .arg 6466), (6498, .arg 6498)], [(1761, .arg 1761, [(.int 126, .arg 60033)])])]
theorem k_wq126i : cbody kR [] (cpl1 zWP c_wn2 [q_wR126]) (cpl2 zWP c_wn2 [q_wR126]) (cleafB kR zWP c_wn2 w_wq126i) 1500 true true q_wq126i.2.2.1 q_wq126i.2.2.2 (cst zWP c_wn2.2.2.1.1 q_wq126i.1) (cst zWP c_wn2.2.2.1.2 q_wq126i.2.1) = true := by decide +kernel
theorem t_wq126i {X : pX} {ρ0 : sR} (hv : vok X ρ0) : CUTOK X kR zWP c_wn2 8 ρ0 q_wq126i := CUTOK_AT (fun ρ k1 hF hI k4 => AT_of (q := q_wq126i) rfl rfl (SEM_runB kR_x kR_0 (Cs := []) (fun C hC => by cases hC) c_wn2_f (Q := w_wq126i) hv 1500 (b1 := true) (b2 := true) k_wq126i k1 hF hI k4 (fun p hp ρ3 m1 m2 m3 m4 m5 m6 => by
  rw [List.mem_singleton.mp hp] at m2 m3 m5 m6 ⊢
  have y3 : ρ3.2.1 60033 = ρ.2.1 60033 := congrArg Prod.snd (m5 (60033, .arg 60033) List.mem_cons_self)
  have hA : ∀ j, ρ3.2.2.2.1 1761 j = if 126 = j then ρ.2.1 60033 else ρ.2.2.2.1 1761 j := fun j => ad_l (X := X) (p := 126) (t := .arg 60033) rfl (m6 _ List.mem_cons_self) j
  have hk : evk 126 (ρ.2.1 60033).toInt = true := by
    have h := m2.2 _ List.mem_cons_self
    rw [← y3]
    exact h
  have ea : ρ3.1 2848 = (sd X ρ (.op2 .ior (.arg 2848) (.int 0))).1 := congrArg Prod.fst (m5 (2848, .op2 .ior (.arg 2848) (.int 0)) (List.mem_cons_of_mem _ List.mem_cons_self))
  have eL : ρ3.1 60578 = ρ.1 60578 := (m4.1 60578 (by decide) (by decide)).1.trans (k4.1 60578 (by decide) (by decide)).1.symm
  have mo : sc X ρ3 (2, .op2 .iand (.op2 .iushr (.arg 2848) (.int 4)) (.int 1), .arg 60578) = false := by
    show decide (((ρ3.1 2848).toUInt32 >>> ((4 : Int32).toUInt32 &&& (31 : Int32).toUInt32)).toInt32 &&& 1 < ρ3.1 60578) = false
    rw [ea, eL]
    have q := tbv_ok (X := X) (ρ := ρ) (F := []) (a := .op2 .iand (.op2 .iushr (.op2 .ior (.arg 2848) (.int 0)) (.int 4)) (.int 1)) (b := .op2 .iand (.op2 .iushr (.arg 2848) (.int 4)) (.int 1)) ⟨hF.1, fun f hf => by cases hf⟩ (by decide +kernel)
    rw [sv_int rfl, sv_int rfl] at q
    exact mn_e (Value.int.inj q) (of_decide_eq_true (hF.2 _ (List.mem_cons_of_mem _ (List.mem_cons_of_mem _ (List.mem_cons_of_mem _ (List.mem_cons_of_mem _ (List.mem_cons_self)))))))
  exact t_wE2 hv ρ3 m1 ⟨m2.1, fcn (ev_nm (g := ρ.2.2.2.1 1761) (p := 126) (hF.2 _ (List.mem_cons_of_mem _ (List.mem_cons_of_mem _ (List.mem_cons_self)))) hk hA (by decide +kernel)) (fcn (pd_up (X := X) (p := 126) (c := 0) (z := []) (hF.2 _ (List.mem_cons_of_mem _ (List.mem_cons_of_mem _ (List.mem_cons_of_mem _ (List.mem_cons_self))))) hA (fun x hx => m5 x (List.mem_cons_of_mem _ hx)) k4 m4 wm_2 wb_2 (by decide +kernel)) (fcn (mo) (fnl)))⟩ m3 m4)))
theorem t_wq126 {X : pX} {ρ0 : sR} (hv : vok X ρ0) : CUTOK X kR zWP c_wn2 8 ρ0 q_wq126 := CUT_mono (t_wq126i hv) (fun ρ hF hI => by
  have b0 := rl_lf (x := ρ.2.1 60033) (y := 0) (hF.2 _ (List.mem_cons_self))
  have b1 := rl_lf (x := 4294967295) (y := ρ.2.1 60033) (hF.2 _ (List.mem_cons_of_mem _ (List.mem_cons_self)))
  have y0 : (0 : Int64).toInt = 0 := by decide +kernel
  have y1 : (4294967295 : Int64).toInt = 4294967295 := by decide +kernel
  rw [y0] at b0
  rw [y1] at b1
  exact ⟨hF, ik_c (fun hg => by
    have c0 := rl_lf (x := ρ.2.1 60033) (y := 0) (hg _ List.mem_cons_self)
    have c1 := rl_lf (x := 1000000) (y := ρ.2.1 60033) (hg _ (List.mem_cons_of_mem _ List.mem_cons_self))
    have z0 : (0 : Int64).toInt = 0 := by decide +kernel
    have z1 : (1000000 : Int64).toInt = 1000000 := by decide +kernel
    rw [z0] at c0
    rw [z1] at c1
    exact wn_129 (p := 126) (q := 126) rfl et_126 c0 c1 rfl) (hI)⟩)
theorem e_wp126 : frun kR [] (cpl1 zWP (c_wp2 126) [q_wq126]) (cpl2 zWP (c_wp2 126) [q_wq126]) (cleaf kR zWP (c_wp2 126) [q_wq126]) 300 65536 (isatP ((c_wp2 126).2.2.2.1) (c_wp2 126).2.2.2.2.2.2.2.1) (c_wp2 126).2.2.2.2.2.2.2.1 (sin0 mt_all (c_wp2 126).1.1 8 (c_wp2 126).2.1.1 (foot zWP (c_wp2 126).2.2.1.1)) (sin0 mt_all (c_wp2 126).1.2.1 8 (c_wp2 126).2.1.2 (foot zWP (c_wp2 126).2.2.1.2)) = true := by decide +kernel
theorem s_wp126 {X : pX} : SREL X pF pdfl mt_all kR zWP (c_wp2 126) := SREL_QC kR_x kR_0 (Cs := []) (fun C hC => by cases hC) (d := 8) rfl (c_wp2_f 126) (Q := [q_wq126]) (fun ρ0 hv => fun q hq => by
    simp only [List.mem_cons, List.not_mem_nil, or_false] at hq
    rw [hq]; exact (t_wq126 hv : CUTOK X kR zWP c_wn2 8 ρ0 q_wq126)) (QC_run 300 e_wp126)
theorem et_128 : evt[128]? = some (0, 1000000, 0) := by decide +kernel
noncomputable def q_wR128 : sCut := ((fr 0 10 53 [] [], [fr 0 5 23 [(4, .int 0)] [], fBot], 7), (fr 0 281 150 [] [], [fr 0 277 91 [(3, .int 0)] [], fBot], 7), [((129, .int 128, .arg 60033), true)], [zi98vc_0, zi98vc_1])
noncomputable def q_wq128 : sCut := ((fr 0 5 0 [(0, tr 57), (1, .int 128), (2, .arg 60033)] [], [fBot], 8), (fr 0 277 60 [(0, tr 219), (1, .arg 1308), (2, .int 128), (4, .arg 60033)] [], [fBot], 8), [zf98vc_2, zf98vc_3, zf98vc_4, zf98vc_5, zf98vc_6, zf98vc_7], [zi98vc_0, zi98vc_1])
noncomputable def q_wq128i : sCut := ((fr 0 5 0 [(0, tr 57), (1, .int 128), (2, .arg 60033)] [], [fBot], 8), (fr 0 277 60 [(0, tr 219), (1, .arg 1308), (2, .int 128), (4, .arg 60033)] [], [fBot], 8), [zf98vc_2, zf98vc_3, zf98vc_4, zf98vc_5, zf98vc_6, zf98vc_7], [([((8, .arg 60033, .long 0), false), ((8, .long 1000000, .arg 60033), false)], (129, .int 128, .arg 60033), true), zi98vc_0, zi98vc_1])
noncomputable def w_wq128i : List (sCut × List (Nat × sT) × List (Nat × sT × List (sT × sT))) := [(q_wR128, [(60033, .arg 60033), (2848, .op2 .ior (.arg 2848) (.int 0)), (6850, .arg 6850), (6882, .arg 6882), (6914, .arg 6914), (6946, .arg 6946), (7362, .arg 7362), (7394, .arg 7394), (7426, .arg 7426), (7458, .arg 7458), (7874, .arg 7874), (7906, .arg 7906), (7938, .arg 7938), (7970, .arg 7970), (21216, .arg 21216), (21248, .arg 21248), (21280, .arg 21280), (21312, .arg 21312), (6466, .arg 6466), (6498, .arg 6498)], [(1761, .arg 1761, [(.int 128, .arg 60033)])])]
theorem k_wq128i : cbody kR [] (cpl1 zWP c_wn2 [q_wR128]) (cpl2 zWP c_wn2 [q_wR128]) (cleafB kR zWP c_wn2 w_wq128i) 1500 true true q_wq128i.2.2.1 q_wq128i.2.2.2 (cst zWP c_wn2.2.2.1.1 q_wq128i.1) (cst zWP c_wn2.2.2.1.2 q_wq128i.2.1) = true := by decide +kernel
theorem t_wq128i {X : pX} {ρ0 : sR} (hv : vok X ρ0) : CUTOK X kR zWP c_wn2 8 ρ0 q_wq128i := CUTOK_AT (fun ρ k1 hF hI k4 => AT_of (q := q_wq128i) rfl rfl (SEM_runB kR_x kR_0 (Cs := []) (fun C hC => by cases hC) c_wn2_f (Q := w_wq128i) hv 1500 (b1 := true) (b2 := true) k_wq128i k1 hF hI k4 (fun p hp ρ3 m1 m2 m3 m4 m5 m6 => by
  rw [List.mem_singleton.mp hp] at m2 m3 m5 m6 ⊢
  have y3 : ρ3.2.1 60033 = ρ.2.1 60033 := congrArg Prod.snd (m5 (60033, .arg 60033) List.mem_cons_self)
  have hA : ∀ j, ρ3.2.2.2.1 1761 j = if 128 = j then ρ.2.1 60033 else ρ.2.2.2.1 1761 j := fun j => ad_l (X := X) (p := 128) (t := .arg 60033) rfl (m6 _ List.mem_cons_self) j
  have hk : evk 128 (ρ.2.1 60033).toInt = true := by
    have h := m2.2 _ List.mem_cons_self
    rw [← y3]
    exact h
  have ea : ρ3.1 2848 = (sd X ρ (.op2 .ior (.arg 2848) (.int 0))).1 := congrArg Prod.fst (m5 (2848, .op2 .ior (.arg 2848) (.int 0)) (List.mem_cons_of_mem _ List.mem_cons_self))
  have eL : ρ3.1 60578 = ρ.1 60578 := (m4.1 60578 (by decide) (by decide)).1.trans (k4.1 60578 (by decide) (by decide)).1.symm
  have mo : sc X ρ3 (2, .op2 .iand (.op2 .iushr (.arg 2848) (.int 4)) (.int 1), .arg 60578) = false := by
    show decide (((ρ3.1 2848).toUInt32 >>> ((4 : Int32).toUInt32 &&& (31 : Int32).toUInt32)).toInt32 &&& 1 < ρ3.1 60578) = false
    rw [ea, eL]
    have q := tbv_ok (X := X) (ρ := ρ) (F := []) (a := .op2 .iand (.op2 .iushr (.op2 .ior (.arg 2848) (.int 0)) (.int 4)) (.int 1)) (b := .op2 .iand (.op2 .iushr (.arg 2848) (.int 4)) (.int 1)) ⟨hF.1, fun f hf => by cases hf⟩ (by decide +kernel)
    rw [sv_int rfl, sv_int rfl] at q
    exact mn_e (Value.int.inj q) (of_decide_eq_true (hF.2 _ (List.mem_cons_of_mem _ (List.mem_cons_of_mem _ (List.mem_cons_of_mem _ (List.mem_cons_of_mem _ (List.mem_cons_self)))))))
  exact t_wE2 hv ρ3 m1 ⟨m2.1, fcn (ev_nm (g := ρ.2.2.2.1 1761) (p := 128) (hF.2 _ (List.mem_cons_of_mem _ (List.mem_cons_of_mem _ (List.mem_cons_self)))) hk hA (by decide +kernel)) (fcn (pd_up (X := X) (p := 128) (c := 0) (z := []) (hF.2 _ (List.mem_cons_of_mem _ (List.mem_cons_of_mem _ (List.mem_cons_of_mem _ (List.mem_cons_self))))) hA (fun x hx => m5 x (List.mem_cons_of_mem _ hx)) k4 m4 wm_2 wb_2 (by decide +kernel)) (fcn (mo) (fnl)))⟩ m3 m4)))
theorem t_wq128 {X : pX} {ρ0 : sR} (hv : vok X ρ0) : CUTOK X kR zWP c_wn2 8 ρ0 q_wq128 := CUT_mono (t_wq128i hv) (fun ρ hF hI => by
  have b0 := rl_lf (x := ρ.2.1 60033) (y := 0) (hF.2 _ (List.mem_cons_self))
  have b1 := rl_lf (x := 4294967295) (y := ρ.2.1 60033) (hF.2 _ (List.mem_cons_of_mem _ (List.mem_cons_self)))
  have y0 : (0 : Int64).toInt = 0 := by decide +kernel
  have y1 : (4294967295 : Int64).toInt = 4294967295 := by decide +kernel
  rw [y0] at b0
  rw [y1] at b1
  exact ⟨hF, ik_c (fun hg => by
    have c0 := rl_lf (x := ρ.2.1 60033) (y := 0) (hg _ List.mem_cons_self)
    have c1 := rl_lf (x := 1000000) (y := ρ.2.1 60033) (hg _ (List.mem_cons_of_mem _ List.mem_cons_self))
    have z0 : (0 : Int64).toInt = 0 := by decide +kernel
    have z1 : (1000000 : Int64).toInt = 1000000 := by decide +kernel
    rw [z0] at c0
    rw [z1] at c1
    exact wn_129 (p := 128) (q := 128) rfl et_128 c0 c1 rfl) (hI)⟩)
theorem e_wp128 : frun kR [] (cpl1 zWP (c_wp2 128) [q_wq128]) (cpl2 zWP (c_wp2 128) [q_wq128]) (cleaf kR zWP (c_wp2 128) [q_wq128]) 300 65536 (isatP ((c_wp2 128).2.2.2.1) (c_wp2 128).2.2.2.2.2.2.2.1) (c_wp2 128).2.2.2.2.2.2.2.1 (sin0 mt_all (c_wp2 128).1.1 8 (c_wp2 128).2.1.1 (foot zWP (c_wp2 128).2.2.1.1)) (sin0 mt_all (c_wp2 128).1.2.1 8 (c_wp2 128).2.1.2 (foot zWP (c_wp2 128).2.2.1.2)) = true := by decide +kernel
theorem s_wp128 {X : pX} : SREL X pF pdfl mt_all kR zWP (c_wp2 128) := SREL_QC kR_x kR_0 (Cs := []) (fun C hC => by cases hC) (d := 8) rfl (c_wp2_f 128) (Q := [q_wq128]) (fun ρ0 hv => fun q hq => by
    simp only [List.mem_cons, List.not_mem_nil, or_false] at hq
    rw [hq]; exact (t_wq128 hv : CUTOK X kR zWP c_wn2 8 ρ0 q_wq128)) (QC_run 300 e_wp128)
theorem et_137 : evt[137]? = some (1, 2000000, 0) := by decide +kernel
noncomputable def q_wR137 : sCut := ((fr 0 10 53 [] [], [fr 0 5 23 [(4, .int 0)] [], fBot], 7), (fr 0 281 150 [] [], [fr 0 277 91 [(3, .int 0)] [], fBot], 7), [((129, .int 137, .arg 60033), true)], [zi98vc_0, zi98vc_1])
noncomputable def q_wq137 : sCut := ((fr 0 5 0 [(0, tr 57), (1, .int 137), (2, .arg 60033)] [], [fBot], 8), (fr 0 277 60 [(0, tr 219), (1, .arg 1308), (2, .int 137), (4, .arg 60033)] [], [fBot], 8), [zf98vc_2, zf98vc_3, zf98vc_4, zf98vc_5, zf98vc_6, zf98vc_7], [zi98vc_0, zi98vc_1])
noncomputable def q_wq137i : sCut := ((fr 0 5 0 [(0, tr 57), (1, .int 137), (2, .arg 60033)] [], [fBot], 8), (fr 0 277 60 [(0, tr 219), (1, .arg 1308), (2, .int 137), (4, .arg 60033)] [], [fBot], 8), [zf98vc_2, zf98vc_3, zf98vc_4, zf98vc_5, zf98vc_6, zf98vc_7], [([((8, .arg 60033, .long 1), false), ((8, .long 2000000, .arg 60033), false)], (129, .int 137, .arg 60033), true), zi98vc_0, zi98vc_1])
noncomputable def w_wq137i : List (sCut × List (Nat × sT) × List (Nat × sT × List (sT × sT))) := [(q_wR137, [(60033, .arg 60033), (2848, .op2 .ior (.arg 2848) (.int 0)), (6850, .arg 6850), (6882, .arg 6882), (6914, .arg 6914), (6946, .arg 6946), (7362, .arg 7362), (7394, .arg 7394), (7426, .arg 7426), (7458, .arg 7458), (7874, .arg 7874), (7906, .arg 7906), (7938, .arg 7938), (7970, .arg 7970), (21216, .arg 21216), (21248, .arg 21248), (21280, .arg 21280), (21312, .arg 21312), (6466, .arg 6466), (6498, .arg 6498)], [(1761, .arg 1761, [(.int 137, .arg 60033)])])]
theorem k_wq137i : cbody kR [] (cpl1 zWP c_wn2 [q_wR137]) (cpl2 zWP c_wn2 [q_wR137]) (cleafB kR zWP c_wn2 w_wq137i) 1500 true true q_wq137i.2.2.1 q_wq137i.2.2.2 (cst zWP c_wn2.2.2.1.1 q_wq137i.1) (cst zWP c_wn2.2.2.1.2 q_wq137i.2.1) = true := by decide +kernel
theorem t_wq137i {X : pX} {ρ0 : sR} (hv : vok X ρ0) : CUTOK X kR zWP c_wn2 8 ρ0 q_wq137i := CUTOK_AT (fun ρ k1 hF hI k4 => AT_of (q := q_wq137i) rfl rfl (SEM_runB kR_x kR_0 (Cs := []) (fun C hC => by cases hC) c_wn2_f (Q := w_wq137i) hv 1500 (b1 := true) (b2 := true) k_wq137i k1 hF hI k4 (fun p hp ρ3 m1 m2 m3 m4 m5 m6 => by
  rw [List.mem_singleton.mp hp] at m2 m3 m5 m6 ⊢
  have y3 : ρ3.2.1 60033 = ρ.2.1 60033 := congrArg Prod.snd (m5 (60033, .arg 60033) List.mem_cons_self)
  have hA : ∀ j, ρ3.2.2.2.1 1761 j = if 137 = j then ρ.2.1 60033 else ρ.2.2.2.1 1761 j := fun j => ad_l (X := X) (p := 137) (t := .arg 60033) rfl (m6 _ List.mem_cons_self) j
  have hk : evk 137 (ρ.2.1 60033).toInt = true := by
    have h := m2.2 _ List.mem_cons_self
    rw [← y3]
    exact h
  have ea : ρ3.1 2848 = (sd X ρ (.op2 .ior (.arg 2848) (.int 0))).1 := congrArg Prod.fst (m5 (2848, .op2 .ior (.arg 2848) (.int 0)) (List.mem_cons_of_mem _ List.mem_cons_self))
  have eL : ρ3.1 60578 = ρ.1 60578 := (m4.1 60578 (by decide) (by decide)).1.trans (k4.1 60578 (by decide) (by decide)).1.symm
  have mo : sc X ρ3 (2, .op2 .iand (.op2 .iushr (.arg 2848) (.int 4)) (.int 1), .arg 60578) = false := by
    show decide (((ρ3.1 2848).toUInt32 >>> ((4 : Int32).toUInt32 &&& (31 : Int32).toUInt32)).toInt32 &&& 1 < ρ3.1 60578) = false
    rw [ea, eL]
    have q := tbv_ok (X := X) (ρ := ρ) (F := []) (a := .op2 .iand (.op2 .iushr (.op2 .ior (.arg 2848) (.int 0)) (.int 4)) (.int 1)) (b := .op2 .iand (.op2 .iushr (.arg 2848) (.int 4)) (.int 1)) ⟨hF.1, fun f hf => by cases hf⟩ (by decide +kernel)
    rw [sv_int rfl, sv_int rfl] at q
    exact mn_e (Value.int.inj q) (of_decide_eq_true (hF.2 _ (List.mem_cons_of_mem _ (List.mem_cons_of_mem _ (List.mem_cons_of_mem _ (List.mem_cons_of_mem _ (List.mem_cons_self)))))))
  exact t_wE2 hv ρ3 m1 ⟨m2.1, fcn (ev_nm (g := ρ.2.2.2.1 1761) (p := 137) (hF.2 _ (List.mem_cons_of_mem _ (List.mem_cons_of_mem _ (List.mem_cons_self)))) hk hA (by decide +kernel)) (fcn (pd_up (X := X) (p := 137) (c := 0) (z := []) (hF.2 _ (List.mem_cons_of_mem _ (List.mem_cons_of_mem _ (List.mem_cons_of_mem _ (List.mem_cons_self))))) hA (fun x hx => m5 x (List.mem_cons_of_mem _ hx)) k4 m4 wm_2 wb_2 (by decide +kernel)) (fcn (mo) (fnl)))⟩ m3 m4)))
theorem t_wq137 {X : pX} {ρ0 : sR} (hv : vok X ρ0) : CUTOK X kR zWP c_wn2 8 ρ0 q_wq137 := CUT_mono (t_wq137i hv) (fun ρ hF hI => by
  have b0 := rl_lf (x := ρ.2.1 60033) (y := 0) (hF.2 _ (List.mem_cons_self))
  have b1 := rl_lf (x := 4294967295) (y := ρ.2.1 60033) (hF.2 _ (List.mem_cons_of_mem _ (List.mem_cons_self)))
  have y0 : (0 : Int64).toInt = 0 := by decide +kernel
  have y1 : (4294967295 : Int64).toInt = 4294967295 := by decide +kernel
  rw [y0] at b0
  rw [y1] at b1
  exact ⟨hF, ik_c (fun hg => by
    have c0 := rl_lf (x := ρ.2.1 60033) (y := 1) (hg _ List.mem_cons_self)
    have c1 := rl_lf (x := 2000000) (y := ρ.2.1 60033) (hg _ (List.mem_cons_of_mem _ List.mem_cons_self))
    have z0 : (1 : Int64).toInt = 1 := by decide +kernel
    have z1 : (2000000 : Int64).toInt = 2000000 := by decide +kernel
    rw [z0] at c0
    rw [z1] at c1
    exact wn_129 (p := 137) (q := 137) rfl et_137 c0 c1 rfl) (hI)⟩)
theorem e_wp137 : frun kR [] (cpl1 zWP (c_wp2 137) [q_wq137]) (cpl2 zWP (c_wp2 137) [q_wq137]) (cleaf kR zWP (c_wp2 137) [q_wq137]) 300 65536 (isatP (((0, .arg 2816, .int 4), false) :: (c_wp2 137).2.2.2.1) (c_wp2 137).2.2.2.2.2.2.2.1) (c_wp2 137).2.2.2.2.2.2.2.1 (sin0 mt_all (c_wp2 137).1.1 8 (c_wp2 137).2.1.1 (foot zWP (c_wp2 137).2.2.1.1)) (sin0 mt_all (c_wp2 137).1.2.1 8 (c_wp2 137).2.1.2 (foot zWP (c_wp2 137).2.2.1.2)) = true := by decide +kernel
theorem s_wp137 {X : pX} : SREL X pF pdfl mt_all kR zWP (c_wp2 137) := SREL_QC kR_x kR_0 (Cs := []) (fun C hC => by cases hC) (d := 8) rfl (c_wp2_f 137) (Q := [q_wq137]) (fun ρ0 hv => fun q hq => by
    simp only [List.mem_cons, List.not_mem_nil, or_false] at hq
    rw [hq]; exact (t_wq137 hv : CUTOK X kR zWP c_wn2 8 ρ0 q_wq137)) ((fun ρ hF hI => QC_run (C := (c_wp2 137)) 300 e_wp137 ρ ⟨hF.1, fcn (wn_x (hF.2 _ List.mem_cons_self) (by decide +kernel)) hF.2⟩ hI))
theorem et_138 : evt[138]? = some (1, 2000000, 0) := by decide +kernel
noncomputable def q_wR138 : sCut := ((fr 0 10 53 [] [], [fr 0 5 23 [(4, .int 0)] [], fBot], 7), (fr 0 281 150 [] [], [fr 0 277 91 [(3, .int 0)] [], fBot], 7), [((129, .int 138, .arg 60033), true)], [zi98vc_0, zi98vc_1])
noncomputable def q_wq138 : sCut := ((fr 0 5 0 [(0, tr 57), (1, .int 138), (2, .arg 60033)] [], [fBot], 8), (fr 0 277 60 [(0, tr 219), (1, .arg 1308), (2, .int 138), (4, .arg 60033)] [], [fBot], 8), [zf98vc_2, zf98vc_3, zf98vc_4, zf98vc_5, zf98vc_6, zf98vc_7], [zi98vc_0, zi98vc_1])
noncomputable def q_wq138i : sCut := ((fr 0 5 0 [(0, tr 57), (1, .int 138), (2, .arg 60033)] [], [fBot], 8), (fr 0 277 60 [(0, tr 219), (1, .arg 1308), (2, .int 138), (4, .arg 60033)] [], [fBot], 8), [zf98vc_2, zf98vc_3, zf98vc_4, zf98vc_5, zf98vc_6, zf98vc_7], [([((8, .arg 60033, .long 1), false), ((8, .long 2000000, .arg 60033), false)], (129, .int 138, .arg 60033), true), zi98vc_0, zi98vc_1])
noncomputable def w_wq138i : List (sCut × List (Nat × sT) × List (Nat × sT × List (sT × sT))) := [(q_wR138, [(60033, .arg 60033), (2848, .op2 .ior (.arg 2848) (.int 0)), (6850, .arg 6850), (6882, .arg 6882), (6914, .arg 6914), (6946, .arg 6946), (7362, .arg 7362), (7394, .arg 7394), (7426, .arg 7426), (7458, .arg 7458), (7874, .arg 7874), (7906, .arg 7906), (7938, .arg 7938), (7970, .arg 7970), (21216, .arg 21216), (21248, .arg 21248), (21280, .arg 21280), (21312, .arg 21312), (6466, .arg 6466), (6498, .arg 6498)], [(1761, .arg 1761, [(.int 138, .arg 60033)])])]
theorem k_wq138i : cbody kR [] (cpl1 zWP c_wn2 [q_wR138]) (cpl2 zWP c_wn2 [q_wR138]) (cleafB kR zWP c_wn2 w_wq138i) 1500 true true q_wq138i.2.2.1 q_wq138i.2.2.2 (cst zWP c_wn2.2.2.1.1 q_wq138i.1) (cst zWP c_wn2.2.2.1.2 q_wq138i.2.1) = true := by decide +kernel
theorem t_wq138i {X : pX} {ρ0 : sR} (hv : vok X ρ0) : CUTOK X kR zWP c_wn2 8 ρ0 q_wq138i := CUTOK_AT (fun ρ k1 hF hI k4 => AT_of (q := q_wq138i) rfl rfl (SEM_runB kR_x kR_0 (Cs := []) (fun C hC => by cases hC) c_wn2_f (Q := w_wq138i) hv 1500 (b1 := true) (b2 := true) k_wq138i k1 hF hI k4 (fun p hp ρ3 m1 m2 m3 m4 m5 m6 => by
  rw [List.mem_singleton.mp hp] at m2 m3 m5 m6 ⊢
  have y3 : ρ3.2.1 60033 = ρ.2.1 60033 := congrArg Prod.snd (m5 (60033, .arg 60033) List.mem_cons_self)
  have hA : ∀ j, ρ3.2.2.2.1 1761 j = if 138 = j then ρ.2.1 60033 else ρ.2.2.2.1 1761 j := fun j => ad_l (X := X) (p := 138) (t := .arg 60033) rfl (m6 _ List.mem_cons_self) j
  have hk : evk 138 (ρ.2.1 60033).toInt = true := by
    have h := m2.2 _ List.mem_cons_self
    rw [← y3]
    exact h
  have ea : ρ3.1 2848 = (sd X ρ (.op2 .ior (.arg 2848) (.int 0))).1 := congrArg Prod.fst (m5 (2848, .op2 .ior (.arg 2848) (.int 0)) (List.mem_cons_of_mem _ List.mem_cons_self))
  have eL : ρ3.1 60578 = ρ.1 60578 := (m4.1 60578 (by decide) (by decide)).1.trans (k4.1 60578 (by decide) (by decide)).1.symm
  have mo : sc X ρ3 (2, .op2 .iand (.op2 .iushr (.arg 2848) (.int 4)) (.int 1), .arg 60578) = false := by
    show decide (((ρ3.1 2848).toUInt32 >>> ((4 : Int32).toUInt32 &&& (31 : Int32).toUInt32)).toInt32 &&& 1 < ρ3.1 60578) = false
    rw [ea, eL]
    have q := tbv_ok (X := X) (ρ := ρ) (F := []) (a := .op2 .iand (.op2 .iushr (.op2 .ior (.arg 2848) (.int 0)) (.int 4)) (.int 1)) (b := .op2 .iand (.op2 .iushr (.arg 2848) (.int 4)) (.int 1)) ⟨hF.1, fun f hf => by cases hf⟩ (by decide +kernel)
    rw [sv_int rfl, sv_int rfl] at q
    exact mn_e (Value.int.inj q) (of_decide_eq_true (hF.2 _ (List.mem_cons_of_mem _ (List.mem_cons_of_mem _ (List.mem_cons_of_mem _ (List.mem_cons_of_mem _ (List.mem_cons_self)))))))
  exact t_wE2 hv ρ3 m1 ⟨m2.1, fcn (ev_nm (g := ρ.2.2.2.1 1761) (p := 138) (hF.2 _ (List.mem_cons_of_mem _ (List.mem_cons_of_mem _ (List.mem_cons_self)))) hk hA (by decide +kernel)) (fcn (pd_up (X := X) (p := 138) (c := 0) (z := []) (hF.2 _ (List.mem_cons_of_mem _ (List.mem_cons_of_mem _ (List.mem_cons_of_mem _ (List.mem_cons_self))))) hA (fun x hx => m5 x (List.mem_cons_of_mem _ hx)) k4 m4 wm_2 wb_2 (by decide +kernel)) (fcn (mo) (fnl)))⟩ m3 m4)))
theorem t_wq138 {X : pX} {ρ0 : sR} (hv : vok X ρ0) : CUTOK X kR zWP c_wn2 8 ρ0 q_wq138 := CUT_mono (t_wq138i hv) (fun ρ hF hI => by
  have b0 := rl_lf (x := ρ.2.1 60033) (y := 0) (hF.2 _ (List.mem_cons_self))
  have b1 := rl_lf (x := 4294967295) (y := ρ.2.1 60033) (hF.2 _ (List.mem_cons_of_mem _ (List.mem_cons_self)))
  have y0 : (0 : Int64).toInt = 0 := by decide +kernel
  have y1 : (4294967295 : Int64).toInt = 4294967295 := by decide +kernel
  rw [y0] at b0
  rw [y1] at b1
  exact ⟨hF, ik_c (fun hg => by
    have c0 := rl_lf (x := ρ.2.1 60033) (y := 1) (hg _ List.mem_cons_self)
    have c1 := rl_lf (x := 2000000) (y := ρ.2.1 60033) (hg _ (List.mem_cons_of_mem _ List.mem_cons_self))
    have z0 : (1 : Int64).toInt = 1 := by decide +kernel
    have z1 : (2000000 : Int64).toInt = 2000000 := by decide +kernel
    rw [z0] at c0
    rw [z1] at c1
    exact wn_129 (p := 138) (q := 138) rfl et_138 c0 c1 rfl) (hI)⟩)
theorem e_wp138 : frun kR [] (cpl1 zWP (c_wp2 138) [q_wq138]) (cpl2 zWP (c_wp2 138) [q_wq138]) (cleaf kR zWP (c_wp2 138) [q_wq138]) 300 65536 (isatP ((c_wp2 138).2.2.2.1) (c_wp2 138).2.2.2.2.2.2.2.1) (c_wp2 138).2.2.2.2.2.2.2.1 (sin0 mt_all (c_wp2 138).1.1 8 (c_wp2 138).2.1.1 (foot zWP (c_wp2 138).2.2.1.1)) (sin0 mt_all (c_wp2 138).1.2.1 8 (c_wp2 138).2.1.2 (foot zWP (c_wp2 138).2.2.1.2)) = true := by decide +kernel
theorem s_wp138 {X : pX} : SREL X pF pdfl mt_all kR zWP (c_wp2 138) := SREL_QC kR_x kR_0 (Cs := []) (fun C hC => by cases hC) (d := 8) rfl (c_wp2_f 138) (Q := [q_wq138]) (fun ρ0 hv => fun q hq => by
    simp only [List.mem_cons, List.not_mem_nil, or_false] at hq
    rw [hq]; exact (t_wq138 hv : CUTOK X kR zWP c_wn2 8 ρ0 q_wq138)) (QC_run 300 e_wp138)
theorem et_139 : evt[139]? = some (1, 100000000, 0) := by decide +kernel
noncomputable def q_wR139 : sCut := ((fr 0 10 53 [] [], [fr 0 5 23 [(4, .int 0)] [], fBot], 7), (fr 0 281 150 [] [], [fr 0 277 91 [(3, .int 0)] [], fBot], 7), [((129, .int 139, .arg 60033), true)], [zi98vc_0, zi98vc_1])
noncomputable def q_wq139 : sCut := ((fr 0 5 0 [(0, tr 57), (1, .int 139), (2, .arg 60033)] [], [fBot], 8), (fr 0 277 60 [(0, tr 219), (1, .arg 1308), (2, .int 139), (4, .arg 60033)] [], [fBot], 8), [zf98vc_2, zf98vc_3, zf98vc_4, zf98vc_5, zf98vc_6, zf98vc_7], [zi98vc_0, zi98vc_1])
noncomputable def q_wq139i : sCut := ((fr 0 5 0 [(0, tr 57), (1, .int 139), (2, .arg 60033)] [], [fBot], 8), (fr 0 277 60 [(0, tr 219), (1, .arg 1308), (2, .int 139), (4, .arg 60033)] [], [fBot], 8), [zf98vc_2, zf98vc_3, zf98vc_4, zf98vc_5, zf98vc_6, zf98vc_7], [([((8, .arg 60033, .long 1), false), ((8, .long 100000000, .arg 60033), false)], (129, .int 139, .arg 60033), true), zi98vc_0, zi98vc_1])
noncomputable def w_wq139i : List (sCut × List (Nat × sT) × List (Nat × sT × List (sT × sT))) := [(q_wR139, [(60033, .arg 60033), (2848, .op2 .ior (.arg 2848) (.int 0)), (6850, .arg 6850), (6882, .arg 6882), (6914, .arg 6914), (6946, .arg 6946), (7362, .arg 7362), (7394, .arg 7394), (7426, .arg 7426), (7458, .arg 7458), (7874, .arg 7874), (7906, .arg 7906), (7938, .arg 7938), (7970, .arg 7970), (21216, .arg 21216), (21248, .arg 21248), (21280, .arg 21280), (21312, .arg 21312), (6466, .arg 6466), (6498, .arg 6498)], [(1761, .arg 1761, [(.int 139, .arg 60033)])])]
theorem k_wq139i : cbody kR [] (cpl1 zWP c_wn2 [q_wR139]) (cpl2 zWP c_wn2 [q_wR139]) (cleafB kR zWP c_wn2 w_wq139i) 1500 true true q_wq139i.2.2.1 q_wq139i.2.2.2 (cst zWP c_wn2.2.2.1.1 q_wq139i.1) (cst zWP c_wn2.2.2.1.2 q_wq139i.2.1) = true := by decide +kernel
theorem t_wq139i {X : pX} {ρ0 : sR} (hv : vok X ρ0) : CUTOK X kR zWP c_wn2 8 ρ0 q_wq139i := CUTOK_AT (fun ρ k1 hF hI k4 => AT_of (q := q_wq139i) rfl rfl (SEM_runB kR_x kR_0 (Cs := []) (fun C hC => by cases hC) c_wn2_f (Q := w_wq139i) hv 1500 (b1 := true) (b2 := true) k_wq139i k1 hF hI k4 (fun p hp ρ3 m1 m2 m3 m4 m5 m6 => by
  rw [List.mem_singleton.mp hp] at m2 m3 m5 m6 ⊢
  have y3 : ρ3.2.1 60033 = ρ.2.1 60033 := congrArg Prod.snd (m5 (60033, .arg 60033) List.mem_cons_self)
  have hA : ∀ j, ρ3.2.2.2.1 1761 j = if 139 = j then ρ.2.1 60033 else ρ.2.2.2.1 1761 j := fun j => ad_l (X := X) (p := 139) (t := .arg 60033) rfl (m6 _ List.mem_cons_self) j
  have hk : evk 139 (ρ.2.1 60033).toInt = true := by
    have h := m2.2 _ List.mem_cons_self
    rw [← y3]
    exact h
  have ea : ρ3.1 2848 = (sd X ρ (.op2 .ior (.arg 2848) (.int 0))).1 := congrArg Prod.fst (m5 (2848, .op2 .ior (.arg 2848) (.int 0)) (List.mem_cons_of_mem _ List.mem_cons_self))
  have eL : ρ3.1 60578 = ρ.1 60578 := (m4.1 60578 (by decide) (by decide)).1.trans (k4.1 60578 (by decide) (by decide)).1.symm
  have mo : sc X ρ3 (2, .op2 .iand (.op2 .iushr (.arg 2848) (.int 4)) (.int 1), .arg 60578) = false := by
    show decide (((ρ3.1 2848).toUInt32 >>> ((4 : Int32).toUInt32 &&& (31 : Int32).toUInt32)).toInt32 &&& 1 < ρ3.1 60578) = false
    rw [ea, eL]
    have q := tbv_ok (X := X) (ρ := ρ) (F := []) (a := .op2 .iand (.op2 .iushr (.op2 .ior (.arg 2848) (.int 0)) (.int 4)) (.int 1)) (b := .op2 .iand (.op2 .iushr (.arg 2848) (.int 4)) (.int 1)) ⟨hF.1, fun f hf => by cases hf⟩ (by decide +kernel)
    rw [sv_int rfl, sv_int rfl] at q
    exact mn_e (Value.int.inj q) (of_decide_eq_true (hF.2 _ (List.mem_cons_of_mem _ (List.mem_cons_of_mem _ (List.mem_cons_of_mem _ (List.mem_cons_of_mem _ (List.mem_cons_self)))))))
  exact t_wE2 hv ρ3 m1 ⟨m2.1, fcn (ev_nm (g := ρ.2.2.2.1 1761) (p := 139) (hF.2 _ (List.mem_cons_of_mem _ (List.mem_cons_of_mem _ (List.mem_cons_self)))) hk hA (by decide +kernel)) (fcn (pd_up (X := X) (p := 139) (c := 0) (z := []) (hF.2 _ (List.mem_cons_of_mem _ (List.mem_cons_of_mem _ (List.mem_cons_of_mem _ (List.mem_cons_self))))) hA (fun x hx => m5 x (List.mem_cons_of_mem _ hx)) k4 m4 wm_2 wb_2 (by decide +kernel)) (fcn (mo) (fnl)))⟩ m3 m4)))
theorem t_wq139 {X : pX} {ρ0 : sR} (hv : vok X ρ0) : CUTOK X kR zWP c_wn2 8 ρ0 q_wq139 := CUT_mono (t_wq139i hv) (fun ρ hF hI => by
  have b0 := rl_lf (x := ρ.2.1 60033) (y := 0) (hF.2 _ (List.mem_cons_self))
  have b1 := rl_lf (x := 4294967295) (y := ρ.2.1 60033) (hF.2 _ (List.mem_cons_of_mem _ (List.mem_cons_self)))
  have y0 : (0 : Int64).toInt = 0 := by decide +kernel
  have y1 : (4294967295 : Int64).toInt = 4294967295 := by decide +kernel
  rw [y0] at b0
  rw [y1] at b1
  exact ⟨hF, ik_c (fun hg => by
    have c0 := rl_lf (x := ρ.2.1 60033) (y := 1) (hg _ List.mem_cons_self)
    have c1 := rl_lf (x := 100000000) (y := ρ.2.1 60033) (hg _ (List.mem_cons_of_mem _ List.mem_cons_self))
    have z0 : (1 : Int64).toInt = 1 := by decide +kernel
    have z1 : (100000000 : Int64).toInt = 100000000 := by decide +kernel
    rw [z0] at c0
    rw [z1] at c1
    exact wn_129 (p := 139) (q := 139) rfl et_139 c0 c1 rfl) (hI)⟩)
theorem e_wp139 : frun kR [] (cpl1 zWP (c_wp2 139) [q_wq139]) (cpl2 zWP (c_wp2 139) [q_wq139]) (cleaf kR zWP (c_wp2 139) [q_wq139]) 300 65536 (isatP ((c_wp2 139).2.2.2.1) (c_wp2 139).2.2.2.2.2.2.2.1) (c_wp2 139).2.2.2.2.2.2.2.1 (sin0 mt_all (c_wp2 139).1.1 8 (c_wp2 139).2.1.1 (foot zWP (c_wp2 139).2.2.1.1)) (sin0 mt_all (c_wp2 139).1.2.1 8 (c_wp2 139).2.1.2 (foot zWP (c_wp2 139).2.2.1.2)) = true := by decide +kernel
theorem s_wp139 {X : pX} : SREL X pF pdfl mt_all kR zWP (c_wp2 139) := SREL_QC kR_x kR_0 (Cs := []) (fun C hC => by cases hC) (d := 8) rfl (c_wp2_f 139) (Q := [q_wq139]) (fun ρ0 hv => fun q hq => by
    simp only [List.mem_cons, List.not_mem_nil, or_false] at hq
    rw [hq]; exact (t_wq139 hv : CUTOK X kR zWP c_wn2 8 ρ0 q_wq139)) (QC_run 300 e_wp139)
theorem et_140 : evt[140]? = some (1, 100000000, 0) := by decide +kernel
noncomputable def q_wR140 : sCut := ((fr 0 10 53 [] [], [fr 0 5 23 [(4, .int 0)] [], fBot], 7), (fr 0 281 150 [] [], [fr 0 277 91 [(3, .int 0)] [], fBot], 7), [((129, .int 140, .arg 60033), true)], [zi98vc_0, zi98vc_1])
noncomputable def q_wq140 : sCut := ((fr 0 5 0 [(0, tr 57), (1, .int 140), (2, .arg 60033)] [], [fBot], 8), (fr 0 277 60 [(0, tr 219), (1, .arg 1308), (2, .int 140), (4, .arg 60033)] [], [fBot], 8), [zf98vc_2, zf98vc_3, zf98vc_4, zf98vc_5, zf98vc_6, zf98vc_7], [zi98vc_0, zi98vc_1])
noncomputable def q_wq140i : sCut := ((fr 0 5 0 [(0, tr 57), (1, .int 140), (2, .arg 60033)] [], [fBot], 8), (fr 0 277 60 [(0, tr 219), (1, .arg 1308), (2, .int 140), (4, .arg 60033)] [], [fBot], 8), [zf98vc_2, zf98vc_3, zf98vc_4, zf98vc_5, zf98vc_6, zf98vc_7], [([((8, .arg 60033, .long 1), false), ((8, .long 100000000, .arg 60033), false)], (129, .int 140, .arg 60033), true), zi98vc_0, zi98vc_1])
noncomputable def w_wq140i : List (sCut × List (Nat × sT) × List (Nat × sT × List (sT × sT))) := [(q_wR140, [(60033, .arg 60033), (2848, .op2 .ior (.arg 2848) (.int 0)), (6850, .arg 6850), (6882, .arg 6882), (6914, .arg 6914), (6946, .arg 6946), (7362, .arg 7362), (7394, .arg 7394), (7426, .arg 7426), (7458, .arg 7458), (7874, .arg 7874), (7906, .arg 7906), (7938, .arg 7938), (7970, .arg 7970), (21216, .arg 21216), (21248, .arg 21248), (21280, .arg 21280), (21312, .arg 21312), (6466, .arg 6466), (6498, .arg 6498)], [(1761, .arg 1761, [(.int 140, .arg 60033)])])]
theorem k_wq140i : cbody kR [] (cpl1 zWP c_wn2 [q_wR140]) (cpl2 zWP c_wn2 [q_wR140]) (cleafB kR zWP c_wn2 w_wq140i) 1500 true true q_wq140i.2.2.1 q_wq140i.2.2.2 (cst zWP c_wn2.2.2.1.1 q_wq140i.1) (cst zWP c_wn2.2.2.1.2 q_wq140i.2.1) = true := by decide +kernel
theorem t_wq140i {X : pX} {ρ0 : sR} (hv : vok X ρ0) : CUTOK X kR zWP c_wn2 8 ρ0 q_wq140i := CUTOK_AT (fun ρ k1 hF hI k4 => AT_of (q := q_wq140i) rfl rfl (SEM_runB kR_x kR_0 (Cs := []) (fun C hC => by cases hC) c_wn2_f (Q := w_wq140i) hv 1500 (b1 := true) (b2 := true) k_wq140i k1 hF hI k4 (fun p hp ρ3 m1 m2 m3 m4 m5 m6 => by
  rw [List.mem_singleton.mp hp] at m2 m3 m5 m6 ⊢
  have y3 : ρ3.2.1 60033 = ρ.2.1 60033 := congrArg Prod.snd (m5 (60033, .arg 60033) List.mem_cons_self)
  have hA : ∀ j, ρ3.2.2.2.1 1761 j = if 140 = j then ρ.2.1 60033 else ρ.2.2.2.1 1761 j := fun j => ad_l (X := X) (p := 140) (t := .arg 60033) rfl (m6 _ List.mem_cons_self) j
  have hk : evk 140 (ρ.2.1 60033).toInt = true := by
    have h := m2.2 _ List.mem_cons_self
    rw [← y3]
    exact h
  have ea : ρ3.1 2848 = (sd X ρ (.op2 .ior (.arg 2848) (.int 0))).1 := congrArg Prod.fst (m5 (2848, .op2 .ior (.arg 2848) (.int 0)) (List.mem_cons_of_mem _ List.mem_cons_self))
  have eL : ρ3.1 60578 = ρ.1 60578 := (m4.1 60578 (by decide) (by decide)).1.trans (k4.1 60578 (by decide) (by decide)).1.symm
  have mo : sc X ρ3 (2, .op2 .iand (.op2 .iushr (.arg 2848) (.int 4)) (.int 1), .arg 60578) = false := by
    show decide (((ρ3.1 2848).toUInt32 >>> ((4 : Int32).toUInt32 &&& (31 : Int32).toUInt32)).toInt32 &&& 1 < ρ3.1 60578) = false
    rw [ea, eL]
    have q := tbv_ok (X := X) (ρ := ρ) (F := []) (a := .op2 .iand (.op2 .iushr (.op2 .ior (.arg 2848) (.int 0)) (.int 4)) (.int 1)) (b := .op2 .iand (.op2 .iushr (.arg 2848) (.int 4)) (.int 1)) ⟨hF.1, fun f hf => by cases hf⟩ (by decide +kernel)
    rw [sv_int rfl, sv_int rfl] at q
    exact mn_e (Value.int.inj q) (of_decide_eq_true (hF.2 _ (List.mem_cons_of_mem _ (List.mem_cons_of_mem _ (List.mem_cons_of_mem _ (List.mem_cons_of_mem _ (List.mem_cons_self)))))))
  exact t_wE2 hv ρ3 m1 ⟨m2.1, fcn (ev_nm (g := ρ.2.2.2.1 1761) (p := 140) (hF.2 _ (List.mem_cons_of_mem _ (List.mem_cons_of_mem _ (List.mem_cons_self)))) hk hA (by decide +kernel)) (fcn (pd_up (X := X) (p := 140) (c := 0) (z := []) (hF.2 _ (List.mem_cons_of_mem _ (List.mem_cons_of_mem _ (List.mem_cons_of_mem _ (List.mem_cons_self))))) hA (fun x hx => m5 x (List.mem_cons_of_mem _ hx)) k4 m4 wm_2 wb_2 (by decide +kernel)) (fcn (mo) (fnl)))⟩ m3 m4)))
theorem t_wq140 {X : pX} {ρ0 : sR} (hv : vok X ρ0) : CUTOK X kR zWP c_wn2 8 ρ0 q_wq140 := CUT_mono (t_wq140i hv) (fun ρ hF hI => by
  have b0 := rl_lf (x := ρ.2.1 60033) (y := 0) (hF.2 _ (List.mem_cons_self))
  have b1 := rl_lf (x := 4294967295) (y := ρ.2.1 60033) (hF.2 _ (List.mem_cons_of_mem _ (List.mem_cons_self)))
  have y0 : (0 : Int64).toInt = 0 := by decide +kernel
  have y1 : (4294967295 : Int64).toInt = 4294967295 := by decide +kernel
  rw [y0] at b0
  rw [y1] at b1
  exact ⟨hF, ik_c (fun hg => by
    have c0 := rl_lf (x := ρ.2.1 60033) (y := 1) (hg _ List.mem_cons_self)
    have c1 := rl_lf (x := 100000000) (y := ρ.2.1 60033) (hg _ (List.mem_cons_of_mem _ List.mem_cons_self))
    have z0 : (1 : Int64).toInt = 1 := by decide +kernel
    have z1 : (100000000 : Int64).toInt = 100000000 := by decide +kernel
    rw [z0] at c0
    rw [z1] at c1
    exact wn_129 (p := 140) (q := 140) rfl et_140 c0 c1 rfl) (hI)⟩)
theorem e_wp140 : frun kR [] (cpl1 zWP (c_wp2 140) [q_wq140]) (cpl2 zWP (c_wp2 140) [q_wq140]) (cleaf kR zWP (c_wp2 140) [q_wq140]) 300 65536 (isatP ((c_wp2 140).2.2.2.1) (c_wp2 140).2.2.2.2.2.2.2.1) (c_wp2 140).2.2.2.2.2.2.2.1 (sin0 mt_all (c_wp2 140).1.1 8 (c_wp2 140).2.1.1 (foot zWP (c_wp2 140).2.2.1.1)) (sin0 mt_all (c_wp2 140).1.2.1 8 (c_wp2 140).2.1.2 (foot zWP (c_wp2 140).2.2.1.2)) = true := by decide +kernel
theorem s_wp140 {X : pX} : SREL X pF pdfl mt_all kR zWP (c_wp2 140) := SREL_QC kR_x kR_0 (Cs := []) (fun C hC => by cases hC) (d := 8) rfl (c_wp2_f 140) (Q := [q_wq140]) (fun ρ0 hv => fun q hq => by
    simp only [List.mem_cons, List.not_mem_nil, or_false] at hq
    rw [hq]; exact (t_wq140 hv : CUTOK X kR zWP c_wn2 8 ρ0 q_wq140)) (QC_run 300 e_wp140)
theorem et_141 : evt[141]? = some (1, 100000000, 0) := by decide +kernel
noncomputable def q_wR141 : sCut := ((fr 0 10 53 [] [], [fr 0 5 23 [(4, .int 0)] [], fBot], 7), (fr 0 281 150 [] [], [fr 0 277 91 [(3, .int 0)] [], fBot], 7), [((129, .int 141, .arg 60033), true)], [zi98vc_0, zi98vc_1])
noncomputable def q_wq141 : sCut := ((fr 0 5 0 [(0, tr 57), (1, .int 141), (2, .arg 60033)] [], [fBot], 8), (fr 0 277 60 [(0, tr 219), (1, .arg 1308), (2, .int 141), (4, .arg 60033)] [], [fBot], 8), [zf98vc_2, zf98vc_3, zf98vc_4, zf98vc_5, zf98vc_6, zf98vc_7], [zi98vc_0, zi98vc_1])
noncomputable def q_wq141i : sCut := ((fr 0 5 0 [(0, tr 57), (1, .int 141), (2, .arg 60033)] [], [fBot], 8), (fr 0 277 60 [(0, tr 219), (1, .arg 1308), (2, .int 141), (4, .arg 60033)] [], [fBot], 8), [zf98vc_2, zf98vc_3, zf98vc_4, zf98vc_5, zf98vc_6, zf98vc_7], [([((8, .arg 60033, .long 1), false), ((8, .long 100000000, .arg 60033), false)], (129, .int 141, .arg 60033), true), zi98vc_0, zi98vc_1])
noncomputable def w_wq141i : List (sCut × List (Nat × sT) × List (Nat × sT × List (sT × sT))) := [(q_wR141, [(60033, .arg 60033), (2848, .op2 .ior (.arg 2848) (.int 0)), (6850, .arg 6850), (6882, .arg 6882), (6914, .arg 6914), (6946, .arg 6946), (7362, .arg 7362), (7394, .arg 7394), (7426, .arg 7426), (7458, .arg 7458), (7874, .arg 7874), (7906, .arg 7906), (7938, .arg 7938), (7970, .arg 7970), (21216, .arg 21216), (21248, .arg 21248), (21280, .arg 21280), (21312, .arg 21312), (6466, .arg 6466), (6498, .arg 6498)], [(1761, .arg 1761, [(.int 141, .arg 60033)])])]
theorem k_wq141i : cbody kR [] (cpl1 zWP c_wn2 [q_wR141]) (cpl2 zWP c_wn2 [q_wR141]) (cleafB kR zWP c_wn2 w_wq141i) 1500 true true q_wq141i.2.2.1 q_wq141i.2.2.2 (cst zWP c_wn2.2.2.1.1 q_wq141i.1) (cst zWP c_wn2.2.2.1.2 q_wq141i.2.1) = true := by decide +kernel
theorem t_wq141i {X : pX} {ρ0 : sR} (hv : vok X ρ0) : CUTOK X kR zWP c_wn2 8 ρ0 q_wq141i := CUTOK_AT (fun ρ k1 hF hI k4 => AT_of (q := q_wq141i) rfl rfl (SEM_runB kR_x kR_0 (Cs := []) (fun C hC => by cases hC) c_wn2_f (Q := w_wq141i) hv 1500 (b1 := true) (b2 := true) k_wq141i k1 hF hI k4 (fun p hp ρ3 m1 m2 m3 m4 m5 m6 => by
  rw [List.mem_singleton.mp hp] at m2 m3 m5 m6 ⊢
  have y3 : ρ3.2.1 60033 = ρ.2.1 60033 := congrArg Prod.snd (m5 (60033, .arg 60033) List.mem_cons_self)
  have hA : ∀ j, ρ3.2.2.2.1 1761 j = if 141 = j then ρ.2.1 60033 else ρ.2.2.2.1 1761 j := fun j => ad_l (X := X) (p := 141) (t := .arg 60033) rfl (m6 _ List.mem_cons_self) j
  have hk : evk 141 (ρ.2.1 60033).toInt = true := by
    have h := m2.2 _ List.mem_cons_self
    rw [← y3]
    exact h
  have ea : ρ3.1 2848 = (sd X ρ (.op2 .ior (.arg 2848) (.int 0))).1 := congrArg Prod.fst (m5 (2848, .op2 .ior (.arg 2848) (.int 0)) (List.mem_cons_of_mem _ List.mem_cons_self))
  have eL : ρ3.1 60578 = ρ.1 60578 := (m4.1 60578 (by decide) (by decide)).1.trans (k4.1 60578 (by decide) (by decide)).1.symm
  have mo : sc X ρ3 (2, .op2 .iand (.op2 .iushr (.arg 2848) (.int 4)) (.int 1), .arg 60578) = false := by
    show decide (((ρ3.1 2848).toUInt32 >>> ((4 : Int32).toUInt32 &&& (31 : Int32).toUInt32)).toInt32 &&& 1 < ρ3.1 60578) = false
    rw [ea, eL]
    have q := tbv_ok (X := X) (ρ := ρ) (F := []) (a := .op2 .iand (.op2 .iushr (.op2 .ior (.arg 2848) (.int 0)) (.int 4)) (.int 1)) (b := .op2 .iand (.op2 .iushr (.arg 2848) (.int 4)) (.int 1)) ⟨hF.1, fun f hf => by cases hf⟩ (by decide +kernel)
    rw [sv_int rfl, sv_int rfl] at q
    exact mn_e (Value.int.inj q) (of_decide_eq_true (hF.2 _ (List.mem_cons_of_mem _ (List.mem_cons_of_mem _ (List.mem_cons_of_mem _ (List.mem_cons_of_mem _ (List.mem_cons_self)))))))
  exact t_wE2 hv ρ3 m1 ⟨m2.1, fcn (ev_nm (g := ρ.2.2.2.1 1761) (p := 141) (hF.2 _ (List.mem_cons_of_mem _ (List.mem_cons_of_mem _ (List.mem_cons_self)))) hk hA (by decide +kernel)) (fcn (pd_up (X := X) (p := 141) (c := 0) (z := []) (hF.2 _ (List.mem_cons_of_mem _ (List.mem_cons_of_mem _ (List.mem_cons_of_mem _ (List.mem_cons_self))))) hA (fun x hx => m5 x (List.mem_cons_of_mem _ hx)) k4 m4 wm_2 wb_2 (by decide +kernel)) (fcn (mo) (fnl)))⟩ m3 m4)))
theorem t_wq141 {X : pX} {ρ0 : sR} (hv : vok X ρ0) : CUTOK X kR zWP c_wn2 8 ρ0 q_wq141 := CUT_mono (t_wq141i hv) (fun ρ hF hI => by
  have b0 := rl_lf (x := ρ.2.1 60033) (y := 0) (hF.2 _ (List.mem_cons_self))
  have b1 := rl_lf (x := 4294967295) (y := ρ.2.1 60033) (hF.2 _ (List.mem_cons_of_mem _ (List.mem_cons_self)))
  have y0 : (0 : Int64).toInt = 0 := by decide +kernel
  have y1 : (4294967295 : Int64).toInt = 4294967295 := by decide +kernel
  rw [y0] at b0
  rw [y1] at b1
  exact ⟨hF, ik_c (fun hg => by
    have c0 := rl_lf (x := ρ.2.1 60033) (y := 1) (hg _ List.mem_cons_self)
    have c1 := rl_lf (x := 100000000) (y := ρ.2.1 60033) (hg _ (List.mem_cons_of_mem _ List.mem_cons_self))
    have z0 : (1 : Int64).toInt = 1 := by decide +kernel
    have z1 : (100000000 : Int64).toInt = 100000000 := by decide +kernel
    rw [z0] at c0
    rw [z1] at c1
    exact wn_129 (p := 141) (q := 141) rfl et_141 c0 c1 rfl) (hI)⟩)
theorem e_wp141 : frun kR [] (cpl1 zWP (c_wp2 141) [q_wq141]) (cpl2 zWP (c_wp2 141) [q_wq141]) (cleaf kR zWP (c_wp2 141) [q_wq141]) 300 65536 (isatP ((c_wp2 141).2.2.2.1) (c_wp2 141).2.2.2.2.2.2.2.1) (c_wp2 141).2.2.2.2.2.2.2.1 (sin0 mt_all (c_wp2 141).1.1 8 (c_wp2 141).2.1.1 (foot zWP (c_wp2 141).2.2.1.1)) (sin0 mt_all (c_wp2 141).1.2.1 8 (c_wp2 141).2.1.2 (foot zWP (c_wp2 141).2.2.1.2)) = true := by decide +kernel
theorem s_wp141 {X : pX} : SREL X pF pdfl mt_all kR zWP (c_wp2 141) := SREL_QC kR_x kR_0 (Cs := []) (fun C hC => by cases hC) (d := 8) rfl (c_wp2_f 141) (Q := [q_wq141]) (fun ρ0 hv => fun q hq => by
    simp only [List.mem_cons, List.not_mem_nil, or_false] at hq
    rw [hq]; exact (t_wq141 hv : CUTOK X kR zWP c_wn2 8 ρ0 q_wq141)) (QC_run 300 e_wp141)
theorem et_144 : evt[144]? = some (1, 2000000, 0) := by decide +kernel
noncomputable def q_wR144 : sCut := ((fr 0 10 53 [] [], [fr 0 5 23 [(4, .int 0)] [], fBot], 7), (fr 0 281 150 [] [], [fr 0 277 91 [(3, .int 0)] [], fBot], 7), [((129, .int 144, .arg 60033), true)], [zi98vc_0, zi98vc_1])
noncomputable def q_wq144 : sCut := ((fr 0 5 0 [(0, tr 57), (1, .int 144), (2, .arg 60033)] [], [fBot], 8), (fr 0 277 60 [(0, tr 219), (1, .arg 1308), (2, .int 144), (4, .arg 60033)] [], [fBot], 8), [zf98vc_2, zf98vc_3, zf98vc_4, zf98vc_5, zf98vc_6, zf98vc_7], [zi98vc_0, zi98vc_1])
noncomputable def q_wq144i : sCut := ((fr 0 5 0 [(0, tr 57), (1, .int 144), (2, .arg 60033)] [], [fBot], 8), (fr 0 277 60 [(0, tr 219), (1, .arg 1308), (2, .int 144), (4, .arg 60033)] [], [fBot], 8), [zf98vc_2, zf98vc_3, zf98vc_4, zf98vc_5, zf98vc_6, zf98vc_7], [([((8, .arg 60033, .long 1), false), ((8, .long 2000000, .arg 60033), false)], (129, .int 144, .arg 60033), true), zi98vc_0, zi98vc_1])
noncomputable def w_wq144i : List (sCut × List (Nat × sT) × List (Nat × sT × List (sT × sT))) := [(q_wR144, [(60033, .arg 60033), (2848, .op2 .ior (.arg 2848) (.int 0)), (6850, .arg 6850), (6882, .arg 6882), (6914, .arg 6914), (6946, .arg 6946), (7362, .arg 7362), (7394, .arg 7394), (7426, .arg 7426), (7458, .arg 7458), (7874, .arg 7874), (7906, .arg 7906), (7938, .arg 7938), (7970, .arg 7970), (21216, .arg 21216), (21248, .arg 21248), (21280, .arg 21280), (21312, .arg 21312), (6466, .arg 6466), (6498, .arg 6498)], [(1761, .arg 1761, [(.int 144, .arg 60033)])])]
theorem k_wq144i : cbody kR [] (cpl1 zWP c_wn2 [q_wR144]) (cpl2 zWP c_wn2 [q_wR144]) (cleafB kR zWP c_wn2 w_wq144i) 1500 true true q_wq144i.2.2.1 q_wq144i.2.2.2 (cst zWP c_wn2.2.2.1.1 q_wq144i.1) (cst zWP c_wn2.2.2.1.2 q_wq144i.2.1) = true := by decide +kernel
theorem t_wq144i {X : pX} {ρ0 : sR} (hv : vok X ρ0) : CUTOK X kR zWP c_wn2 8 ρ0 q_wq144i := CUTOK_AT (fun ρ k1 hF hI k4 => AT_of (q := q_wq144i) rfl rfl (SEM_runB kR_x kR_0 (Cs := []) (fun C hC => by cases hC) c_wn2_f (Q := w_wq144i) hv 1500 (b1 := true) (b2 := true) k_wq144i k1 hF hI k4 (fun p hp ρ3 m1 m2 m3 m4 m5 m6 => by
  rw [List.mem_singleton.mp hp] at m2 m3 m5 m6 ⊢
  have y3 : ρ3.2.1 60033 = ρ.2.1 60033 := congrArg Prod.snd (m5 (60033, .arg 60033) List.mem_cons_self)
  have hA : ∀ j, ρ3.2.2.2.1 1761 j = if 144 = j then ρ.2.1 60033 else ρ.2.2.2.1 1761 j := fun j => ad_l (X := X) (p := 144) (t := .arg 60033) rfl (m6 _ List.mem_cons_self) j
  have hk : evk 144 (ρ.2.1 60033).toInt = true := by
    have h := m2.2 _ List.mem_cons_self
    rw [← y3]
    exact h
  have ea : ρ3.1 2848 = (sd X ρ (.op2 .ior (.arg 2848) (.int 0))).1 := congrArg Prod.fst (m5 (2848, .op2 .ior (.arg 2848) (.int 0)) (List.mem_cons_of_mem _ List.mem_cons_self))
  have eL : ρ3.1 60578 = ρ.1 60578 := (m4.1 60578 (by decide) (by decide)).1.trans (k4.1 60578 (by decide) (by decide)).1.symm
  have mo : sc X ρ3 (2, .op2 .iand (.op2 .iushr (.arg 2848) (.int 4)) (.int 1), .arg 60578) = false := by
    show decide (((ρ3.1 2848).toUInt32 >>> ((4 : Int32).toUInt32 &&& (31 : Int32).toUInt32)).toInt32 &&& 1 < ρ3.1 60578) = false
    rw [ea, eL]
    have q := tbv_ok (X := X) (ρ := ρ) (F := []) (a := .op2 .iand (.op2 .iushr (.op2 .ior (.arg 2848) (.int 0)) (.int 4)) (.int 1)) (b := .op2 .iand (.op2 .iushr (.arg 2848) (.int 4)) (.int 1)) ⟨hF.1, fun f hf => by cases hf⟩ (by decide +kernel)
    rw [sv_int rfl, sv_int rfl] at q
    exact mn_e (Value.int.inj q) (of_decide_eq_true (hF.2 _ (List.mem_cons_of_mem _ (List.mem_cons_of_mem _ (List.mem_cons_of_mem _ (List.mem_cons_of_mem _ (List.mem_cons_self)))))))
  exact t_wE2 hv ρ3 m1 ⟨m2.1, fcn (ev_nm (g := ρ.2.2.2.1 1761) (p := 144) (hF.2 _ (List.mem_cons_of_mem _ (List.mem_cons_of_mem _ (List.mem_cons_self)))) hk hA (by decide +kernel)) (fcn (pd_up (X := X) (p := 144) (c := 0) (z := []) (hF.2 _ (List.mem_cons_of_mem _ (List.mem_cons_of_mem _ (List.mem_cons_of_mem _ (List.mem_cons_self))))) hA (fun x hx => m5 x (List.mem_cons_of_mem _ hx)) k4 m4 wm_2 wb_2 (by decide +kernel)) (fcn (mo) (fnl)))⟩ m3 m4)))
theorem t_wq144 {X : pX} {ρ0 : sR} (hv : vok X ρ0) : CUTOK X kR zWP c_wn2 8 ρ0 q_wq144 := CUT_mono (t_wq144i hv) (fun ρ hF hI => by
  have b0 := rl_lf (x := ρ.2.1 60033) (y := 0) (hF.2 _ (List.mem_cons_self))
  have b1 := rl_lf (x := 4294967295) (y := ρ.2.1 60033) (hF.2 _ (List.mem_cons_of_mem _ (List.mem_cons_self)))
  have y0 : (0 : Int64).toInt = 0 := by decide +kernel
  have y1 : (4294967295 : Int64).toInt = 4294967295 := by decide +kernel
  rw [y0] at b0
  rw [y1] at b1
  exact ⟨hF, ik_c (fun hg => by
    have c0 := rl_lf (x := ρ.2.1 60033) (y := 1) (hg _ List.mem_cons_self)
    have c1 := rl_lf (x := 2000000) (y := ρ.2.1 60033) (hg _ (List.mem_cons_of_mem _ List.mem_cons_self))
    have z0 : (1 : Int64).toInt = 1 := by decide +kernel
    have z1 : (2000000 : Int64).toInt = 2000000 := by decide +kernel
    rw [z0] at c0
    rw [z1] at c1
    exact wn_129 (p := 144) (q := 144) rfl et_144 c0 c1 rfl) (hI)⟩)
theorem e_wp144 : frun kR [] (cpl1 zWP (c_wp2 144) [q_wq144]) (cpl2 zWP (c_wp2 144) [q_wq144]) (cleaf kR zWP (c_wp2 144) [q_wq144]) 300 65536 (isatP ((c_wp2 144).2.2.2.1) (c_wp2 144).2.2.2.2.2.2.2.1) (c_wp2 144).2.2.2.2.2.2.2.1 (sin0 mt_all (c_wp2 144).1.1 8 (c_wp2 144).2.1.1 (foot zWP (c_wp2 144).2.2.1.1)) (sin0 mt_all (c_wp2 144).1.2.1 8 (c_wp2 144).2.1.2 (foot zWP (c_wp2 144).2.2.1.2)) = true := by decide +kernel
theorem s_wp144 {X : pX} : SREL X pF pdfl mt_all kR zWP (c_wp2 144) := SREL_QC kR_x kR_0 (Cs := []) (fun C hC => by cases hC) (d := 8) rfl (c_wp2_f 144) (Q := [q_wq144]) (fun ρ0 hv => fun q hq => by
    simp only [List.mem_cons, List.not_mem_nil, or_false] at hq
    rw [hq]; exact (t_wq144 hv : CUTOK X kR zWP c_wn2 8 ρ0 q_wq144)) (QC_run 300 e_wp144)
theorem et_145 : evt[145]? = some (1, 2000000, 0) := by decide +kernel
noncomputable def q_wR145 : sCut := ((fr 0 10 53 [] [], [fr 0 5 23 [(4, .int 0)] [], fBot], 7), (fr 0 281 150 [] [], [fr 0 277 91 [(3, .int 0)] [], fBot], 7), [((129, .int 145, .arg 60033), true)], [zi98vc_0, zi98vc_1])
noncomputable def q_wq145 : sCut := ((fr 0 5 0 [(0, tr 57), (1, .int 145), (2, .arg 60033)] [], [fBot], 8), (fr 0 277 60 [(0, tr 219), (1, .arg 1308), (2, .int 145), (4, .arg 60033)] [], [fBot], 8), [zf98vc_2, zf98vc_3, zf98vc_4, zf98vc_5, zf98vc_6, zf98vc_7], [zi98vc_0, zi98vc_1])
noncomputable def q_wq145i : sCut := ((fr 0 5 0 [(0, tr 57), (1, .int 145), (2, .arg 60033)] [], [fBot], 8), (fr 0 277 60 [(0, tr 219), (1, .arg 1308), (2, .int 145), (4, .arg 60033)] [], [fBot], 8), [zf98vc_2, zf98vc_3, zf98vc_4, zf98vc_5, zf98vc_6, zf98vc_7], [([((8, .arg 60033, .long 1), false), ((8, .long 2000000, .arg 60033), false)], (129, .int 145, .arg 60033), true), zi98vc_0, zi98vc_1])
noncomputable def w_wq145i : List (sCut × List (Nat × sT) × List (Nat × sT × List (sT × sT))) := [(q_wR145, [(60033, .arg 60033), (2848, .op2 .ior (.arg 2848) (.int 0)), (6850, .arg 6850), (6882, .arg 6882), (6914, .arg 6914), (6946, .arg 6946), (7362, .arg 7362), (7394, .arg 7394), (7426, .arg 7426), (7458, .arg 7458), (7874, .arg 7874), (7906, .arg 7906), (7938, .arg 7938), (7970, .arg 7970), (21216, .arg 21216), (21248, .arg 21248), (21280, .arg 21280), (21312, .arg 21312), (6466, .arg 6466), (6498, .arg 6498)], [(1761, .arg 1761, [(.int 145, .arg 60033)])])]
theorem k_wq145i : cbody kR [] (cpl1 zWP c_wn2 [q_wR145]) (cpl2 zWP c_wn2 [q_wR145]) (cleafB kR zWP c_wn2 w_wq145i) 1500 true true q_wq145i.2.2.1 q_wq145i.2.2.2 (cst zWP c_wn2.2.2.1.1 q_wq145i.1) (cst zWP c_wn2.2.2.1.2 q_wq145i.2.1) = true := by decide +kernel
theorem t_wq145i {X : pX} {ρ0 : sR} (hv : vok X ρ0) : CUTOK X kR zWP c_wn2 8 ρ0 q_wq145i := CUTOK_AT (fun ρ k1 hF hI k4 => AT_of (q := q_wq145i) rfl rfl (SEM_runB kR_x kR_0 (Cs := []) (fun C hC => by cases hC) c_wn2_f (Q := w_wq145i) hv 1500 (b1 := true) (b2 := true) k_wq145i k1 hF hI k4 (fun p hp ρ3 m1 m2 m3 m4 m5 m6 => by
  rw [List.mem_singleton.mp hp] at m2 m3 m5 m6 ⊢
  have y3 : ρ3.2.1 60033 = ρ.2.1 60033 := congrArg Prod.snd (m5 (60033, .arg 60033) List.mem_cons_self)
  have hA : ∀ j, ρ3.2.2.2.1 1761 j = if 145 = j then ρ.2.1 60033 else ρ.2.2.2.1 1761 j := fun j => ad_l (X := X) (p := 145) (t := .arg 60033) rfl (m6 _ List.mem_cons_self) j
  have hk : evk 145 (ρ.2.1 60033).toInt = true := by
    have h := m2.2 _ List.mem_cons_self
    rw [← y3]
    exact h
  have ea : ρ3.1 2848 = (sd X ρ (.op2 .ior (.arg 2848) (.int 0))).1 := congrArg Prod.fst (m5 (2848, .op2 .ior (.arg 2848) (.int 0)) (List.mem_cons_of_mem _ List.mem_cons_self))
  have eL : ρ3.1 60578 = ρ.1 60578 := (m4.1 60578 (by decide) (by decide)).1.trans (k4.1 60578 (by decide) (by decide)).1.symm
  have mo : sc X ρ3 (2, .op2 .iand (.op2 .iushr (.arg 2848) (.int 4)) (.int 1), .arg 60578) = false := by
    show decide (((ρ3.1 2848).toUInt32 >>> ((4 : Int32).toUInt32 &&& (31 : Int32).toUInt32)).toInt32 &&& 1 < ρ3.1 60578) = false
    rw [ea, eL]
    have q := tbv_ok (X := X) (ρ := ρ) (F := []) (a := .op2 .iand (.op2 .iushr (.op2 .ior (.arg 2848) (.int 0)) (.int 4)) (.int 1)) (b := .op2 .iand (.op2 .iushr (.arg 2848) (.int 4)) (.int 1)) ⟨hF.1, fun f hf => by cases hf⟩ (by decide +kernel)
    rw [sv_int rfl, sv_int rfl] at q
    exact mn_e (Value.int.inj q) (of_decide_eq_true (hF.2 _ (List.mem_cons_of_mem _ (List.mem_cons_of_mem _ (List.mem_cons_of_mem _ (List.mem_cons_of_mem _ (List.mem_cons_self)))))))
  exact t_wE2 hv ρ3 m1 ⟨m2.1, fcn (ev_nm (g := ρ.2.2.2.1 1761) (p := 145) (hF.2 _ (List.mem_cons_of_mem _ (List.mem_cons_of_mem _ (List.mem_cons_self)))) hk hA (by decide +kernel)) (fcn (pd_up (X := X) (p := 145) (c := 0) (z := []) (hF.2 _ (List.mem_cons_of_mem _ (List.mem_cons_of_mem _ (List.mem_cons_of_mem _ (List.mem_cons_self))))) hA (fun x hx => m5 x (List.mem_cons_of_mem _ hx)) k4 m4 wm_2 wb_2 (by decide +kernel)) (fcn (mo) (fnl)))⟩ m3 m4)))
theorem t_wq145 {X : pX} {ρ0 : sR} (hv : vok X ρ0) : CUTOK X kR zWP c_wn2 8 ρ0 q_wq145 := CUT_mono (t_wq145i hv) (fun ρ hF hI => by
  have b0 := rl_lf (x := ρ.2.1 60033) (y := 0) (hF.2 _ (List.mem_cons_self))
  have b1 := rl_lf (x := 4294967295) (y := ρ.2.1 60033) (hF.2 _ (List.mem_cons_of_mem _ (List.mem_cons_self)))
  have y0 : (0 : Int64).toInt = 0 := by decide +kernel
  have y1 : (4294967295 : Int64).toInt = 4294967295 := by decide +kernel
  rw [y0] at b0
  rw [y1] at b1
  exact ⟨hF, ik_c (fun hg => by
    have c0 := rl_lf (x := ρ.2.1 60033) (y := 1) (hg _ List.mem_cons_self)
    have c1 := rl_lf (x := 2000000) (y := ρ.2.1 60033) (hg _ (List.mem_cons_of_mem _ List.mem_cons_self))
    have z0 : (1 : Int64).toInt = 1 := by decide +kernel
    have z1 : (2000000 : Int64).toInt = 2000000 := by decide +kernel
    rw [z0] at c0
    rw [z1] at c1
    exact wn_129 (p := 145) (q := 145) rfl et_145 c0 c1 rfl) (hI)⟩)
theorem e_wp145 : frun kR [] (cpl1 zWP (c_wp2 145) [q_wq145]) (cpl2 zWP (c_wp2 145) [q_wq145]) (cleaf kR zWP (c_wp2 145) [q_wq145]) 300 65536 (isatP ((c_wp2 145).2.2.2.1) (c_wp2 145).2.2.2.2.2.2.2.1) (c_wp2 145).2.2.2.2.2.2.2.1 (sin0 mt_all (c_wp2 145).1.1 8 (c_wp2 145).2.1.1 (foot zWP (c_wp2 145).2.2.1.1)) (sin0 mt_all (c_wp2 145).1.2.1 8 (c_wp2 145).2.1.2 (foot zWP (c_wp2 145).2.2.1.2)) = true := by decide +kernel
theorem s_wp145 {X : pX} : SREL X pF pdfl mt_all kR zWP (c_wp2 145) := SREL_QC kR_x kR_0 (Cs := []) (fun C hC => by cases hC) (d := 8) rfl (c_wp2_f 145) (Q := [q_wq145]) (fun ρ0 hv => fun q hq => by
    simp only [List.mem_cons, List.not_mem_nil, or_false] at hq
    rw [hq]; exact (t_wq145 hv : CUTOK X kR zWP c_wn2 8 ρ0 q_wq145)) (QC_run 300 e_wp145)
theorem et_146 : evt[146]? = some (1, 100000000, 0) := by decide +kernel
noncomputable def q_wR146 : sCut := ((fr 0 10 53 [] [], [fr 0 5 23 [(4, .int 0)] [], fBot], 7), (fr 0 281 150 [] [], [fr 0 277 91 [(3, .int 0)] [], fBot], 7), [((129, .int 146, .arg 60033), true)], [zi98vc_0, zi98vc_1])
noncomputable def q_wq146 : sCut := ((fr 0 5 0 [(0, tr 57), (1, .int 146), (2, .arg 60033)] [], [fBot], 8), (fr 0 277 60 [(0, tr 219), (1, .arg 1308), (2, .int 146), (4, .arg 60033)] [], [fBot], 8), [zf98vc_2, zf98vc_3, zf98vc_4, zf98vc_5, zf98vc_6, zf98vc_7], [zi98vc_0, zi98vc_1])
noncomputable def q_wq146i : sCut := ((fr 0 5 0 [(0, tr 57), (1, .int 146), (2, .arg 60033)] [], [fBot], 8), (fr 0 277 60 [(0, tr 219), (1, .arg 1308), (2, .int 146), (4, .arg 60033)] [], [fBot], 8), [zf98vc_2, zf98vc_3, zf98vc_4, zf98vc_5, zf98vc_6, zf98vc_7], [([((8, .arg 60033, .long 1), false), ((8, .long 100000000, .arg 60033), false)], (129, .int 146, .arg 60033), true), zi98vc_0, zi98vc_1])
noncomputable def w_wq146i : List (sCut × List (Nat × sT) × List (Nat × sT × List (sT × sT))) := [(q_wR146, [(60033, .arg 60033), (2848, .op2 .ior (.arg 2848) (.int 0)), (6850, .arg 6850), (6882, .arg 6882), (6914, .arg 6914), (6946, .arg 6946), (7362, .arg 7362), (7394, .arg 7394), (7426, .arg 7426), (7458, .arg 7458), (7874, .arg 7874), (7906, .arg 7906), (7938, .arg 7938), (7970, .arg 7970), (21216, .arg 21216), (21248, .arg 21248), (21280, .arg 21280), (21312, .arg 21312), (6466, .arg 6466), (6498, .arg 6498)], [(1761, .arg 1761, [(.int 146, .arg 60033)])])]
theorem k_wq146i : cbody kR [] (cpl1 zWP c_wn2 [q_wR146]) (cpl2 zWP c_wn2 [q_wR146]) (cleafB kR zWP c_wn2 w_wq146i) 1500 true true q_wq146i.2.2.1 q_wq146i.2.2.2 (cst zWP c_wn2.2.2.1.1 q_wq146i.1) (cst zWP c_wn2.2.2.1.2 q_wq146i.2.1) = true := by decide +kernel
theorem t_wq146i {X : pX} {ρ0 : sR} (hv : vok X ρ0) : CUTOK X kR zWP c_wn2 8 ρ0 q_wq146i := CUTOK_AT (fun ρ k1 hF hI k4 => AT_of (q := q_wq146i) rfl rfl (SEM_runB kR_x kR_0 (Cs := []) (fun C hC => by cases hC) c_wn2_f (Q := w_wq146i) hv 1500 (b1 := true) (b2 := true) k_wq146i k1 hF hI k4 (fun p hp ρ3 m1 m2 m3 m4 m5 m6 => by
  rw [List.mem_singleton.mp hp] at m2 m3 m5 m6 ⊢
  have y3 : ρ3.2.1 60033 = ρ.2.1 60033 := congrArg Prod.snd (m5 (60033, .arg 60033) List.mem_cons_self)
  have hA : ∀ j, ρ3.2.2.2.1 1761 j = if 146 = j then ρ.2.1 60033 else ρ.2.2.2.1 1761 j := fun j => ad_l (X := X) (p := 146) (t := .arg 60033) rfl (m6 _ List.mem_cons_self) j
  have hk : evk 146 (ρ.2.1 60033).toInt = true := by
    have h := m2.2 _ List.mem_cons_self
    rw [← y3]
    exact h
  have ea : ρ3.1 2848 = (sd X ρ (.op2 .ior (.arg 2848) (.int 0))).1 := congrArg Prod.fst (m5 (2848, .op2 .ior (.arg 2848) (.int 0)) (List.mem_cons_of_mem _ List.mem_cons_self))
  have eL : ρ3.1 60578 = ρ.1 60578 := (m4.1 60578 (by decide) (by decide)).1.trans (k4.1 60578 (by decide) (by decide)).1.symm
  have mo : sc X ρ3 (2, .op2 .iand (.op2 .iushr (.arg 2848) (.int 4)) (.int 1), .arg 60578) = false := by
    show decide (((ρ3.1 2848).toUInt32 >>> ((4 : Int32).toUInt32 &&& (31 : Int32).toUInt32)).toInt32 &&& 1 < ρ3.1 60578) = false
    rw [ea, eL]
    have q := tbv_ok (X := X) (ρ := ρ) (F := []) (a := .op2 .iand (.op2 .iushr (.op2 .ior (.arg 2848) (.int 0)) (.int 4)) (.int 1)) (b := .op2 .iand (.op2 .iushr (.arg 2848) (.int 4)) (.int 1)) ⟨hF.1, fun f hf => by cases hf⟩ (by decide +kernel)
    rw [sv_int rfl, sv_int rfl] at q
    exact mn_e (Value.int.inj q) (of_decide_eq_true (hF.2 _ (List.mem_cons_of_mem _ (List.mem_cons_of_mem _ (List.mem_cons_of_mem _ (List.mem_cons_of_mem _ (List.mem_cons_self)))))))
  exact t_wE2 hv ρ3 m1 ⟨m2.1, fcn (ev_nm (g := ρ.2.2.2.1 1761) (p := 146) (hF.2 _ (List.mem_cons_of_mem _ (List.mem_cons_of_mem _ (List.mem_cons_self)))) hk hA (by decide +kernel)) (fcn (pd_up (X := X) (p := 146) (c := 0) (z := []) (hF.2 _ (List.mem_cons_of_mem _ (List.mem_cons_of_mem _ (List.mem_cons_of_mem _ (List.mem_cons_self))))) hA (fun x hx => m5 x (List.mem_cons_of_mem _ hx)) k4 m4 wm_2 wb_2 (by decide +kernel)) (fcn (mo) (fnl)))⟩ m3 m4)))
theorem t_wq146 {X : pX} {ρ0 : sR} (hv : vok X ρ0) : CUTOK X kR zWP c_wn2 8 ρ0 q_wq146 := CUT_mono (t_wq146i hv) (fun ρ hF hI => by
  have b0 := rl_lf (x := ρ.2.1 60033) (y := 0) (hF.2 _ (List.mem_cons_self))
  have b1 := rl_lf (x := 4294967295) (y := ρ.2.1 60033) (hF.2 _ (List.mem_cons_of_mem _ (List.mem_cons_self)))
  have y0 : (0 : Int64).toInt = 0 := by decide +kernel
  have y1 : (4294967295 : Int64).toInt = 4294967295 := by decide +kernel
  rw [y0] at b0
  rw [y1] at b1
  exact ⟨hF, ik_c (fun hg => by
    have c0 := rl_lf (x := ρ.2.1 60033) (y := 1) (hg _ List.mem_cons_self)
    have c1 := rl_lf (x := 100000000) (y := ρ.2.1 60033) (hg _ (List.mem_cons_of_mem _ List.mem_cons_self))
    have z0 : (1 : Int64).toInt = 1 := by decide +kernel
    have z1 : (100000000 : Int64).toInt = 100000000 := by decide +kernel
    rw [z0] at c0
    rw [z1] at c1
    exact wn_129 (p := 146) (q := 146) rfl et_146 c0 c1 rfl) (hI)⟩)
theorem e_wp146 : frun kR [] (cpl1 zWP (c_wp2 146) [q_wq146]) (cpl2 zWP (c_wp2 146) [q_wq146]) (cleaf kR zWP (c_wp2 146) [q_wq146]) 300 65536 (isatP ((c_wp2 146).2.2.2.1) (c_wp2 146).2.2.2.2.2.2.2.1) (c_wp2 146).2.2.2.2.2.2.2.1 (sin0 mt_all (c_wp2 146).1.1 8 (c_wp2 146).2.1.1 (foot zWP (c_wp2 146).2.2.1.1)) (sin0 mt_all (c_wp2 146).1.2.1 8 (c_wp2 146).2.1.2 (foot zWP (c_wp2 146).2.2.1.2)) = true := by decide +kernel
theorem s_wp146 {X : pX} : SREL X pF pdfl mt_all kR zWP (c_wp2 146) := SREL_QC kR_x kR_0 (Cs := []) (fun C hC => by cases hC) (d := 8) rfl (c_wp2_f 146) (Q := [q_wq146]) (fun ρ0 hv => fun q hq => by
    simp only [List.mem_cons, List.not_mem_nil, or_false] at hq
    rw [hq]; exact (t_wq146 hv : CUTOK X kR zWP c_wn2 8 ρ0 q_wq146)) (QC_run 300 e_wp146)
theorem et_153 : evt[153]? = some (0, 4294967295, 0) := by decide +kernel
noncomputable def zf98vc_8 : sQ × Bool := ((129, .int 153, .arg 60033), true)
noncomputable def q_wR153 : sCut := ((fr 0 10 53 [] [], [fr 0 5 23 [(4, .int 0)] [], fBot], 7), (fr 0 281 150 [] [], [fr 0 277 91 [(3, .int 0)] [], fBot], 7), [zf98vc_8], [zi98vc_0, zi98vc_1])
noncomputable def q_wq153 : sCut := ((fr 0 5 0 [(0, tr 57), (1, .int 153), (2, .arg 60033)] [], [fBot], 8), (fr 0 277 60 [(0, tr 219), (1, .arg 1308), (2, .int 153), (4, .arg 60033)] [], [fBot], 8), [zf98vc_2, zf98vc_3, zf98vc_4, zf98vc_5, zf98vc_6, zf98vc_7], [zi98vc_0, zi98vc_1])
noncomputable def q_wq153i : sCut := ((fr 0 5 0 [(0, tr 57), (1, .int 153), (2, .arg 60033)] [], [fBot], 8), (fr 0 277 60 [(0, tr 219), (1, .arg 1308), (2, .int 153), (4, .arg 60033)] [], [fBot], 8), [zf98vc_8, zf98vc_2, zf98vc_3, zf98vc_4, zf98vc_5, zf98vc_6, zf98vc_7], [zi98vc_0, zi98vc_1])
noncomputable def w_wq153i : List (sCut × List (Nat × sT) × List (Nat × sT × List (sT × sT))) := [(q_wR153, [(60033, .arg 60033), (2848, .op2 .ior (.arg 2848) (.int 0)), (6850, .arg 6850), (6882, .arg 6882), (6914, .arg 6914), (6946, .arg 6946), (7362, .arg 7362), (7394, .arg 7394), (7426, .arg 7426), (7458, .arg 7458), (7874, .arg 7874), (7906, .arg 7906), (7938, .arg 7938), (7970, .arg 7970), (21216, .arg 21216), (21248, .arg 21248), (21280, .arg 21280), (21312, .arg 21312), (6466, .arg 6466), (6498, .arg 6498)], [(1761, .arg 1761, [(.int 153, .arg 60033)])])]
theorem k_wq153i : cbody kR [] (cpl1 zWP c_wn2 [q_wR153]) (cpl2 zWP c_wn2 [q_wR153]) (cleafB kR zWP c_wn2 w_wq153i) 1500 true true q_wq153i.2.2.1 q_wq153i.2.2.2 (cst zWP c_wn2.2.2.1.1 q_wq153i.1) (cst zWP c_wn2.2.2.1.2 q_wq153i.2.1) = true := by decide +kernel
theorem t_wq153i {X : pX} {ρ0 : sR} (hv : vok X ρ0) : CUTOK X kR zWP c_wn2 8 ρ0 q_wq153i := CUTOK_AT (fun ρ k1 hF hI k4 => AT_of (q := q_wq153i) rfl rfl (SEM_runB kR_x kR_0 (Cs := []) (fun C hC => by cases hC) c_wn2_f (Q := w_wq153i) hv 1500 (b1 := true) (b2 := true) k_wq153i k1 hF hI k4 (fun p hp ρ3 m1 m2 m3 m4 m5 m6 => by
  rw [List.mem_singleton.mp hp] at m2 m3 m5 m6 ⊢
  have y3 : ρ3.2.1 60033 = ρ.2.1 60033 := congrArg Prod.snd (m5 (60033, .arg 60033) List.mem_cons_self)
  have hA : ∀ j, ρ3.2.2.2.1 1761 j = if 153 = j then ρ.2.1 60033 else ρ.2.2.2.1 1761 j := fun j => ad_l (X := X) (p := 153) (t := .arg 60033) rfl (m6 _ List.mem_cons_self) j
  have hk : evk 153 (ρ.2.1 60033).toInt = true := by
    have h := m2.2 _ List.mem_cons_self
    rw [← y3]
    exact h
  have ea : ρ3.1 2848 = (sd X ρ (.op2 .ior (.arg 2848) (.int 0))).1 := congrArg Prod.fst (m5 (2848, .op2 .ior (.arg 2848) (.int 0)) (List.mem_cons_of_mem _ List.mem_cons_self))
  have eL : ρ3.1 60578 = ρ.1 60578 := (m4.1 60578 (by decide) (by decide)).1.trans (k4.1 60578 (by decide) (by decide)).1.symm
  have mo : sc X ρ3 (2, .op2 .iand (.op2 .iushr (.arg 2848) (.int 4)) (.int 1), .arg 60578) = false := by
    show decide (((ρ3.1 2848).toUInt32 >>> ((4 : Int32).toUInt32 &&& (31 : Int32).toUInt32)).toInt32 &&& 1 < ρ3.1 60578) = false
    rw [ea, eL]
    have q := tbv_ok (X := X) (ρ := ρ) (F := []) (a := .op2 .iand (.op2 .iushr (.op2 .ior (.arg 2848) (.int 0)) (.int 4)) (.int 1)) (b := .op2 .iand (.op2 .iushr (.arg 2848) (.int 4)) (.int 1)) ⟨hF.1, fun f hf => by cases hf⟩ (by decide +kernel)
    rw [sv_int rfl, sv_int rfl] at q
    exact mn_e (Value.int.inj q) (of_decide_eq_true (hF.2 _ (List.mem_cons_of_mem _ (List.mem_cons_of_mem _ (List.mem_cons_of_mem _ (List.mem_cons_of_mem _ (List.mem_cons_of_mem _ (List.mem_cons_self))))))))
  exact t_wE2 hv ρ3 m1 ⟨m2.1, fcn (ev_nm (g := ρ.2.2.2.1 1761) (p := 153) (hF.2 _ (List.mem_cons_of_mem _ (List.mem_cons_of_mem _ (List.mem_cons_of_mem _ (List.mem_cons_self))))) hk hA (by decide +kernel)) (fcn (pd_up (X := X) (p := 153) (c := 0) (z := []) (hF.2 _ (List.mem_cons_of_mem _ (List.mem_cons_of_mem _ (List.mem_cons_of_mem _ (List.mem_cons_of_mem _ (List.mem_cons_self)))))) hA (fun x hx => m5 x (List.mem_cons_of_mem _ hx)) k4 m4 wm_2 wb_2 (by decide +kernel)) (fcn (mo) (fnl)))⟩ m3 m4)))
theorem t_wq153 {X : pX} {ρ0 : sR} (hv : vok X ρ0) : CUTOK X kR zWP c_wn2 8 ρ0 q_wq153 := CUT_mono (t_wq153i hv) (fun ρ hF hI => by
  have b0 := rl_lf (x := ρ.2.1 60033) (y := 0) (hF.2 _ (List.mem_cons_self))
  have b1 := rl_lf (x := 4294967295) (y := ρ.2.1 60033) (hF.2 _ (List.mem_cons_of_mem _ (List.mem_cons_self)))
  have y0 : (0 : Int64).toInt = 0 := by decide +kernel
  have y1 : (4294967295 : Int64).toInt = 4294967295 := by decide +kernel
  rw [y0] at b0
  rw [y1] at b1
  exact ⟨⟨hF.1, fcn (wn_129 (p := 153) (q := 153) rfl et_153 b0 b1 rfl) (hF.2)⟩, hI⟩)
theorem e_wp153 : frun kR [] (cpl1 zWP (c_wp2 153) [q_wq153]) (cpl2 zWP (c_wp2 153) [q_wq153]) (cleaf kR zWP (c_wp2 153) [q_wq153]) 300 65536 (isatP ((c_wp2 153).2.2.2.1) (c_wp2 153).2.2.2.2.2.2.2.1) (c_wp2 153).2.2.2.2.2.2.2.1 (sin0 mt_all (c_wp2 153).1.1 8 (c_wp2 153).2.1.1 (foot zWP (c_wp2 153).2.2.1.1)) (sin0 mt_all (c_wp2 153).1.2.1 8 (c_wp2 153).2.1.2 (foot zWP (c_wp2 153).2.2.1.2)) = true := by decide +kernel
theorem s_wp153 {X : pX} : SREL X pF pdfl mt_all kR zWP (c_wp2 153) := SREL_QC kR_x kR_0 (Cs := []) (fun C hC => by cases hC) (d := 8) rfl (c_wp2_f 153) (Q := [q_wq153]) (fun ρ0 hv => fun q hq => by
    simp only [List.mem_cons, List.not_mem_nil, or_false] at hq
    rw [hq]; exact (t_wq153 hv : CUTOK X kR zWP c_wn2 8 ρ0 q_wq153)) (QC_run 300 e_wp153)
