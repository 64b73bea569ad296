set_option maxRecDepth 20000
theorem et_19 : evt[19]? = some (0, 65535, 0) := by decide +kernel
noncomputable def zf98vb_0 : sQ × Bool := ((129, .int 19, .arg 60033), true)
noncomputable def q_wR19 : sCut := ((fr 0 10 53 [] [], [fr 0 5 23 [(4, .int 0)] [], fBot], 7), (fr 0 281 150 [] [], [fr 0 277 91 [(3, .int 0)] [], fBot], 7), [zf98vb_0], [])
noncomputable def zf98vb_1 : sQ × Bool := ((8, .arg 60033, .long 0), false)
noncomputable def zf98vb_2 : sQ × Bool := ((8, .long 65535, .arg 60033), false)
noncomputable def zf98vb_3 : sQ × Bool := ((101, .elem (.arg 1761) (.int 0), .int 0), true)
noncomputable def zf98vb_4 : sQ × Bool := ((137, .add (.elem (.arg 1761) (.int 0)) (.add (.arg 2848) (.add (.elem (.arg 24512) (.int 0)) (.add (.elem (.arg 2404) (.int 0)) (.add (.elem (.arg 24544) (.int 0)) (.add (.elem (.arg 2436) (.int 0)) (.add (.arg 5728) (.add (.arg 5760) (.add (.arg 5792) (.add (.arg 5824) (.add (.arg 5856) (.add (.arg 5888) (.add (.arg 5920) (.add (.arg 5952) (.add (.arg 2082) (.add (.arg 2114) (.add (.arg 2146) (.add (.arg 2178) (.add (.arg 6850) (.add (.arg 6882) (.add (.arg 6914) (.add (.arg 6946) (.add (.arg 2210) (.add (.arg 2242) (.add (.arg 2274) (.add (.arg 2306) (.add (.arg 7362) (.add (.arg 7394) (.add (.arg 7426) (.add (.arg 7458) (.add (.arg 2338) (.add (.arg 2370) (.add (.arg 2402) (.add (.arg 2434) (.add (.arg 7874) (.add (.arg 7906) (.add (.arg 7938) (.add (.arg 7970) (.add (.arg 6240) (.add (.arg 6272) (.add (.arg 6304) (.add (.arg 6336) (.add (.arg 21216) (.add (.arg 21248) (.add (.arg 21280) (.add (.arg 21312) (.add (.arg 1570) (.add (.arg 1602) (.add (.arg 6466) (.arg 6498))))))))))))))))))))))))))))))))))))))))))))))))), .int 0), true)
noncomputable def zf98vb_5 : sQ × Bool := ((0, .op2 .iand (.op2 .iushr (.arg 2848) (.int 4)) (.int 1), .arg 60578), true)
noncomputable def zf98vb_6 : sQ × Bool := ((2, .op2 .iand (.op2 .iushr (.arg 2848) (.int 4)) (.int 1), .arg 60578), false)
noncomputable def q_wq19 : sCut := ((fr 0 5 0 [(0, tr 57), (1, .int 19), (2, .arg 60033)] [], [fBot], 8), (fr 0 277 60 [(0, tr 219), (1, .arg 1308), (2, .int 19), (4, .arg 60033)] [], [fBot], 8), [zf98vb_1, zf98vb_2, zf98vb_3, zf98vb_4, zf98vb_5, zf98vb_6], [])
noncomputable def q_wq19i : sCut := ((fr 0 5 0 [(0, tr 57), (1, .int 19), (2, .arg 60033)] [], [fBot], 8), (fr 0 277 60 [(0, tr 219), (1, .arg 1308), (2, .int 19), (4, .arg 60033)] [], [fBot], 8), [zf98vb_0, zf98vb_1, zf98vb_2, zf98vb_3, zf98vb_4, zf98vb_5, zf98vb_6], [])
noncomputable def w_wq19i : List (sCut × List (Nat × sT) × List (Nat × sT × List (sT × sT))) := [(q_wR19, [(60033, .arg 60033), (2848, .op2 .ior (.arg 2848) (.int 0)), (6850, .arg 6850), (6882, .arg 6882), (6914, .arg 6914), (6946, .arg 6946), (7362, .arg 7362), (7394, .arg 7394), (7426, .arg 7426), (7458, .arg 7458), (7874, .arg 7874), (7906, .arg 7906), (7938, .arg 7938), (7970, .arg 7970), (21216, .arg 21216), (21248, .arg 21248), (21280, .arg 21280), (21312, .arg 21312), (6466, .arg 6466), (6498, .arg 6498)], [(1761, .arg 1761, [(.int 19, .arg 60033)])])]
theorem k_wq19i : cbody kR [] (cpl1 zWP c_wn1 [q_wR19]) (cpl2 zWP c_wn1 [q_wR19]) (cleafB kR zWP c_wn1 w_wq19i) 1500 true true q_wq19i.2.2.1 q_wq19i.2.2.2 (cst zWP c_wn1.2.2.1.1 q_wq19i.1) (cst zWP c_wn1.2.2.1.2 q_wq19i.2.1) = true := by decide +kernel
theorem t_wq19i {X : pX} {ρ0 : sR} (hv : vok X ρ0) : CUTOK X kR zWP c_wn1 8 ρ0 q_wq19i := CUTOK_AT (fun ρ k1 hF hI k4 => AT_of (q := q_wq19i) rfl rfl (SEM_runB kR_x kR_0 (Cs := []) (fun C hC => by cases hC) c_wn1_f (Q := w_wq19i) hv 1500 (b1 := true) (b2 := true) k_wq19i k1 hF hI k4 (fun p hp ρ3 m1 m2 m3 m4 m5 m6 => by
  rw [List.mem_singleton.mp hp] at m2 m3 m5 m6 ⊢
  have y3 : ρ3.2.1 60033 = ρ.2.1 60033 := congrArg Prod.snd (m5 (60033, .arg 60033) List.mem_cons_self)
  have hA : ∀ j, ρ3.2.2.2.1 1761 j = if 19 = j then ρ.2.1 60033 else ρ.2.2.2.1 1761 j := fun j => ad_l (X := X) (p := 19) (t := .arg 60033) rfl (m6 _ List.mem_cons_self) j
  have hk : evk 19 (ρ.2.1 60033).toInt = true := by
    have h := m2.2 _ List.mem_cons_self
    rw [← y3]
    exact h
  have ea : ρ3.1 2848 = (sd X ρ (.op2 .ior (.arg 2848) (.int 0))).1 := congrArg Prod.fst (m5 (2848, .op2 .ior (.arg 2848) (.int 0)) (List.mem_cons_of_mem _ List.mem_cons_self))
  have eL : ρ3.1 60578 = ρ.1 60578 := (m4.1 60578 (by decide) (by decide)).1.trans (k4.1 60578 (by decide) (by decide)).1.symm
  have mo : sc X ρ3 (2, .op2 .iand (.op2 .iushr (.arg 2848) (.int 4)) (.int 1), .arg 60578) = false := by
    show decide (((ρ3.1 2848).toUInt32 >>> ((4 : Int32).toUInt32 &&& (31 : Int32).toUInt32)).toInt32 &&& 1 < ρ3.1 60578) = false
    rw [ea, eL]
    have q := tbv_ok (X := X) (ρ := ρ) (F := []) (a := .op2 .iand (.op2 .iushr (.op2 .ior (.arg 2848) (.int 0)) (.int 4)) (.int 1)) (b := .op2 .iand (.op2 .iushr (.arg 2848) (.int 4)) (.int 1)) ⟨hF.1, fun f hf => by cases hf⟩ (by decide +kernel)
    rw [sv_int rfl, sv_int rfl] at q
    exact mn_e (Value.int.inj q) (of_decide_eq_true (hF.2 _ (List.mem_cons_of_mem _ (List.mem_cons_of_mem _ (List.mem_cons_of_mem _ (List.mem_cons_of_mem _ (List.mem_cons_of_mem _ (List.mem_cons_self))))))))
  exact t_wE1 hv ρ3 m1 ⟨m2.1, fcn (ev_nm (g := ρ.2.2.2.1 1761) (p := 19) (hF.2 _ (List.mem_cons_of_mem _ (List.mem_cons_of_mem _ (List.mem_cons_of_mem _ (List.mem_cons_self))))) hk hA (by decide +kernel)) (fcn (pd_up (X := X) (p := 19) (c := 0) (z := []) (hF.2 _ (List.mem_cons_of_mem _ (List.mem_cons_of_mem _ (List.mem_cons_of_mem _ (List.mem_cons_of_mem _ (List.mem_cons_self)))))) hA (fun x hx => m5 x (List.mem_cons_of_mem _ hx)) k4 m4 wm_1 wb_1 (by decide +kernel)) (fcn (mo) (fnl)))⟩ m3 m4)))
theorem t_wq19 {X : pX} {ρ0 : sR} (hv : vok X ρ0) : CUTOK X kR zWP c_wn1 8 ρ0 q_wq19 := CUT_mono (t_wq19i hv) (fun ρ hF hI => by
  have b0 := rl_lf (x := ρ.2.1 60033) (y := 0) (hF.2 _ (List.mem_cons_self))
  have b1 := rl_lf (x := 65535) (y := ρ.2.1 60033) (hF.2 _ (List.mem_cons_of_mem _ (List.mem_cons_self)))
  have y0 : (0 : Int64).toInt = 0 := by decide +kernel
  have y1 : (65535 : Int64).toInt = 65535 := by decide +kernel
  rw [y0] at b0
  rw [y1] at b1
  exact ⟨⟨hF.1, fcn (wn_129 (p := 19) (q := 19) rfl et_19 b0 b1 rfl) (hF.2)⟩, hI⟩)
theorem e_wp19 : frun kR [] (cpl1 zWP (c_wp1 19) [q_wq19]) (cpl2 zWP (c_wp1 19) [q_wq19]) (cleaf kR zWP (c_wp1 19) [q_wq19]) 300 65536 (isatP ((c_wp1 19).2.2.2.1) (c_wp1 19).2.2.2.2.2.2.2.1) (c_wp1 19).2.2.2.2.2.2.2.1 (sin0 mt_all (c_wp1 19).1.1 8 (c_wp1 19).2.1.1 (foot zWP (c_wp1 19).2.2.1.1)) (sin0 mt_all (c_wp1 19).1.2.1 8 (c_wp1 19).2.1.2 (foot zWP (c_wp1 19).2.2.1.2)) = true := by decide +kernel
theorem s_wp19 {X : pX} : SREL X pF pdfl mt_all kR zWP (c_wp1 19) := SREL_QC kR_x kR_0 (Cs := []) (fun C hC => by cases hC) (d := 8) rfl (c_wp1_f 19) (Q := [q_wq19]) (fun ρ0 hv => fun q hq => by
    simp only [List.mem_cons, List.not_mem_nil, or_false] at hq
    rw [hq]; exact (t_wq19 hv : CUTOK X kR zWP c_wn1 8 ρ0 q_wq19)) (QC_run 300 e_wp19)
theorem et_23 : evt[23]? = some (0, 65535, 0) := by decide +kernel
noncomputable def zf98vb_7 : sQ × Bool := ((129, .int 23, .arg 60033), true)
noncomputable def q_wR23 : sCut := ((fr 0 10 53 [] [], [fr 0 5 23 [(4, .int 0)] [], fBot], 7), (fr 0 281 150 [] [], [fr 0 277 91 [(3, .int 0)] [], fBot], 7), [zf98vb_7], [])
noncomputable def q_wq23 : sCut := ((fr 0 5 0 [(0, tr 57), (1, .int 23), (2, .arg 60033)] [], [fBot], 8), (fr 0 277 60 [(0, tr 219), (1, .arg 1308), (2, .int 23), (4, .arg 60033)] [], [fBot], 8), [zf98vb_1, zf98vb_2, zf98vb_3, zf98vb_4, zf98vb_5, zf98vb_6], [])
noncomputable def q_wq23i : sCut := ((fr 0 5 0 [(0, tr 57), (1, .int 23), (2, .arg 60033)] [], [fBot], 8), (fr 0 277 60 [(0, tr 219), (1, .arg 1308), (2, .int 23), (4, .arg 60033)] [], [fBot], 8), [zf98vb_7, zf98vb_1, zf98vb_2, zf98vb_3, zf98vb_4, zf98vb_5, zf98vb_6], [])
noncomputable def w_wq23i : List (sCut × List (Nat × sT) × List (Nat × sT × List (sT × sT))) := [(q_wR23, [(60033, .arg 60033), (2848, .op2 .ior (.arg 2848) (.int 2)), (6850, .arg 6850), (6882, .arg 6882), (6914, .arg 6914), (6946, .arg 6946), (7362, .arg 7362), (7394, .arg 7394), (7426, .arg 7426), (7458, .arg 7458), (7874, .arg 7874), (7906, .arg 7906), (7938, .arg 7938), (7970, .arg 7970), (21216, .arg 21216), (21248, .arg 21248), (21280, .arg 21280), (21312, .arg 21312), (6466, .arg 6466), (6498, .arg 6498)], [(1761, .arg 1761, [(.int 23, .arg 60033)])])]
theorem k_wq23i : cbody kR [] (cpl1 zWP c_wn1 [q_wR23]) (cpl2 zWP c_wn1 [q_wR23]) (cleafB kR zWP c_wn1 w_wq23i) 1500 true true q_wq23i.2.2.1 q_wq23i.2.2.2 (cst zWP c_wn1.2.2.1.1 q_wq23i.1) (cst zWP c_wn1.2.2.1.2 q_wq23i.2.1) = true := by decide +kernel
theorem t_wq23i {X : pX} {ρ0 : sR} (hv : vok X ρ0) : CUTOK X kR zWP c_wn1 8 ρ0 q_wq23i := CUTOK_AT (fun ρ k1 hF hI k4 => AT_of (q := q_wq23i) rfl rfl (SEM_runB kR_x kR_0 (Cs := []) (fun C hC => by cases hC) c_wn1_f (Q := w_wq23i) hv 1500 (b1 := true) (b2 := true) k_wq23i k1 hF hI k4 (fun p hp ρ3 m1 m2 m3 m4 m5 m6 => by
  rw [List.mem_singleton.mp hp] at m2 m3 m5 m6 ⊢
  have y3 : ρ3.2.1 60033 = ρ.2.1 60033 := congrArg Prod.snd (m5 (60033, .arg 60033) List.mem_cons_self)
  have hA : ∀ j, ρ3.2.2.2.1 1761 j = if 23 = j then ρ.2.1 60033 else ρ.2.2.2.1 1761 j := fun j => ad_l (X := X) (p := 23) (t := .arg 60033) rfl (m6 _ List.mem_cons_self) j
  have hk : evk 23 (ρ.2.1 60033).toInt = true := by
    have h := m2.2 _ List.mem_cons_self
    rw [← y3]
    exact h
  have ea : ρ3.1 2848 = (sd X ρ (.op2 .ior (.arg 2848) (.int 2))).1 := congrArg Prod.fst (m5 (2848, .op2 .ior (.arg 2848) (.int 2)) (List.mem_cons_of_mem _ List.mem_cons_self))
  have eL : ρ3.1 60578 = ρ.1 60578 := (m4.1 60578 (by decide) (by decide)).1.trans (k4.1 60578 (by decide) (by decide)).1.symm
  have mo : sc X ρ3 (2, .op2 .iand (.op2 .iushr (.arg 2848) (.int 4)) (.int 1), .arg 60578) = false := by
    show decide (((ρ3.1 2848).toUInt32 >>> ((4 : Int32).toUInt32 &&& (31 : Int32).toUInt32)).toInt32 &&& 1 < ρ3.1 60578) = false
    rw [ea, eL]
    have q := tbv_ok (X := X) (ρ := ρ) (F := []) (a := .op2 .iand (.op2 .iushr (.op2 .ior (.arg 2848) (.int 2)) (.int 4)) (.int 1)) (b := .op2 .iand (.op2 .iushr (.arg 2848) (.int 4)) (.int 1)) ⟨hF.1, fun f hf => by cases hf⟩ (by decide +kernel)
    rw [sv_int rfl, sv_int rfl] at q
    exact mn_e (Value.int.inj q) (of_decide_eq_true (hF.2 _ (List.mem_cons_of_mem _ (List.mem_cons_of_mem _ (List.mem_cons_of_mem _ (List.mem_cons_of_mem _ (List.mem_cons_of_mem _ (List.mem_cons_self))))))))
  exact t_wE1 hv ρ3 m1 ⟨m2.1, fcn (ev_nm (g := ρ.2.2.2.1 1761) (p := 23) (hF.2 _ (List.mem_cons_of_mem _ (List.mem_cons_of_mem _ (List.mem_cons_of_mem _ (List.mem_cons_self))))) hk hA (by decide +kernel)) (fcn (pd_up (X := X) (p := 23) (c := 2) (z := []) (hF.2 _ (List.mem_cons_of_mem _ (List.mem_cons_of_mem _ (List.mem_cons_of_mem _ (List.mem_cons_of_mem _ (List.mem_cons_self)))))) hA (fun x hx => m5 x (List.mem_cons_of_mem _ hx)) k4 m4 wm_1 wb_1 (by decide +kernel)) (fcn (mo) (fnl)))⟩ m3 m4)))
theorem t_wq23 {X : pX} {ρ0 : sR} (hv : vok X ρ0) : CUTOK X kR zWP c_wn1 8 ρ0 q_wq23 := CUT_mono (t_wq23i hv) (fun ρ hF hI => by
  have b0 := rl_lf (x := ρ.2.1 60033) (y := 0) (hF.2 _ (List.mem_cons_self))
  have b1 := rl_lf (x := 65535) (y := ρ.2.1 60033) (hF.2 _ (List.mem_cons_of_mem _ (List.mem_cons_self)))
  have y0 : (0 : Int64).toInt = 0 := by decide +kernel
  have y1 : (65535 : Int64).toInt = 65535 := by decide +kernel
  rw [y0] at b0
  rw [y1] at b1
  exact ⟨⟨hF.1, fcn (wn_129 (p := 23) (q := 23) rfl et_23 b0 b1 rfl) (hF.2)⟩, hI⟩)
theorem e_wp23 : frun kR [] (cpl1 zWP (c_wp1 23) [q_wq23]) (cpl2 zWP (c_wp1 23) [q_wq23]) (cleaf kR zWP (c_wp1 23) [q_wq23]) 300 65536 (isatP ((c_wp1 23).2.2.2.1) (c_wp1 23).2.2.2.2.2.2.2.1) (c_wp1 23).2.2.2.2.2.2.2.1 (sin0 mt_all (c_wp1 23).1.1 8 (c_wp1 23).2.1.1 (foot zWP (c_wp1 23).2.2.1.1)) (sin0 mt_all (c_wp1 23).1.2.1 8 (c_wp1 23).2.1.2 (foot zWP (c_wp1 23).2.2.1.2)) = true := by decide +kernel
theorem s_wp23 {X : pX} : SREL X pF pdfl mt_all kR zWP (c_wp1 23) := SREL_QC kR_x kR_0 (Cs := []) (fun C hC => by cases hC) (d := 8) rfl (c_wp1_f 23) (Q := [q_wq23]) (fun ρ0 hv => fun q hq => by
    simp only [List.mem_cons, List.not_mem_nil, or_false] at hq
    rw [hq]; exact (t_wq23 hv : CUTOK X kR zWP c_wn1 8 ρ0 q_wq23)) (QC_run 300 e_wp23)
theorem et_37 : evt[37]? = some (0, 65535, 0) := by decide +kernel
noncomputable def zf98vb_8 : sQ × Bool := ((129, .int 37, .arg 60033), true)
noncomputable def q_wR37 : sCut := ((fr 0 10 53 [] [], [fr 0 5 23 [(4, .int 0)] [], fBot], 7), (fr 0 281 150 [] [], [fr 0 277 91 [(3, .int 0)] [], fBot], 7), [zf98vb_8], [])
noncomputable def q_wq37 : sCut := ((fr 0 5 0 [(0, tr 57), (1, .int 37), (2, .arg 60033)] [], [fBot], 8), (fr 0 277 60 [(0, tr 219), (1, .arg 1308), (2, .int 37), (4, .arg 60033)] [], [fBot], 8), [zf98vb_1, zf98vb_2, zf98vb_3, zf98vb_4, zf98vb_5, zf98vb_6], [])
noncomputable def q_wq37i : sCut := ((fr 0 5 0 [(0, tr 57), (1, .int 37), (2, .arg 60033)] [], [fBot], 8), (fr 0 277 60 [(0, tr 219), (1, .arg 1308), (2, .int 37), (4, .arg 60033)] [], [fBot], 8), [zf98vb_8, zf98vb_1, zf98vb_2, zf98vb_3, zf98vb_4, zf98vb_5, zf98vb_6], [])
noncomputable def w_wq37i : List (sCut × List (Nat × sT) × List (Nat × sT × List (sT × sT))) := [(q_wR37, [(60033, .arg 60033), (2848, .op2 .ior (.arg 2848) (.int 256)), (6850, .int 0), (6882, .arg 6882), (6914, .arg 6914), (6946, .arg 6946), (7362, .int 0), (7394, .arg 7394), (7426, .arg 7426), (7458, .arg 7458), (7874, .arg 7874), (7906, .arg 7906), (7938, .arg 7938), (7970, .arg 7970), (21216, .arg 21216), (21248, .arg 21248), (21280, .arg 21280), (21312, .arg 21312), (6466, .arg 6466), (6498, .arg 6498)], [(1761, .arg 1761, [(.int 37, .arg 60033)])])]
theorem k_wq37i : cbody kR [] (cpl1 zWP c_wn1 [q_wR37]) (cpl2 zWP c_wn1 [q_wR37]) (cleafB kR zWP c_wn1 w_wq37i) 1500 true true q_wq37i.2.2.1 q_wq37i.2.2.2 (cst zWP c_wn1.2.2.1.1 q_wq37i.1) (cst zWP c_wn1.2.2.1.2 q_wq37i.2.1) = true := by decide +kernel
theorem t_wq37i {X : pX} {ρ0 : sR} (hv : vok X ρ0) : CUTOK X kR zWP c_wn1 8 ρ0 q_wq37i := CUTOK_AT (fun ρ k1 hF hI k4 => AT_of (q := q_wq37i) rfl rfl (SEM_runB kR_x kR_0 (Cs := []) (fun C hC => by cases hC) c_wn1_f (Q := w_wq37i) hv 1500 (b1 := true) (b2 := true) k_wq37i k1 hF hI k4 (fun p hp ρ3 m1 m2 m3 m4 m5 m6 => by
  rw [List.mem_singleton.mp hp] at m2 m3 m5 m6 ⊢
  have y3 : ρ3.2.1 60033 = ρ.2.1 60033 := congrArg Prod.snd (m5 (60033, .arg 60033) List.mem_cons_self)
  have hA : ∀ j, ρ3.2.2.2.1 1761 j = if 37 = j then ρ.2.1 60033 else ρ.2.2.2.1 1761 j := fun j => ad_l (X := X) (p := 37) (t := .arg 60033) rfl (m6 _ List.mem_cons_self) j
  have hk : evk 37 (ρ.2.1 60033).toInt = true := by
    have h := m2.2 _ List.mem_cons_self
    rw [← y3]
    exact h
  have ea : ρ3.1 2848 = (sd X ρ (.op2 .ior (.arg 2848) (.int 256))).1 := congrArg Prod.fst (m5 (2848, .op2 .ior (.arg 2848) (.int 256)) (List.mem_cons_of_mem _ List.mem_cons_self))
  have eL : ρ3.1 60578 = ρ.1 60578 := (m4.1 60578 (by decide) (by decide)).1.trans (k4.1 60578 (by decide) (by decide)).1.symm
  have mo : sc X ρ3 (2, .op2 .iand (.op2 .iushr (.arg 2848) (.int 4)) (.int 1), .arg 60578) = false := by
    show decide (((ρ3.1 2848).toUInt32 >>> ((4 : Int32).toUInt32 &&& (31 : Int32).toUInt32)).toInt32 &&& 1 < ρ3.1 60578) = false
    rw [ea, eL]
    have q := tbv_ok (X := X) (ρ := ρ) (F := []) (a := .op2 .iand (.op2 .iushr (.op2 .ior (.arg 2848) (.int 256)) (.int 4)) (.int 1)) (b := .op2 .iand (.op2 .iushr (.arg 2848) (.int 4)) (.int 1)) ⟨hF.1, fun f hf => by cases hf⟩ (by decide +kernel)
    rw [sv_int rfl, sv_int rfl] at q
    exact mn_e (Value.int.inj q) (of_decide_eq_true (hF.2 _ (List.mem_cons_of_mem _ (List.mem_cons_of_mem _ (List.mem_cons_of_mem _ (List.mem_cons_of_mem _ (List.mem_cons_of_mem _ (List.mem_cons_self))))))))
  exact t_wE1 hv ρ3 m1 ⟨m2.1, fcn (ev_nm (g := ρ.2.2.2.1 1761) (p := 37) (hF.2 _ (List.mem_cons_of_mem _ (List.mem_cons_of_mem _ (List.mem_cons_of_mem _ (List.mem_cons_self))))) hk hA (by decide +kernel)) (fcn (pd_up (X := X) (p := 37) (c := 256) (z := [6850, 7362]) (hF.2 _ (List.mem_cons_of_mem _ (List.mem_cons_of_mem _ (List.mem_cons_of_mem _ (List.mem_cons_of_mem _ (List.mem_cons_self)))))) hA (fun x hx => m5 x (List.mem_cons_of_mem _ hx)) k4 m4 wm_1 wb_1 (by decide +kernel)) (fcn (mo) (fnl)))⟩ m3 m4)))
theorem t_wq37 {X : pX} {ρ0 : sR} (hv : vok X ρ0) : CUTOK X kR zWP c_wn1 8 ρ0 q_wq37 := CUT_mono (t_wq37i hv) (fun ρ hF hI => by
  have b0 := rl_lf (x := ρ.2.1 60033) (y := 0) (hF.2 _ (List.mem_cons_self))
  have b1 := rl_lf (x := 65535) (y := ρ.2.1 60033) (hF.2 _ (List.mem_cons_of_mem _ (List.mem_cons_self)))
  have y0 : (0 : Int64).toInt = 0 := by decide +kernel
  have y1 : (65535 : Int64).toInt = 65535 := by decide +kernel
  rw [y0] at b0
  rw [y1] at b1
  exact ⟨⟨hF.1, fcn (wn_129 (p := 37) (q := 37) rfl et_37 b0 b1 rfl) (hF.2)⟩, hI⟩)
theorem e_wp37 : frun kR [] (cpl1 zWP (c_wp1 37) [q_wq37]) (cpl2 zWP (c_wp1 37) [q_wq37]) (cleaf kR zWP (c_wp1 37) [q_wq37]) 300 65536 (isatP ((c_wp1 37).2.2.2.1) (c_wp1 37).2.2.2.2.2.2.2.1) (c_wp1 37).2.2.2.2.2.2.2.1 (sin0 mt_all (c_wp1 37).1.1 8 (c_wp1 37).2.1.1 (foot zWP (c_wp1 37).2.2.1.1)) (sin0 mt_all (c_wp1 37).1.2.1 8 (c_wp1 37).2.1.2 (foot zWP (c_wp1 37).2.2.1.2)) = true := by decide +kernel
theorem s_wp37 {X : pX} : SREL X pF pdfl mt_all kR zWP (c_wp1 37) := SREL_QC kR_x kR_0 (Cs := []) (fun C hC => by cases hC) (d := 8) rfl (c_wp1_f 37) (Q := [q_wq37]) (fun ρ0 hv => fun q hq => by
    simp only [List.mem_cons, List.not_mem_nil, or_false] at hq
    rw [hq]; exact (t_wq37 hv : CUTOK X kR zWP c_wn1 8 ρ0 q_wq37)) (QC_run 300 e_wp37)
theorem et_41 : evt[41]? = some (0, 65535, 0) := by decide +kernel
noncomputable def zf98vb_9 : sQ × Bool := ((129, .int 41, .arg 60033), true)
noncomputable def q_wR41 : sCut := ((fr 0 10 53 [] [], [fr 0 5 23 [(4, .int 0)] [], fBot], 7), (fr 0 281 150 [] [], [fr 0 277 91 [(3, .int 0)] [], fBot], 7), [zf98vb_9], [])
noncomputable def q_wq41 : sCut := ((fr 0 5 0 [(0, tr 57), (1, .int 41), (2, .arg 60033)] [], [fBot], 8), (fr 0 277 60 [(0, tr 219), (1, .arg 1308), (2, .int 41), (4, .arg 60033)] [], [fBot], 8), [zf98vb_1, zf98vb_2, zf98vb_3, zf98vb_4, zf98vb_5, zf98vb_6], [])
noncomputable def q_wq41i : sCut := ((fr 0 5 0 [(0, tr 57), (1, .int 41), (2, .arg 60033)] [], [fBot], 8), (fr 0 277 60 [(0, tr 219), (1, .arg 1308), (2, .int 41), (4, .arg 60033)] [], [fBot], 8), [zf98vb_9, zf98vb_1, zf98vb_2, zf98vb_3, zf98vb_4, zf98vb_5, zf98vb_6], [])
noncomputable def w_wq41i : List (sCut × List (Nat × sT) × List (Nat × sT × List (sT × sT))) := [(q_wR41, [(60033, .arg 60033), (2848, .op2 .ior (.arg 2848) (.int 512)), (6850, .arg 6850), (6882, .int 0), (6914, .arg 6914), (6946, .arg 6946), (7362, .arg 7362), (7394, .int 0), (7426, .arg 7426), (7458, .arg 7458), (7874, .arg 7874), (7906, .arg 7906), (7938, .arg 7938), (7970, .arg 7970), (21216, .arg 21216), (21248, .arg 21248), (21280, .arg 21280), (21312, .arg 21312), (6466, .arg 6466), (6498, .arg 6498)], [(1761, .arg 1761, [(.int 41, .arg 60033)])])]
theorem k_wq41i : cbody kR [] (cpl1 zWP c_wn1 [q_wR41]) (cpl2 zWP c_wn1 [q_wR41]) (cleafB kR zWP c_wn1 w_wq41i) 1500 true true q_wq41i.2.2.1 q_wq41i.2.2.2 (cst zWP c_wn1.2.2.1.1 q_wq41i.1) (cst zWP c_wn1.2.2.1.2 q_wq41i.2.1) = true := by decide +kernel
theorem t_wq41i {X : pX} {ρ0 : sR} (hv : vok X ρ0) : CUTOK X kR zWP c_wn1 8 ρ0 q_wq41i := CUTOK_AT (fun ρ k1 hF hI k4 => AT_of (q := q_wq41i) rfl rfl (SEM_runB kR_x kR_0 (Cs := []) (fun C hC => by cases hC) c_wn1_f (Q := w_wq41i) hv 1500 (b1 := true) (b2 := true) k_wq41i k1 hF hI k4 (fun p hp ρ3 m1 m2 m3 m4 m5 m6 => by
  rw [List.mem_singleton.mp hp] at m2 m3 m5 m6 ⊢
  have y3 : ρ3.2.1 60033 = ρ.2.1 60033 := congrArg Prod.snd (m5 (60033, .arg 60033) List.mem_cons_self)
  have hA : ∀ j, ρ3.2.2.2.1 1761 j = if 41 = j then ρ.2.1 60033 else ρ.2.2.2.1 1761 j := fun j => ad_l (X := X) (p := 41) (t := .arg 60033) rfl (m6 _ List.mem_cons_self) j
  have hk : evk 41 (ρ.2.1 60033).toInt = true := by
    have h := m2.2 _ List.mem_cons_self
    rw [← y3]
    exact h
  have ea : ρ3.1 2848 = (sd X ρ (.op2 .ior (.arg 2848) (.int 512))).1 := congrArg Prod.fst (m5 (2848, .op2 .ior (.arg 2848) (.int 512)) (List.mem_cons_of_mem _ List.mem_cons_self))
  have eL : ρ3.1 60578 = ρ.1 60578 := (m4.1 60578 (by decide) (by decide)).1.trans (k4.1 60578 (by decide) (by decide)).1.symm
  have mo : sc X ρ3 (2, .op2 .iand (.op2 .iushr (.arg 2848) (.int 4)) (.int 1), .arg 60578) = false := by
    show decide (((ρ3.1 2848).toUInt32 >>> ((4 : Int32).toUInt32 &&& (31 : Int32).toUInt32)).toInt32 &&& 1 < ρ3.1 60578) = false
    rw [ea, eL]
    have q := tbv_ok (X := X) (ρ := ρ) (F := []) (a := .op2 .iand (.op2 .iushr (.op2 .ior (.arg 2848) (.int 512)) (.int 4)) (.int 1)) (b := .op2 .iand (.op2 .iushr (.arg 2848) (.int 4)) (.int 1)) ⟨hF.1, fun f hf => by cases hf⟩ (by decide +kernel)
    rw [sv_int rfl, sv_int rfl] at q
    exact mn_e (Value.int.inj q) (of_decide_eq_true (hF.2 _ (List.mem_cons_of_mem _ (List.mem_cons_of_mem _ (List.mem_cons_of_mem _ (List.mem_cons_of_mem _ (List.mem_cons_of_mem _ (List.mem_cons_self))))))))
  exact t_wE1 hv ρ3 m1 ⟨m2.1, fcn (ev_nm (g := ρ.2.2.2.1 1761) (p := 41) (hF.2 _ (List.mem_cons_of_mem _ (List.mem_cons_of_mem _ (List.mem_cons_of_mem _ (List.mem_cons_self))))) hk hA (by decide +kernel)) (fcn (pd_up (X := X) (p := 41) (c := 512) (z := [6882, 7394]) (hF.2 _ (List.mem_cons_of_mem _ (List.mem_cons_of_mem _ (List.mem_cons_of_mem _ (List.mem_cons_of_mem _ (List.mem_cons_self)))))) hA (fun x hx => m5 x (List.mem_cons_of_mem _ hx)) k4 m4 wm_1 wb_1 (by decide +kernel)) (fcn (mo) (fnl)))⟩ m3 m4)))
theorem t_wq41 {X : pX} {ρ0 : sR} (hv : vok X ρ0) : CUTOK X kR zWP c_wn1 8 ρ0 q_wq41 := CUT_mono (t_wq41i hv) (fun ρ hF hI => by
  have b0 := rl_lf (x := ρ.2.1 60033) (y := 0) (hF.2 _ (List.mem_cons_self))
  have b1 := rl_lf (x := 65535) (y := ρ.2.1 60033) (hF.2 _ (List.mem_cons_of_mem _ (List.mem_cons_self)))
  have y0 : (0 : Int64).toInt = 0 := by decide +kernel
  have y1 : (65535 : Int64).toInt = 65535 := by decide +kernel
  rw [y0] at b0
  rw [y1] at b1
  exact ⟨⟨hF.1, fcn (wn_129 (p := 41) (q := 41) rfl et_41 b0 b1 rfl) (hF.2)⟩, hI⟩)
theorem e_wp41 : frun kR [] (cpl1 zWP (c_wp1 41) [q_wq41]) (cpl2 zWP (c_wp1 41) [q_wq41]) (cleaf kR zWP (c_wp1 41) [q_wq41]) 300 65536 (isatP ((c_wp1 41).2.2.2.1) (c_wp1 41).2.2.2.2.2.2.2.1) (c_wp1 41).2.2.2.2.2.2.2.1 (sin0 mt_all (c_wp1 41).1.1 8 (c_wp1 41).2.1.1 (foot zWP (c_wp1 41).2.2.1.1)) (sin0 mt_all (c_wp1 41).1.2.1 8 (c_wp1 41).2.1.2 (foot zWP (c_wp1 41).2.2.1.2)) = true := by decide +kernel
theorem s_wp41 {X : pX} : SREL X pF pdfl mt_all kR zWP (c_wp1 41) := SREL_QC kR_x kR_0 (Cs := []) (fun C hC => by cases hC) (d := 8) rfl (c_wp1_f 41) (Q := [q_wq41]) (fun ρ0 hv => fun q hq => by
    simp only [List.mem_cons, List.not_mem_nil, or_false] at hq
    rw [hq]; exact (t_wq41 hv : CUTOK X kR zWP c_wn1 8 ρ0 q_wq41)) (QC_run 300 e_wp41)
theorem et_45 : evt[45]? = some (0, 65535, 0) := by decide +kernel
noncomputable def zf98vb_10 : sQ × Bool := ((129, .int 45, .arg 60033), true)
noncomputable def q_wR45 : sCut := ((fr 0 10 53 [] [], [fr 0 5 23 [(4, .int 0)] [], fBot], 7), (fr 0 281 150 [] [], [fr 0 277 91 [(3, .int 0)] [], fBot], 7), [zf98vb_10], [])
noncomputable def q_wq45 : sCut := ((fr 0 5 0 [(0, tr 57), (1, .int 45), (2, .arg 60033)] [], [fBot], 8), (fr 0 277 60 [(0, tr 219), (1, .arg 1308), (2, .int 45), (4, .arg 60033)] [], [fBot], 8), [zf98vb_1, zf98vb_2, zf98vb_3, zf98vb_4, zf98vb_5, zf98vb_6], [])
noncomputable def q_wq45i : sCut := ((fr 0 5 0 [(0, tr 57), (1, .int 45), (2, .arg 60033)] [], [fBot], 8), (fr 0 277 60 [(0, tr 219), (1, .arg 1308), (2, .int 45), (4, .arg 60033)] [], [fBot], 8), [zf98vb_10, zf98vb_1, zf98vb_2, zf98vb_3, zf98vb_4, zf98vb_5, zf98vb_6], [])
noncomputable def w_wq45i : List (sCut × List (Nat × sT) × List (Nat × sT × List (sT × sT))) := [(q_wR45, [(60033, .arg 60033), (2848, .op2 .ior (.arg 2848) (.int 1024)), (6850, .arg 6850), (6882, .arg 6882), (6914, .int 0), (6946, .arg 6946), (7362, .arg 7362), (7394, .arg 7394), (7426, .int 0), (7458, .arg 7458), (7874, .arg 7874), (7906, .arg 7906), (7938, .arg 7938), (7970, .arg 7970), (21216, .arg 21216), (21248, .arg 21248), (21280, .arg 21280), (21312, .arg 21312), (6466, .arg 6466), (6498, .arg 6498)], [(1761, .arg 1761, [(.int 45, .arg 60033)])])]
theorem k_wq45i : cbody kR [] (cpl1 zWP c_wn1 [q_wR45]) (cpl2 zWP c_wn1 [q_wR45]) (cleafB kR zWP c_wn1 w_wq45i) 1500 true true q_wq45i.2.2.1 q_wq45i.2.2.2 (cst zWP c_wn1.2.2.1.1 q_wq45i.1) (cst zWP c_wn1.2.2.1.2 q_wq45i.2.1) = true := by decide +kernel
theorem t_wq45i {X : pX} {ρ0 : sR} (hv : vok X ρ0) : CUTOK X kR zWP c_wn1 8 ρ0 q_wq45i := CUTOK_AT (fun ρ k1 hF hI k4 => AT_of (q := q_wq45i) rfl rfl (SEM_runB kR_x kR_0 (Cs := []) (fun C hC => by cases hC) c_wn1_f (Q := w_wq45i) hv 1500 (b1 := true) (b2 := true) k_wq45i k1 hF hI k4 (fun p hp ρ3 m1 m2 m3 m4 m5 m6 => by
  rw [List.mem_singleton.mp hp] at m2 m3 m5 m6 ⊢
  have y3 : ρ3.2.1 60033 = ρ.2.1 60033 := congrArg Prod.snd (m5 (60033, .arg 60033) List.mem_cons_self)
  have hA : ∀ j, ρ3.2.2.2.1 1761 j = if 45 = j then ρ.2.1 60033 else ρ.2.2.2.1 1761 j := fun j => ad_l (X := X) (p := 45) (t := .arg 60033) rfl (m6 _ List.mem_cons_self) j
  have hk : evk 45 (ρ.2.1 60033).toInt = true := by
    have h := m2.2 _ List.mem_cons_self
    rw [← y3]
    exact h
  have ea : ρ3.1 2848 = (sd X ρ (.op2 .ior (.arg 2848) (.int 1024))).1 := congrArg Prod.fst (m5 (2848, .op2 .ior (.arg 2848) (.int 1024)) (List.mem_cons_of_mem _ List.mem_cons_self))
  have eL : ρ3.1 60578 = ρ.1 60578 := (m4.1 60578 (by decide) (by decide)).1.trans (k4.1 60578 (by decide) (by decide)).1.symm
  have mo : sc X ρ3 (2, .op2 .iand (.op2 .iushr (.arg 2848) (.int 4)) (.int 1), .arg 60578) = false := by
    show decide (((ρ3.1 2848).toUInt32 >>> ((4 : Int32).toUInt32 &&& (31 : Int32).toUInt32)).toInt32 &&& 1 < ρ3.1 60578) = false
    rw [ea, eL]
    have q := tbv_ok (X := X) (ρ := ρ) (F := []) (a := .op2 .iand (.op2 .iushr (.op2 .ior (.arg 2848) (.int 1024)) (.int 4)) (.int 1)) (b := .op2 .iand (.op2 .iushr (.arg 2848) (.int 4)) (.int 1)) ⟨hF.1, fun f hf => by cases hf⟩ (by decide +kernel)
    rw [sv_int rfl, sv_int rfl] at q
    exact mn_e (Value.int.inj q) (of_decide_eq_true (hF.2 _ (List.mem_cons_of_mem _ (List.mem_cons_of_mem _ (List.mem_cons_of_mem _ (List.mem_cons_of_mem _ (List.mem_cons_of_mem _ (List.mem_cons_self))))))))
  exact t_wE1 hv ρ3 m1 ⟨m2.1, fcn (ev_nm (g := ρ.2.2.2.1 1761) (p := 45) (hF.2 _ (List.mem_cons_of_mem _ (List.mem_cons_of_mem _ (List.mem_cons_of_mem _ (List.mem_cons_self))))) hk hA (by decide +kernel)) (fcn (pd_up (X := X) (p := 45) (c := 1024) (z := [6914, 7426]) (hF.2 _ (List.mem_cons_of_mem _ (List.mem_cons_of_mem _ (List.mem_cons_of_mem _ (List.mem_cons_of_mem _ (List.mem_cons_self)))))) hA (fun x hx => m5 x (List.mem_cons_of_mem _ hx)) k4 m4 wm_1 wb_1 (by decide +kernel)) (fcn (mo) (fnl)))⟩ m3 m4)))
theorem t_wq45 {X : pX} {ρ0 : sR} (hv : vok X ρ0) : CUTOK X kR zWP c_wn1 8 ρ0 q_wq45 := CUT_mono (t_wq45i hv) (fun ρ hF hI => by
  have b0 := rl_lf (x := ρ.2.1 60033) (y := 0) (hF.2 _ (List.mem_cons_self))
  have b1 := rl_lf (x := 65535) (y := ρ.2.1 60033) (hF.2 _ (List.mem_cons_of_mem _ (List.mem_cons_self)))
  have y0 : (0 : Int64).toInt = 0 := by decide +kernel
  have y1 : (65535 : Int64).toInt = 65535 := by decide +kernel
  rw [y0] at b0
  rw [y1] at b1
  exact ⟨⟨hF.1, fcn (wn_129 (p := 45) (q := 45) rfl et_45 b0 b1 rfl) (hF.2)⟩, hI⟩)
theorem e_wp45 : frun kR [] (cpl1 zWP (c_wp1 45) [q_wq45]) (cpl2 zWP (c_wp1 45) [q_wq45]) (cleaf kR zWP (c_wp1 45) [q_wq45]) 300 65536 (isatP ((c_wp1 45).2.2.2.1) (c_wp1 45).2.2.2.2.2.2.2.1) (c_wp1 45).2.2.2.2.2.2.2.1 (sin0 mt_all (c_wp1 45).1.1 8 (c_wp1 45).2.1.1 (foot zWP (c_wp1 45).2.2.1.1)) (sin0 mt_all (c_wp1 45).1.2.1 8 (c_wp1 45).2.1.2 (foot zWP (c_wp1 45).2.2.1.2)) = true := by decide +kernel
theorem s_wp45 {X : pX} : SREL X pF pdfl mt_all kR zWP (c_wp1 45) := SREL_QC kR_x kR_0 (Cs := []) (fun C hC => by cases hC) (d := 8) rfl (c_wp1_f 45) (Q := [q_wq45]) (fun ρ0 hv => fun q hq => by
    simp only [List.mem_cons, List.not_mem_nil, or_false] at hq
    rw [hq]; exact (t_wq45 hv : CUTOK X kR zWP c_wn1 8 ρ0 q_wq45)) (QC_run 300 e_wp45)
theorem et_49 : evt[49]? = some (0, 65535, 0) := by decide +kernel
noncomputable def zf98vb_11 : sQ × Bool := ((129, .int 49, .arg 60033), true)
noncomputable def q_wR49 : sCut := ((fr 0 10 53 [] [], [fr 0 5 23 [(4, .int 0)] [], fBot], 7), (fr 0 281 150 [] [], [fr 0 277 91 [(3, .int 0)] [], fBot], 7), [zf98vb_11], [])
noncomputable def q_wq49 : sCut := ((fr 0 5 0 [(0, tr 57), (1, .int 49), (2, .arg 60033)] [], [fBot], 8), (fr 0 277 60 [(0, tr 219), (1, .arg 1308), (2, .int 49), (4, .arg 60033)] [], [fBot], 8), [zf98vb_1, zf98vb_2, zf98vb_3, zf98vb_4, zf98vb_5, zf98vb_6], [])
noncomputable def q_wq49i : sCut := ((fr 0 5 0 [(0, tr 57), (1, .int 49), (2, .arg 60033)] [], [fBot], 8), (fr 0 277 60 [(0, tr 219), (1, .arg 1308), (2, .int 49), (4, .arg 60033)] [], [fBot], 8), [zf98vb_11, zf98vb_1, zf98vb_2, zf98vb_3, zf98vb_4, zf98vb_5, zf98vb_6], [])
noncomputable def w_wq49i : List (sCut × List (Nat × sT) × List (Nat × sT × List (sT × sT))) := [(q_wR49, [(60033, .arg 60033), (2848, .op2 .ior (.arg 2848) (.int 2048)), (6850, .arg 6850), (6882, .arg 6882), (6914, .arg 6914), (6946, .int 0), (7362, .arg 7362), (7394, .arg 7394), (7426, .arg 7426), (7458, .int 0), (7874, .arg 7874), (7906, .arg 7906), (7938, .arg 7938), (7970, .arg 7970), (21216, .arg 21216), (21248, .arg 21248), (21280, .arg 21280), (21312, .arg 21312), (6466, .arg 6466), (6498, .arg 6498)], [(1761, .arg 1761, [(.int 49, .arg 60033)])])]
theorem k_wq49i : cbody kR [] (cpl1 zWP c_wn1 [q_wR49]) (cpl2 zWP c_wn1 [q_wR49]) (cleafB kR zWP c_wn1 w_wq49i) 1500 true true q_wq49i.2.2.1 q_wq49i.2.2.2 (cst zWP c_wn1.2.2.1.1 q_wq49i.1) (cst zWP c_wn1.2.2.1.2 q_wq49i.2.1) = true := by decide +kernel
theorem t_wq49i {X : pX} {ρ0 : sR} (hv : vok X ρ0) : CUTOK X kR zWP c_wn1 8 ρ0 q_wq49i := CUTOK_AT (fun ρ k1 hF hI k4 => AT_of (q := q_wq49i) rfl rfl (SEM_runB kR_x kR_0 (Cs := []) (fun C hC => by cases hC) c_wn1_f (Q := w_wq49i) hv 1500 (b1 := true) (b2 := true) k_wq49i k1 hF hI k4 (fun p hp ρ3 m1 m2 m3 m4 m5 m6 => by
  rw [List.mem_singleton.mp hp] at m2 m3 m5 m6 ⊢
  have y3 : ρ3.2.1 60033 = ρ.2.1 60033 := congrArg Prod.snd (m5 (60033, .arg 60033) List.mem_cons_self)
  have hA : ∀ j, ρ3.2.2.2.1 1761 j = if 49 = j then ρ.2.1 60033 else ρ.2.2.2.1 1761 j := fun j => ad_l (X := X) (p := 49) (t := .arg 60033) rfl (m6 _ List.mem_cons_self) j
  have hk : evk 49 (ρ.2.1 60033).toInt = true := by
    have h := m2.2 _ List.mem_cons_self
    rw [← y3]
    exact h
  have ea : ρ3.1 2848 = (sd X ρ (.op2 .ior (.arg 2848) (.int 2048))).1 := congrArg Prod.fst (m5 (2848, .op2 .ior (.arg 2848) (.int 2048)) (List.mem_cons_of_mem _ List.mem_cons_self))
  have eL : ρ3.1 60578 = ρ.1 60578 := (m4.1 60578 (by decide) (by decide)).1.trans (k4.1 60578 (by decide) (by decide)).1.symm
  have mo : sc X ρ3 (2, .op2 .iand (.op2 .iushr (.arg 2848) (.int 4)) (.int 1), .arg 60578) = false := by
    show decide (((ρ3.1 2848).toUInt32 >>> ((4 : Int32).toUInt32 &&& (31 : Int32).toUInt32)).toInt32 &&& 1 < ρ3.1 60578) = false
    rw [ea, eL]
    have q := tbv_ok (X := X) (ρ := ρ) (F := []) (a := .op2 .iand (.op2 .iushr (.op2 .ior (.arg 2848) (.int 2048)) (.int 4)) (.int 1)) (b := .op2 .iand (.op2 .iushr (.arg 2848) (.int 4)) (.int 1)) ⟨hF.1, fun f hf => by cases hf⟩ (by decide +kernel)
    rw [sv_int rfl, sv_int rfl] at q
    exact mn_e (Value.int.inj q) (of_decide_eq_true (hF.2 _ (List.mem_cons_of_mem _ (List.mem_cons_of_mem _ (List.mem_cons_of_mem _ (List.mem_cons_of_mem _ (List.mem_cons_of_mem _ (List.mem_cons_self))))))))
  exact t_wE1 hv ρ3 m1 ⟨m2.1, fcn (ev_nm (g := ρ.2.2.2.1 1761) (p := 49) (hF.2 _ (List.mem_cons_of_mem _ (List.mem_cons_of_mem _ (List.mem_cons_of_mem _ (List.mem_cons_self))))) hk hA (by decide +kernel)) (fcn (pd_up (X := X) (p := 49) (c := 2048) (z := [6946, 7458]) (hF.2 _ (List.mem_cons_of_mem _ (List.mem_cons_of_mem _ (List.mem_cons_of_mem _ (List.mem_cons_of_mem _ (List.mem_cons_self)))))) hA (fun x hx => m5 x (List.mem_cons_of_mem _ hx)) k4 m4 wm_1 wb_1 (by decide +kernel)) (fcn (mo) (fnl)))⟩ m3 m4)))
theorem t_wq49 {X : pX} {ρ0 : sR} (hv : vok X ρ0) : CUTOK X kR zWP c_wn1 8 ρ0 q_wq49 := CUT_mono (t_wq49i hv) (fun ρ hF hI => by
  have b0 := rl_lf (x := ρ.2.1 60033) (y := 0) (hF.2 _ (List.mem_cons_self))
  have b1 := rl_lf (x := 65535) (y := ρ.2.1 60033) (hF.2 _ (List.mem_cons_of_mem _ (List.mem_cons_self)))
  have y0 : (0 : Int64).toInt = 0 := by decide +kernel
  have y1 : (65535 : Int64).toInt = 65535 := by decide +kernel
  rw [y0] at b0
  rw [y1] at b1
  exact ⟨⟨hF.1, fcn (wn_129 (p := 49) (q := 49) rfl et_49 b0 b1 rfl) (hF.2)⟩, hI⟩)
theorem e_wp49 : frun kR [] (cpl1 zWP (c_wp1 49) [q_wq49]) (cpl2 zWP (c_wp1 49) [q_wq49]) (cleaf kR zWP (c_wp1 49) [q_wq49]) 300 65536 (isatP ((c_wp1 49).2.2.2.1) (c_wp1 49).2.2.2.2.2.2.2.1) (c_wp1 49).2.2.2.2.2.2.2.1 (sin0 mt_all (c_wp1 49).1.1 8 (c_wp1 49).2.1.1 (foot zWP (c_wp1 49).2.2.1.1)) (sin0 mt_all (c_wp1 49).1.2.1 8 (c_wp1 49).2.1.2 (foot zWP (c_wp1 49).2.2.1.2)) = true := by decide +kernel
theorem s_wp49 {X : pX} : SREL X pF pdfl mt_all kR zWP (c_wp1 49) := SREL_QC kR_x kR_0 (Cs := []) (fun C hC => by cases hC) (d := 8) rfl (c_wp1_f 49) (Q := [q_wq49]) (fun ρ0 hv => fun q hq => by
    simp only [List.mem_cons, List.not_mem_nil, or_false] at hq
    rw [hq]; exact (t_wq49 hv : CUTOK X kR zWP c_wn1 8 ρ0 q_wq49)) (QC_run 300 e_wp49)
theorem et_73 : evt[73]? = some (0, 65535, 0) := by decide +kernel
noncomputable def zf98vb_12 : sQ × Bool := ((129, .int 73, .arg 60033), true)
noncomputable def q_wR73 : sCut := ((fr 0 10 53 [] [], [fr 0 5 23 [(4, .int 0)] [], fBot], 7), (fr 0 281 150 [] [], [fr 0 277 91 [(3, .int 0)] [], fBot], 7), [zf98vb_12], [])
noncomputable def q_wq73 : sCut := ((fr 0 5 0 [(0, tr 57), (1, .int 73), (2, .arg 60033)] [], [fBot], 8), (fr 0 277 60 [(0, tr 219), (1, .arg 1308), (2, .int 73), (4, .arg 60033)] [], [fBot], 8), [zf98vb_1, zf98vb_2, zf98vb_3, zf98vb_4, zf98vb_5, zf98vb_6], [])
noncomputable def q_wq73i : sCut := ((fr 0 5 0 [(0, tr 57), (1, .int 73), (2, .arg 60033)] [], [fBot], 8), (fr 0 277 60 [(0, tr 219), (1, .arg 1308), (2, .int 73), (4, .arg 60033)] [], [fBot], 8), [zf98vb_12, zf98vb_1, zf98vb_2, zf98vb_3, zf98vb_4, zf98vb_5, zf98vb_6], [])
noncomputable def w_wq73i : List (sCut × List (Nat × sT) × List (Nat × sT × List (sT × sT))) := [(q_wR73, [(60033, .arg 60033), (2848, .op2 .ior (.arg 2848) (.int 4096)), (6850, .arg 6850), (6882, .arg 6882), (6914, .arg 6914), (6946, .arg 6946), (7362, .arg 7362), (7394, .arg 7394), (7426, .arg 7426), (7458, .arg 7458), (7874, .int 0), (7906, .arg 7906), (7938, .arg 7938), (7970, .arg 7970), (21216, .int 0), (21248, .arg 21248), (21280, .arg 21280), (21312, .arg 21312), (6466, .arg 6466), (6498, .arg 6498)], [(1761, .arg 1761, [(.int 73, .arg 60033)])])]
theorem k_wq73i : cbody kR [] (cpl1 zWP c_wn1 [q_wR73]) (cpl2 zWP c_wn1 [q_wR73]) (cleafB kR zWP c_wn1 w_wq73i) 1500 true true q_wq73i.2.2.1 q_wq73i.2.2.2 (cst zWP c_wn1.2.2.1.1 q_wq73i.1) (cst zWP c_wn1.2.2.1.2 q_wq73i.2.1) = true := by decide +kernel
theorem t_wq73i {X : pX} {ρ0 : sR} (hv : vok X ρ0) : CUTOK X kR zWP c_wn1 8 ρ0 q_wq73i := CUTOK_AT (fun ρ k1 hF hI k4 => AT_of (q := q_wq73i) rfl rfl (SEM_runB kR_x kR_0 (Cs := []) (fun C hC => by cases hC) c_wn1_f (Q := w_wq73i) hv 1500 (b1 := true) (b2 := true) k_wq73i k1 hF hI k4 (fun p hp ρ3 m1 m2 m3 m4 m5 m6 => by
  rw [List.mem_singleton.mp hp] at m2 m3 m5 m6 ⊢
  have y3 : ρ3.2.1 60033 = ρ.2.1 60033 := congrArg Prod.snd (m5 (60033, .arg 60033) List.mem_cons_self)
  have hA : ∀ j, ρ3.2.2.2.1 1761 j = if 73 = j then ρ.2.1 60033 else ρ.2.2.2.1 1761 j := fun j => ad_l (X := X) (p := 73) (t := .arg 60033) rfl (m6 _ List.mem_cons_self) j
  have hk : evk 73 (ρ.2.1 60033).toInt = true := by
    have h := m2.2 _ List.mem_cons_self
    rw [← y3]
    exact h
  have ea : ρ3.1 2848 = (sd X ρ (.op2 .ior (.arg 2848) (.int 4096))).1 := congrArg Prod.fst (m5 (2848, .op2 .ior (.arg 2848) (.int 4096)) (List.mem_cons_of_mem _ List.mem_cons_self))
  have eL : ρ3.1 60578 = ρ.1 60578 := (m4.1 60578 (by decide) (by decide)).1.trans (k4.1 60578 (by decide) (by decide)).1.symm
  have mo : sc X ρ3 (2, .op2 .iand (.op2 .iushr (.arg 2848) (.int 4)) (.int 1), .arg 60578) = false := by
    show decide (((ρ3.1 2848).toUInt32 >>> ((4 : Int32).toUInt32 &&& (31 : Int32).toUInt32)).toInt32 &&& 1 < ρ3.1 60578) = false
    rw [ea, eL]
    have q := tbv_ok (X := X) (ρ := ρ) (F := []) (a := .op2 .iand (.op2 .iushr (.op2 .ior (.arg 2848) (.int 4096)) (.int 4)) (.int 1)) (b := .op2 .iand (.op2 .iushr (.arg 2848) (.int 4)) (.int 1)) ⟨hF.1, fun f hf => by cases hf⟩ (by decide +kernel)
    rw [sv_int rfl, sv_int rfl] at q
    exact mn_e (Value.int.inj q) (of_decide_eq_true (hF.2 _ (List.mem_cons_of_mem _ (List.mem_cons_of_mem _ (List.mem_cons_of_mem _ (List.mem_cons_of_mem _ (List.mem_cons_of_mem _ (List.mem_cons_self))))))))
  exact t_wE1 hv ρ3 m1 ⟨m2.1, fcn (ev_nm (g := ρ.2.2.2.1 1761) (p := 73) (hF.2 _ (List.mem_cons_of_mem _ (List.mem_cons_of_mem _ (List.mem_cons_of_mem _ (List.mem_cons_self))))) hk hA (by decide +kernel)) (fcn (pd_up (X := X) (p := 73) (c := 4096) (z := [7874, 21216]) (hF.2 _ (List.mem_cons_of_mem _ (List.mem_cons_of_mem _ (List.mem_cons_of_mem _ (List.mem_cons_of_mem _ (List.mem_cons_self)))))) hA (fun x hx => m5 x (List.mem_cons_of_mem _ hx)) k4 m4 wm_1 wb_1 (by decide +kernel)) (fcn (mo) (fnl)))⟩ m3 m4)))
theorem t_wq73 {X : pX} {ρ0 : sR} (hv : vok X ρ0) : CUTOK X kR zWP c_wn1 8 ρ0 q_wq73 := CUT_mono (t_wq73i hv) (fun ρ hF hI => by
  have b0 := rl_lf (x := ρ.2.1 60033) (y := 0) (hF.2 _ (List.mem_cons_self))
  have b1 := rl_lf (x := 65535) (y := ρ.2.1 60033) (hF.2 _ (List.mem_cons_of_mem _ (List.mem_cons_self)))
  have y0 : (0 : Int64).toInt = 0 := by decide +kernel
  have y1 : (65535 : Int64).toInt = 65535 := by decide +kernel
  rw [y0] at b0
  rw [y1] at b1
  exact ⟨⟨hF.1, fcn (wn_129 (p := 73) (q := 73) rfl et_73 b0 b1 rfl) (hF.2)⟩, hI⟩)
theorem e_wp73 : frun kR [] (cpl1 zWP (c_wp1 73) [q_wq73]) (cpl2 zWP (c_wp1 73) [q_wq73]) (cleaf kR zWP (c_wp1 73) [q_wq73]) 300 65536 (isatP ((c_wp1 73).2.2.2.1) (c_wp1 73).2.2.2.2.2.2.2.1) (c_wp1 73).2.2.2.2.2.2.2.1 (sin0 mt_all (c_wp1 73).1.1 8 (c_wp1 73).2.1.1 (foot zWP (c_wp1 73).2.2.1.1)) (sin0 mt_all (c_wp1 73).1.2.1 8 (c_wp1 73).2.1.2 (foot zWP (c_wp1 73).2.2.1.2)) = true := by decide +kernel
theorem s_wp73 {X : pX} : SREL X pF pdfl mt_all kR zWP (c_wp1 73) := SREL_QC kR_x kR_0 (Cs := []) (fun C hC => by cases hC) (d := 8) rfl (c_wp1_f 73) (Q := [q_wq73]) (fun ρ0 hv => fun q hq => by
    simp only [List.mem_cons, List.not_mem_nil, or_false] at hq
    rw [hq]; exact (t_wq73 hv : CUTOK X kR zWP c_wn1 8 ρ0 q_wq73)) (QC_run 300 e_wp73)
theorem et_74 : evt[74]? = some (0, 65535, 0) := by decide +kernel
noncomputable def zf98vb_13 : sQ × Bool := ((129, .int 74, .arg 60033), true)
noncomputable def q_wR74 : sCut := ((fr 0 10 53 [] [], [fr 0 5 23 [(4, .int 0)] [], fBot], 7), (fr 0 281 150 [] [], [fr 0 277 91 [(3, .int 0)] [], fBot], 7), [zf98vb_13], [])
noncomputable def q_wq74 : sCut := ((fr 0 5 0 [(0, tr 57), (1, .int 74), (2, .arg 60033)] [], [fBot], 8), (fr 0 277 60 [(0, tr 219), (1, .arg 1308), (2, .int 74), (4, .arg 60033)] [], [fBot], 8), [zf98vb_1, zf98vb_2, zf98vb_3, zf98vb_4, zf98vb_5, zf98vb_6], [])
noncomputable def q_wq74i : sCut := ((fr 0 5 0 [(0, tr 57), (1, .int 74), (2, .arg 60033)] [], [fBot], 8), (fr 0 277 60 [(0, tr 219), (1, .arg 1308), (2, .int 74), (4, .arg 60033)] [], [fBot], 8), [zf98vb_13, zf98vb_1, zf98vb_2, zf98vb_3, zf98vb_4, zf98vb_5, zf98vb_6], [])
noncomputable def w_wq74i : List (sCut × List (Nat × sT) × List (Nat × sT × List (sT × sT))) := [(q_wR74, [(60033, .arg 60033), (2848, .op2 .ior (.arg 2848) (.int 4096)), (6850, .arg 6850), (6882, .arg 6882), (6914, .arg 6914), (6946, .arg 6946), (7362, .arg 7362), (7394, .arg 7394), (7426, .arg 7426), (7458, .arg 7458), (7874, .int 0), (7906, .arg 7906), (7938, .arg 7938), (7970, .arg 7970), (21216, .int 0), (21248, .arg 21248), (21280, .arg 21280), (21312, .arg 21312), (6466, .arg 6466), (6498, .arg 6498)], [(1761, .arg 1761, [(.int 74, .arg 60033)])])]
theorem k_wq74i : cbody kR [] (cpl1 zWP c_wn1 [q_wR74]) (cpl2 zWP c_wn1 [q_wR74]) (cleafB kR zWP c_wn1 w_wq74i) 1500 true true q_wq74i.2.2.1 q_wq74i.2.2.2 (cst zWP c_wn1.2.2.1.1 q_wq74i.1) (cst zWP c_wn1.2.2.1.2 q_wq74i.2.1) = true := by decide +kernel
theorem t_wq74i {X : pX} {ρ0 : sR} (hv : vok X ρ0) : CUTOK X kR zWP c_wn1 8 ρ0 q_wq74i := CUTOK_AT (fun ρ k1 hF hI k4 => AT_of (q := q_wq74i) rfl rfl (SEM_runB kR_x kR_0 (Cs := []) (fun C hC => by cases hC) c_wn1_f (Q := w_wq74i) hv 1500 (b1 := true) (b2 := true) k_wq74i k1 hF hI k4 (fun p hp ρ3 m1 m2 m3 m4 m5 m6 => by
  rw [List.mem_singleton.mp hp] at m2 m3 m5 m6 ⊢
  have y3 : ρ3.2.1 60033 = ρ.2.1 60033 := congrArg Prod.snd (m5 (60033, .arg 60033) List.mem_cons_self)
  have hA : ∀ j, ρ3.2.2.2.1 1761 j = if 74 = j then ρ.2.1 60033 else ρ.2.2.2.1 1761 j := fun j => ad_l (X := X) (p := 74) (t := .arg 60033) rfl (m6 _ List.mem_cons_self) j
  have hk : evk 74 (ρ.2.1 60033).toInt = true := by
    have h := m2.2 _ List.mem_cons_self
    rw [← y3]
    exact h
  have ea : ρ3.1 2848 = (sd X ρ (.op2 .ior (.arg 2848) (.int 4096))).1 := congrArg Prod.fst (m5 (2848, .op2 .ior (.arg 2848) (.int 4096)) (List.mem_cons_of_mem _ List.mem_cons_self))
  have eL : ρ3.1 60578 = ρ.1 60578 := (m4.1 60578 (by decide) (by decide)).1.trans (k4.1 60578 (by decide) (by decide)).1.symm
  have mo : sc X ρ3 (2, .op2 .iand (.op2 .iushr (.arg 2848) (.int 4)) (.int 1), .arg 60578) = false := by
    show decide (((ρ3.1 2848).toUInt32 >>> ((4 : Int32).toUInt32 &&& (31 : Int32).toUInt32)).toInt32 &&& 1 < ρ3.1 60578) = false
    rw [ea, eL]
    have q := tbv_ok (X := X) (ρ := ρ) (F := []) (a := .op2 .iand (.op2 .iushr (.op2 .ior (.arg 2848) (.int 4096)) (.int 4)) (.int 1)) (b := .op2 .iand (.op2 .iushr (.arg 2848) (.int 4)) (.int 1)) ⟨hF.1, fun f hf => by cases hf⟩ (by decide +kernel)
    rw [sv_int rfl, sv_int rfl] at q
    exact mn_e (Value.int.inj q) (of_decide_eq_true (hF.2 _ (List.mem_cons_of_mem _ (List.mem_cons_of_mem _ (List.mem_cons_of_mem _ (List.mem_cons_of_mem _ (List.mem_cons_of_mem _ (List.mem_cons_self))))))))
  exact t_wE1 hv ρ3 m1 ⟨m2.1, fcn (ev_nm (g := ρ.2.2.2.1 1761) (p := 74) (hF.2 _ (List.mem_cons_of_mem _ (List.mem_cons_of_mem _ (List.mem_cons_of_mem _ (List.mem_cons_self))))) hk hA (by decide +kernel)) (fcn (pd_up (X := X) (p := 74) (c := 4096) (z := [7874, 21216]) (hF.2 _ (List.mem_cons_of_mem _ (List.mem_cons_of_mem _ (List.mem_cons_of_mem _ (List.mem_cons_of_mem _ (List.mem_cons_self)))))) hA (fun x hx => m5 x (List.mem_cons_of_mem _ hx)) k4 m4 wm_1 wb_1 (by decide +kernel)) (fcn (mo) (fnl)))⟩ m3 m4)))
theorem t_wq74 {X : pX} {ρ0 : sR} (hv : vok X ρ0) : CUTOK X kR zWP c_wn1 8 ρ0 q_wq74 := CUT_mono (t_wq74i hv) (fun ρ hF hI => by
  have b0 := rl_lf (x := ρ.2.1 60033) (y := 0) (hF.2 _ (List.mem_cons_self))
  have b1 := rl_lf (x := 65535) (y := ρ.2.1 60033) (hF.2 _ (List.mem_cons_of_mem _ (List.mem_cons_self)))
  have y0 : (0 : Int64).toInt = 0 := by decide +kernel
  have y1 : (65535 : Int64).toInt = 65535 := by decide +kernel
  rw [y0] at b0
  rw [y1] at b1
  exact ⟨⟨hF.1, fcn (wn_129 (p := 74) (q := 74) rfl et_74 b0 b1 rfl) (hF.2)⟩, hI⟩)
theorem e_wp74 : frun kR [] (cpl1 zWP (c_wp1 74) [q_wq74]) (cpl2 zWP (c_wp1 74) [q_wq74]) (cleaf kR zWP (c_wp1 74) [q_wq74]) 300 65536 (isatP ((c_wp1 74).2.2.2.1) (c_wp1 74).2.2.2.2.2.2.2.1) (c_wp1 74).2.2.2.2.2.2.2.1 (sin0 mt_all (c_wp1 74).1.1 8 (c_wp1 74).2.1.1 (foot zWP (c_wp1 74).2.2.1.1)) (sin0 mt_all (c_wp1 74).1.2.1 8 (c_wp1 74).2.1.2 (foot zWP (c_wp1 74).2.2.1.2)) = true := by decide +kernel
theorem s_wp74 {X : pX} : SREL X pF pdfl mt_all kR zWP (c_wp1 74) := SREL_QC kR_x kR_0 (Cs := []) (fun C hC => by cases hC) (d := 8) rfl (c_wp1_f 74) (Q := [q_wq74]) (fun ρ0 hv => fun q hq => by
    simp only [List.mem_cons, List.not_mem_nil, or_false] at hq
    rw [hq]; exact (t_wq74 hv : CUTOK X kR zWP c_wn1 8 ρ0 q_wq74)) (QC_run 300 e_wp74)
theorem et_78 : evt[78]? = some (0, 65535, 0) := by decide +kernel
noncomputable def zf98vb_14 : sQ × Bool := ((129, .int 78, .arg 60033), true)
noncomputable def q_wR78 : sCut := ((fr 0 10 53 [] [], [fr 0 5 23 [(4, .int 0)] [], fBot], 7), (fr 0 281 150 [] [], [fr 0 277 91 [(3, .int 0)] [], fBot], 7), [zf98vb_14], [])
noncomputable def q_wq78 : sCut := ((fr 0 5 0 [(0, tr 57), (1, .int 78), (2, .arg 60033)] [], [fBot], 8), (fr 0 277 60 [(0, tr 219), (1, .arg 1308), (2, .int 78), (4, .arg 60033)] [], [fBot], 8), [zf98vb_1, zf98vb_2, zf98vb_3, zf98vb_4, zf98vb_5, zf98vb_6], [])
noncomputable def q_wq78i : sCut := ((fr 0 5 0 [(0, tr 57), (1, .int 78), (2, .arg 60033)] [], [fBot], 8), (fr 0 277 60 [(0, tr 219), (1, .arg 1308), (2, .int 78), (4, .arg 60033)] [], [fBot], 8), [zf98vb_14, zf98vb_1, zf98vb_2, zf98vb_3, zf98vb_4, zf98vb_5, zf98vb_6], [])
noncomputable def w_wq78i : List (sCut × List (Nat × sT) × List (Nat × sT × List (sT × sT))) := [(q_wR78, [(60033, .arg 60033), (2848, .op2 .ior (.arg 2848) (.int 8192)), (6850, .arg 6850), (6882, .arg 6882), (6914, .arg 6914), (6946, .arg 6946), (7362, .arg 7362), (7394, .arg 7394), (7426, .arg 7426), (7458, .arg 7458), (7874, .arg 7874), (7906, .int 0), (7938, .arg 7938), (7970, .arg 7970), (21216, .arg 21216), (21248, .int 0), (21280, .arg 21280), (21312, .arg 21312), (6466, .arg 6466), (6498, .arg 6498)], [(1761, .arg 1761, [(.int 78, .arg 60033)])])]
theorem k_wq78i : cbody kR [] (cpl1 zWP c_wn1 [q_wR78]) (cpl2 zWP c_wn1 [q_wR78]) (cleafB kR zWP c_wn1 w_wq78i) 1500 true true q_wq78i.2.2.1 q_wq78i.2.2.2 (cst zWP c_wn1.2.2.1.1 q_wq78i.1) (cst zWP c_wn1.2.2.1.2 q_wq78i.2.1) = true := by decide +kernel
theorem t_wq78i {X : pX} {ρ0 : sR} (hv : vok X ρ0) : CUTOK X kR zWP c_wn1 8 ρ0 q_wq78i := CUTOK_AT (fun ρ k1 hF hI k4 => AT_of (q := q_wq78i) rfl rfl (SEM_runB kR_x kR_0 (Cs := []) (fun C hC => by cases hC) c_wn1_f (Q := w_wq78i) hv 1500 (b1 := true) (b2 := true) k_wq78i k1 hF hI k4 (fun p hp ρ3 m1 m2 m3 m4 m5 m6 => by
  rw [List.mem_singleton.mp hp] at m2 m3 m5 m6 ⊢
  have y3 : ρ3.2.1 60033 = ρ.2.1 60033 := congrArg Prod.snd (m5 (60033, .arg 60033) List.mem_cons_self)
  have hA : ∀ j, ρ3.2.2.2.1 1761 j = if 78 = j then ρ.2.1 60033 else ρ.2.2.2.1 1761 j := fun j => ad_l (X := X) (p := 78) (t := .arg 60033) rfl (m6 _ List.mem_cons_self) j
  have hk : evk 78 (ρ.2.1 60033).toInt = true := by
    have h := m2.2 _ List.mem_cons_self
    rw [← y3]
    exact h
  have ea : ρ3.1 2848 = (sd X ρ (.op2 .ior (.arg 2848) (.int 8192))).1 := congrArg Prod.fst (m5 (2848, .op2 .ior (.arg 2848) (.int 8192)) (List.mem_cons_of_mem _ List.mem_cons_self))
  have eL : ρ3.1 60578 = ρ.1 60578 := (m4.1 60578 (by decide) (by decide)).1.trans (k4.1 60578 (by decide) (by decide)).1.symm
  have mo : sc X ρ3 (2, .op2 .iand (.op2 .iushr (.arg 2848) (.int 4)) (.int 1), .arg 60578) = false := by
    show decide (((ρ3.1 2848).toUInt32 >>> ((4 : Int32).toUInt32 &&& (31 : Int32).toUInt32)).toInt32 &&& 1 < ρ3.1 60578) = false
    rw [ea, eL]
    have q := tbv_ok (X := X) (ρ := ρ) (F := []) (a := .op2 .iand (.op2 .iushr (.op2 .ior (.arg 2848) (.int 8192)) (.int 4)) (.int 1)) (b := .op2 .iand (.op2 .iushr (.arg 2848) (.int 4)) (.int 1)) ⟨hF.1, fun f hf => by cases hf⟩ (by decide +kernel)
    rw [sv_int rfl, sv_int rfl] at q
    exact mn_e (Value.int.inj q) (of_decide_eq_true (hF.2 _ (List.mem_cons_of_mem _ (List.mem_cons_of_mem _ (List.mem_cons_of_mem _ (List.mem_cons_of_mem _ (List.mem_cons_of_mem _ (List.mem_cons_self))))))))
  exact t_wE1 hv ρ3 m1 ⟨m2.1, fcn (ev_nm (g := ρ.2.2.2.1 1761) (p := 78) (hF.2 _ (List.mem_cons_of_mem _ (List.mem_cons_of_mem _ (List.mem_cons_of_mem _ (List.mem_cons_self))))) hk hA (by decide +kernel)) (fcn (pd_up (X := X) (p := 78) (c := 8192) (z := [7906, 21248]) (hF.2 _ (List.mem_cons_of_mem _ (List.mem_cons_of_mem _ (List.mem_cons_of_mem _ (List.mem_cons_of_mem _ (List.mem_cons_self)))))) hA (fun x hx => m5 x (List.mem_cons_of_mem _ hx)) k4 m4 wm_1 wb_1 (by decide +kernel)) (fcn (mo) (fnl)))⟩ m3 m4)))
theorem t_wq78 {X : pX} {ρ0 : sR} (hv : vok X ρ0) : CUTOK X kR zWP c_wn1 8 ρ0 q_wq78 := CUT_mono (t_wq78i hv) (fun ρ hF hI => by
  have b0 := rl_lf (x := ρ.2.1 60033) (y := 0) (hF.2 _ (List.mem_cons_self))
  have b1 := rl_lf (x := 65535) (y := ρ.2.1 60033) (hF.2 _ (List.mem_cons_of_mem _ (List.mem_cons_self)))
  have y0 : (0 : Int64).toInt = 0 := by decide +kernel
  have y1 : (65535 : Int64).toInt = 65535 := by decide +kernel
  rw [y0] at b0
  rw [y1] at b1
  exact ⟨⟨hF.1, fcn (wn_129 (p := 78) (q := 78) rfl et_78 b0 b1 rfl) (hF.2)⟩, hI⟩)
theorem e_wp78 : frun kR [] (cpl1 zWP (c_wp1 78) [q_wq78]) (cpl2 zWP (c_wp1 78) [q_wq78]) (cleaf kR zWP (c_wp1 78) [q_wq78]) 300 65536 (isatP ((c_wp1 78).2.2.2.1) (c_wp1 78).2.2.2.2.2.2.2.1) (c_wp1 78).2.2.2.2.2.2.2.1 (sin0 mt_all (c_wp1 78).1.1 8 (c_wp1 78).2.1.1 (foot zWP (c_wp1 78).2.2.1.1)) (sin0 mt_all (c_wp1 78).1.2.1 8 (c_wp1 78).2.1.2 (foot zWP (c_wp1 78).2.2.1.2)) = true := by decide +kernel
theorem s_wp78 {X : pX} : SREL X pF pdfl mt_all kR zWP (c_wp1 78) := SREL_QC kR_x kR_0 (Cs := []) (fun C hC => by cases hC) (d := 8) rfl (c_wp1_f 78) (Q := [q_wq78]) (fun ρ0 hv => fun q hq => by
    simp only [List.mem_cons, List.not_mem_nil, or_false] at hq
    rw [hq]; exact (t_wq78 hv : CUTOK X kR zWP c_wn1 8 ρ0 q_wq78)) (QC_run 300 e_wp78)
theorem et_79 : evt[79]? = some (0, 65535, 0) := by decide +kernel
noncomputable def zf98vb_15 : sQ × Bool := ((129, .int 79, .arg 60033), true)
noncomputable def q_wR79 : sCut := ((fr 0 10 53 [] [], [fr 0 5 23 [(4, .int 0)] [], fBot], 7), (fr 0 281 150 [] [], [fr 0 277 91 [(3, .int 0)] [], fBot], 7), [zf98vb_15], [])
noncomputable def q_wq79 : sCut := ((fr 0 5 0 [(0, tr 57), (1, .int 79), (2, .arg 60033)] [], [fBot], 8), (fr 0 277 60 [(0, tr 219), (1, .arg 1308), (2, .int 79), (4, .arg 60033)] [], [fBot], 8), [zf98vb_1, zf98vb_2, zf98vb_3, zf98vb_4, zf98vb_5, zf98vb_6], [])
noncomputable def q_wq79i : sCut := ((fr 0 5 0 [(0, tr 57), (1, .int 79), (2, .arg 60033)] [], [fBot], 8), (fr 0 277 60 [(0, tr 219), (1, .arg 1308), (2, .int 79), (4, .arg 60033)] [], [fBot], 8), [zf98vb_15, zf98vb_1, zf98vb_2, zf98vb_3, zf98vb_4, zf98vb_5, zf98vb_6], [])
noncomputable def w_wq79i : List (sCut × List (Nat × sT) × List (Nat × sT × List (sT × sT))) := [(q_wR79, [(60033, .arg 60033), (2848, .op2 .ior (.arg 2848) (.int 8192)), (6850, .arg 6850), (6882, .arg 6882), (6914, .arg 6914), (6946, .arg 6946), (7362, .arg 7362), (7394, .arg 7394), (7426, .arg 7426), (7458, .arg 7458), (7874, .arg 7874), (7906, .int 0), (7938, .arg 7938), (7970, .arg 7970), (21216, .arg 21216), (21248, .int 0), (21280, .arg 21280), (21312, .arg 21312), (6466, .arg 6466), (6498, .arg 6498)], [(1761, .arg 1761, [(.int 79, .arg 60033)])])]
theorem k_wq79i : cbody kR [] (cpl1 zWP c_wn1 [q_wR79]) (cpl2 zWP c_wn1 [q_wR79]) (cleafB kR zWP c_wn1 w_wq79i) 1500 true true q_wq79i.2.2.1 q_wq79i.2.2.2 (cst zWP c_wn1.2.2.1.1 q_wq79i.1) (cst zWP c_wn1.2.2.1.2 q_wq79i.2.1) = true := by decide +kernel
theorem t_wq79i {X : pX} {ρ0 : sR} (hv : vok X ρ0) : CUTOK X kR zWP c_wn1 8 ρ0 q_wq79i := CUTOK_AT (fun ρ k1 hF hI k4 => AT_of (q := q_wq79i) rfl rfl (SEM_runB kR_x kR_0 (Cs := []) (fun C hC => by cases hC) c_wn1_f (Q := w_wq79i) hv 1500 (b1 := true) (b2 := true) k_wq79i k1 hF hI k4 (fun p hp ρ3 m1 m2 m3 m4 m5 m6 => by
  rw [List.mem_singleton.mp hp] at m2 m3 m5 m6 ⊢
  have y3 : ρ3.2.1 60033 = ρ.2.1 60033 := congrArg Prod.snd (m5 (60033, .arg 60033) List.mem_cons_self)
  have hA : ∀ j, ρ3.2.2.2.1 1761 j = if 79 = j then ρ.2.1 60033 else ρ.2.2.2.1 1761 j := fun j => ad_l (X := X) (p := 79) (t := .arg 60033) rfl (m6 _ List.mem_cons_self) j
  have hk : evk 79 (ρ.2.1 60033).toInt = true := by
    have h := m2.2 _ List.mem_cons_self
    rw [← y3]
    exact h
  have ea : ρ3.1 2848 = (sd X ρ (.op2 .ior (.arg 2848) (.int 8192))).1 := congrArg Prod.fst (m5 (2848, .op2 .ior (.arg 2848) (.int 8192)) (List.mem_cons_of_mem _ List.mem_cons_self))
  have eL : ρ3.1 60578 = ρ.1 60578 := (m4.1 60578 (by decide) (by decide)).1.trans (k4.1 60578 (by decide) (by decide)).1.symm
  have mo : sc X ρ3 (2, .op2 .iand (.op2 .iushr (.arg 2848) (.int 4)) (.int 1), .arg 60578) = false := by
    show decide (((ρ3.1 2848).toUInt32 >>> ((4 : Int32).toUInt32 &&& (31 : Int32).toUInt32)).toInt32 &&& 1 < ρ3.1 60578) = false
    rw [ea, eL]
    have q := tbv_ok (X := X) (ρ := ρ) (F := []) (a := .op2 .iand (.op2 .iushr (.op2 .ior (.arg 2848) (.int 8192)) (.int 4)) (.int 1)) (b := .op2 .iand (.op2 .iushr (.arg 2848) (.int 4)) (.int 1)) ⟨hF.1, fun f hf => by cases hf⟩ (by decide +kernel)
    rw [sv_int rfl, sv_int rfl] at q
    exact mn_e (Value.int.inj q) (of_decide_eq_true (hF.2 _ (List.mem_cons_of_mem _ (List.mem_cons_of_mem _ (List.mem_cons_of_mem _ (List.mem_cons_of_mem _ (List.mem_cons_of_mem _ (List.mem_cons_self))))))))
  exact t_wE1 hv ρ3 m1 ⟨m2.1, fcn (ev_nm (g := ρ.2.2.2.1 1761) (p := 79) (hF.2 _ (List.mem_cons_of_mem _ (List.mem_cons_of_mem _ (List.mem_cons_of_mem _ (List.mem_cons_self))))) hk hA (by decide +kernel)) (fcn (pd_up (X := X) (p := 79) (c := 8192) (z := [7906, 21248]) (hF.2 _ (List.mem_cons_of_mem _ (List.mem_cons_of_mem _ (List.mem_cons_of_mem _ (List.mem_cons_of_mem _ (List.mem_cons_self)))))) hA (fun x hx => m5 x (List.mem_cons_of_mem _ hx)) k4 m4 wm_1 wb_1 (by decide +kernel)) (fcn (mo) (fnl)))⟩ m3 m4)))
theorem t_wq79 {X : pX} {ρ0 : sR} (hv : vok X ρ0) : CUTOK X kR zWP c_wn1 8 ρ0 q_wq79 := CUT_mono (t_wq79i hv) (fun ρ hF hI => by
  have b0 := rl_lf (x := ρ.2.1 60033) (y := 0) (hF.2 _ (List.mem_cons_self))
  have b1 := rl_lf (x := 65535) (y := ρ.2.1 60033) (hF.2 _ (List.mem_cons_of_mem _ (List.mem_cons_self)))
  have y0 : (0 : Int64).toInt = 0 := by decide +kernel
  have y1 : (65535 : Int64).toInt = 65535 := by decide +kernel
  rw [y0] at b0
  rw [y1] at b1
  exact ⟨⟨hF.1, fcn (wn_129 (p := 79) (q := 79) rfl et_79 b0 b1 rfl) (hF.2)⟩, hI⟩)
theorem e_wp79 : frun kR [] (cpl1 zWP (c_wp1 79) [q_wq79]) (cpl2 zWP (c_wp1 79) [q_wq79]) (cleaf kR zWP (c_wp1 79) [q_wq79]) 300 65536 (isatP ((c_wp1 79).2.2.2.1) (c_wp1 79).2.2.2.2.2.2.2.1) (c_wp1 79).2.2.2.2.2.2.2.1 (sin0 mt_all (c_wp1 79).1.1 8 (c_wp1 79).2.1.1 (foot zWP (c_wp1 79).2.2.1.1)) (sin0 mt_all (c_wp1 79).1.2.1 8 (c_wp1 79).2.1.2 (foot zWP (c_wp1 79).2.2.1.2)) = true := by decide +kernel
theorem s_wp79 {X : pX} : SREL X pF pdfl mt_all kR zWP (c_wp1 79) := SREL_QC kR_x kR_0 (Cs := []) (fun C hC => by cases hC) (d := 8) rfl (c_wp1_f 79) (Q := [q_wq79]) (fun ρ0 hv => fun q hq => by
    simp only [List.mem_cons, List.not_mem_nil, or_false] at hq
    rw [hq]; exact (t_wq79 hv : CUTOK X kR zWP c_wn1 8 ρ0 q_wq79)) (QC_run 300 e_wp79)
theorem et_83 : evt[83]? = some (0, 65535, 0) := by decide +kernel
noncomputable def zf98vb_16 : sQ × Bool := ((129, .int 83, .arg 60033), true)
noncomputable def q_wR83 : sCut := ((fr 0 10 53 [] [], [fr 0 5 23 [(4, .int 0)] [], fBot], 7), (fr 0 281 150 [] [], [fr 0 277 91 [(3, .int 0)] [], fBot], 7), [zf98vb_16], [])
noncomputable def q_wq83 : sCut := ((fr 0 5 0 [(0, tr 57), (1, .int 83), (2, .arg 60033)] [], [fBot], 8), (fr 0 277 60 [(0, tr 219), (1, .arg 1308), (2, .int 83), (4, .arg 60033)] [], [fBot], 8), [zf98vb_1, zf98vb_2, zf98vb_3, zf98vb_4, zf98vb_5, zf98vb_6], [])
noncomputable def q_wq83i : sCut := ((fr 0 5 0 [(0, tr 57), (1, .int 83), (2, .arg 60033)] [], [fBot], 8), (fr 0 277 60 [(0, tr 219), (1, .arg 1308), (2, .int 83), (4, .arg 60033)] [], [fBot], 8), [zf98vb_16, zf98vb_1, zf98vb_2, zf98vb_3, zf98vb_4, zf98vb_5, zf98vb_6], [])
noncomputable def w_wq83i : List (sCut × List (Nat × sT) × List (Nat × sT × List (sT × sT))) := [(q_wR83, [(60033, .arg 60033), (2848, .op2 .ior (.arg 2848) (.int 16384)), (6850, .arg 6850), (6882, .arg 6882), (6914, .arg 6914), (6946, .arg 6946), (7362, .arg 7362), (7394, .arg 7394), (7426, .arg 7426), (7458, .arg 7458), (7874, .arg 7874), (7906, .arg 7906), (7938, .int 0), (7970, .arg 7970), (21216, .arg 21216), (21248, .arg 21248), (21280, .int 0), (21312, .arg 21312), (6466, .arg 6466), (6498, .arg 6498)], [(1761, .arg 1761, [(.int 83, .arg 60033)])])]
theorem k_wq83i : cbody kR [] (cpl1 zWP c_wn1 [q_wR83]) (cpl2 zWP c_wn1 [q_wR83]) (cleafB kR zWP c_wn1 w_wq83i) 1500 true true q_wq83i.2.2.1 q_wq83i.2.2.2 (cst zWP c_wn1.2.2.1.1 q_wq83i.1) (cst zWP c_wn1.2.2.1.2 q_wq83i.2.1) = true := by decide +kernel
theorem t_wq83i {X : pX} {ρ0 : sR} (hv : vok X ρ0) : CUTOK X kR zWP c_wn1 8 ρ0 q_wq83i := CUTOK_AT (fun ρ k1 hF hI k4 => AT_of (q := q_wq83i) rfl rfl (SEM_runB kR_x kR_0 (Cs := []) (fun C hC => by cases hC) c_wn1_f (Q := w_wq83i) hv 1500 (b1 := true) (b2 := true) k_wq83i k1 hF hI k4 (fun p hp ρ3 m1 m2 m3 m4 m5 m6 => by
  rw [List.mem_singleton.mp hp] at m2 m3 m5 m6 ⊢
  have y3 : ρ3.2.1 60033 = ρ.2.1 60033 := congrArg Prod.snd (m5 (60033, .arg 60033) List.mem_cons_self)
  have hA : ∀ j, ρ3.2.2.2.1 1761 j = if 83 = j then ρ.2.1 60033 else ρ.2.2.2.1 1761 j := fun j => ad_l (X := X) (p := 83) (t := .arg 60033) rfl (m6 _ List.mem_cons_self) j
  have hk : evk 83 (ρ.2.1 60033).toInt = true := by
    have h := m2.2 _ List.mem_cons_self
    rw [← y3]
    exact h
  have ea : ρ3.1 2848 = (sd X ρ (.op2 .ior (.arg 2848) (.int 16384))).1 := congrArg Prod.fst (m5 (2848, .op2 .ior (.arg 2848) (.int 16384)) (List.mem_cons_of_mem _ List.mem_cons_self))
  have eL : ρ3.1 60578 = ρ.1 60578 := (m4.1 60578 (by decide) (by decide)).1.trans (k4.1 60578 (by decide) (by decide)).1.symm
  have mo : sc X ρ3 (2, .op2 .iand (.op2 .iushr (.arg 2848) (.int 4)) (.int 1), .arg 60578) = false := by
    show decide (((ρ3.1 2848).toUInt32 >>> ((4 : Int32).toUInt32 &&& (31 : Int32).toUInt32)).toInt32 &&& 1 < ρ3.1 60578) = false
    rw [ea, eL]
    have q := tbv_ok (X := X) (ρ := ρ) (F := []) (a := .op2 .iand (.op2 .iushr (.op2 .ior (.arg 2848) (.int 16384)) (.int 4)) (.int 1)) (b := .op2 .iand (.op2 .iushr (.arg 2848) (.int 4)) (.int 1)) ⟨hF.1, fun f hf => by cases hf⟩ (by decide +kernel)
    rw [sv_int rfl, sv_int rfl] at q
    exact mn_e (Value.int.inj q) (of_decide_eq_true (hF.2 _ (List.mem_cons_of_mem _ (List.mem_cons_of_mem _ (List.mem_cons_of_mem _ (List.mem_cons_of_mem _ (List.mem_cons_of_mem _ (List.mem_cons_self))))))))
  exact t_wE1 hv ρ3 m1 ⟨m2.1, fcn (ev_nm (g := ρ.2.2.2.1 1761) (p := 83) (hF.2 _ (List.mem_cons_of_mem _ (List.mem_cons_of_mem _ (List.mem_cons_of_mem _ (List.mem_cons_self))))) hk hA (by decide +kernel)) (fcn (pd_up (X := X) (p := 83) (c := 16384) (z := [7938, 21280]) (hF.2 _ (List.mem_cons_of_mem _ (List.mem_cons_of_mem _ (List.mem_cons_of_mem _ (List.mem_cons_of_mem _ (List.mem_cons_self)))))) hA (fun x hx => m5 x (List.mem_cons_of_mem _ hx)) k4 m4 wm_1 wb_1 (by decide +kernel)) (fcn (mo) (fnl)))⟩ m3 m4)))
theorem t_wq83 {X : pX} {ρ0 : sR} (hv : vok X ρ0) : CUTOK X kR zWP c_wn1 8 ρ0 q_wq83 := CUT_mono (t_wq83i hv) (fun ρ hF hI => by
  have b0 := rl_lf (x := ρ.2.1 60033) (y := 0) (hF.2 _ (List.mem_cons_self))
  have b1 := rl_lf (x := 65535) (y := ρ.2.1 60033) (hF.2 _ (List.mem_cons_of_mem _ (List.mem_cons_self)))
  have y0 : (0 : Int64).toInt = 0 := by decide +kernel
  have y1 : (65535 : Int64).toInt = 65535 := by decide +kernel
  rw [y0] at b0
  rw [y1] at b1
  exact ⟨⟨hF.1, fcn (wn_129 (p := 83) (q := 83) rfl et_83 b0 b1 rfl) (hF.2)⟩, hI⟩)
theorem e_wp83 : frun kR [] (cpl1 zWP (c_wp1 83) [q_wq83]) (cpl2 zWP (c_wp1 83) [q_wq83]) (cleaf kR zWP (c_wp1 83) [q_wq83]) 300 65536 (isatP ((c_wp1 83).2.2.2.1) (c_wp1 83).2.2.2.2.2.2.2.1) (c_wp1 83).2.2.2.2.2.2.2.1 (sin0 mt_all (c_wp1 83).1.1 8 (c_wp1 83).2.1.1 (foot zWP (c_wp1 83).2.2.1.1)) (sin0 mt_all (c_wp1 83).1.2.1 8 (c_wp1 83).2.1.2 (foot zWP (c_wp1 83).2.2.1.2)) = true := by decide +kernel
theorem s_wp83 {X : pX} : SREL X pF pdfl mt_all kR zWP (c_wp1 83) := SREL_QC kR_x kR_0 (Cs := []) (fun C hC => by cases hC) (d := 8) rfl (c_wp1_f 83) (Q := [q_wq83]) (fun ρ0 hv => fun q hq => by
    simp only [List.mem_cons, List.not_mem_nil, or_false] at hq
    rw [hq]; exact (t_wq83 hv : CUTOK X kR zWP c_wn1 8 ρ0 q_wq83)) (QC_run 300 e_wp83)
theorem et_84 : evt[84]? = some (0, 65535, 0) := by decide +kernel
noncomputable def zf98vb_17 : sQ × Bool := ((129, .int 84, .arg 60033), true)
noncomputable def q_wR84 : sCut := ((fr 0 10 53 [] [], [fr 0 5 23 [(4, .int 0)] [], fBot], 7), (fr 0 281 150 [] [], [fr 0 277 91 [(3, .int 0)] [], fBot], 7), [zf98vb_17], [])
noncomputable def q_wq84 : sCut := ((fr 0 5 0 [(0, tr 57), (1, .int 84), (2, .arg 60033)] [], [fBot], 8), (fr 0 277 60 [(0, tr 219), (1, .arg 1308), (2, .int 84), (4, .arg 60033)] [], [fBot], 8), [zf98vb_1, zf98vb_2, zf98vb_3, zf98vb_4, zf98vb_5, zf98vb_6], [])
noncomputable def q_wq84i : sCut := ((fr 0 5 0 [(0, tr 57), (1, .int 84), (2, .arg 60033)] [], [fBot], 8), (fr 0 277 60 [(0, tr 219), (1, .arg 1308), (2, .int 84), (4, .arg 60033)] [], [fBot], 8), [zf98vb_17, zf98vb_1, zf98vb_2, zf98vb_3, zf98vb_4, zf98vb_5, zf98vb_6], [])
noncomputable def w_wq84i : List (sCut × List (Nat × sT) × List (Nat × sT × List (sT × sT))) := [(q_wR84, [(60033, .arg 60033), (2848, .op2 .ior (.arg 2848) (.int 16384)), (6850, .arg 6850), (6882, .arg 6882), (6914, .arg 6914), (6946, .arg 6946), (7362, .arg 7362), (7394, .arg 7394), (7426, .arg 7426), (7458, .arg 7458), (7874, .arg 7874), (7906, .arg 7906), (7938, .int 0), (7970, .arg 7970), (21216, .arg 21216), (21248, .arg 21248), (21280, .int 0), (21312, .arg 21312), (6466, .arg 6466), (6498, .arg 6498)], [(1761, .arg 1761, [(.int 84, .arg 60033)])])]
theorem k_wq84i : cbody kR [] (cpl1 zWP c_wn1 [q_wR84]) (cpl2 zWP c_wn1 [q_wR84]) (cleafB kR zWP c_wn1 w_wq84i) 1500 true true q_wq84i.2.2.1 q_wq84i.2.2.2 (cst zWP c_wn1.2.2.1.1 q_wq84i.1) (cst zWP c_wn1.2.2.1.2 q_wq84i.2.1) = true := by decide +kernel
theorem t_wq84i {X : pX} {ρ0 : sR} (hv : vok X ρ0) : CUTOK X kR zWP c_wn1 8 ρ0 q_wq84i := CUTOK_AT (fun ρ k1 hF hI k4 => AT_of (q := q_wq84i) rfl rfl (SEM_runB kR_x kR_0 (Cs := []) (fun C hC => by cases hC) c_wn1_f (Q := w_wq84i) hv 1500 (b1 := true) (b2 := true) k_wq84i k1 hF hI k4 (fun p hp ρ3 m1 m2 m3 m4 m5 m6 => by
  rw [List.mem_singleton.mp hp] at m2 m3 m5 m6 ⊢
  have y3 : ρ3.2.1 60033 = ρ.2.1 60033 := congrArg Prod.snd (m5 (60033, .arg 60033) List.mem_cons_self)
  have hA : ∀ j, ρ3.2.2.2.1 1761 j = if 84 = j then ρ.2.1 60033 else ρ.2.2.2.1 1761 j := fun j => ad_l (X := X) (p := 84) (t := .arg 60033) rfl (m6 _ List.mem_cons_self) j
  have hk : evk 84 (ρ.2.1 60033).toInt = true := by
    have h := m2.2 _ List.mem_cons_self
    rw [← y3]
    exact h
  have ea : ρ3.1 2848 = (sd X ρ (.op2 .ior (.arg 2848) (.int 16384))).1 := congrArg Prod.fst (m5 (2848, .op2 .ior (.arg 2848) (.int 16384)) (List.mem_cons_of_mem _ List.mem_cons_self))
  have eL : ρ3.1 60578 = ρ.1 60578 := (m4.1 60578 (by decide) (by decide)).1.trans (k4.1 60578 (by decide) (by decide)).1.symm
  have mo : sc X ρ3 (2, .op2 .iand (.op2 .iushr (.arg 2848) (.int 4)) (.int 1), .arg 60578) = false := by
    show decide (((ρ3.1 2848).toUInt32 >>> ((4 : Int32).toUInt32 &&& (31 : Int32).toUInt32)).toInt32 &&& 1 < ρ3.1 60578) = false
    rw [ea, eL]
    have q := tbv_ok (X := X) (ρ := ρ) (F := []) (a := .op2 .iand (.op2 .iushr (.op2 .ior (.arg 2848) (.int 16384)) (.int 4)) (.int 1)) (b := .op2 .iand (.op2 .iushr (.arg 2848) (.int 4)) (.int 1)) ⟨hF.1, fun f hf => by cases hf⟩ (by decide +kernel)
    rw [sv_int rfl, sv_int rfl] at q
    exact mn_e (Value.int.inj q) (of_decide_eq_true (hF.2 _ (List.mem_cons_of_mem _ (List.mem_cons_of_mem _ (List.mem_cons_of_mem _ (List.mem_cons_of_mem _ (List.mem_cons_of_mem _ (List.mem_cons_self))))))))
  exact t_wE1 hv ρ3 m1 ⟨m2.1, fcn (ev_nm (g := ρ.2.2.2.1 1761) (p := 84) (hF.2 _ (List.mem_cons_of_mem _ (List.mem_cons_of_mem _ (List.mem_cons_of_mem _ (List.mem_cons_self))))) hk hA (by decide +kernel)) (fcn (pd_up (X := X) (p := 84) (c := 16384) (z := [7938, 21280]) (hF.2 _ (List.mem_cons_of_mem _ (List.mem_cons_of_mem _ (List.mem_cons_of_mem _ (List.mem_cons_of_mem _ (List.mem_cons_self)))))) hA (fun x hx => m5 x (List.mem_cons_of_mem _ hx)) k4 m4 wm_1 wb_1 (by decide +kernel)) (fcn (mo) (fnl)))⟩ m3 m4)))
theorem t_wq84 {X : pX} {ρ0 : sR} (hv : vok X ρ0) : CUTOK X kR zWP c_wn1 8 ρ0 q_wq84 := CUT_mono (t_wq84i hv) (fun ρ hF hI => by
  have b0 := rl_lf (x := ρ.2.1 60033) (y := 0) (hF.2 _ (List.mem_cons_self))
  have b1 := rl_lf (x := 65535) (y := ρ.2.1 60033) (hF.2 _ (List.mem_cons_of_mem _ (List.mem_cons_self)))
  have y0 : (0 : Int64).toInt = 0 := by decide +kernel
  have y1 : (65535 : Int64).toInt = 65535 := by decide +kernel
  rw [y0] at b0
  rw [y1] at b1
  exact ⟨⟨hF.1, fcn (wn_129 (p := 84) (q := 84) rfl et_84 b0 b1 rfl) (hF.2)⟩, hI⟩)
theorem e_wp84 : frun kR [] (cpl1 zWP (c_wp1 84) [q_wq84]) (cpl2 zWP (c_wp1 84) [q_wq84]) (cleaf kR zWP (c_wp1 84) [q_wq84]) 300 65536 (isatP ((c_wp1 84).2.2.2.1) (c_wp1 84).2.2.2.2.2.2.2.1) (c_wp1 84).2.2.2.2.2.2.2.1 (sin0 mt_all (c_wp1 84).1.1 8 (c_wp1 84).2.1.1 (foot zWP (c_wp1 84).2.2.1.1)) (sin0 mt_all (c_wp1 84).1.2.1 8 (c_wp1 84).2.1.2 (foot zWP (c_wp1 84).2.2.1.2)) = true := by decide +kernel
theorem s_wp84 {X : pX} : SREL X pF pdfl mt_all kR zWP (c_wp1 84) := SREL_QC kR_x kR_0 (Cs := []) (fun C hC => by cases hC) (d := 8) rfl (c_wp1_f 84) (Q := [q_wq84]) (fun ρ0 hv => fun q hq => by
    simp only [List.mem_cons, List.not_mem_nil, or_false] at hq
    rw [hq]; exact (t_wq84 hv : CUTOK X kR zWP c_wn1 8 ρ0 q_wq84)) (QC_run 300 e_wp84)
theorem et_88 : evt[88]? = some (0, 65535, 0) := by decide +kernel
noncomputable def zf98vb_18 : sQ × Bool := ((129, .int 88, .arg 60033), true)
noncomputable def q_wR88 : sCut := ((fr 0 10 53 [] [], [fr 0 5 23 [(4, .int 0)] [], fBot], 7), (fr 0 281 150 [] [], [fr 0 277 91 [(3, .int 0)] [], fBot], 7), [zf98vb_18], [])
noncomputable def q_wq88 : sCut := ((fr 0 5 0 [(0, tr 57), (1, .int 88), (2, .arg 60033)] [], [fBot], 8), (fr 0 277 60 [(0, tr 219), (1, .arg 1308), (2, .int 88), (4, .arg 60033)] [], [fBot], 8), [zf98vb_1, zf98vb_2, zf98vb_3, zf98vb_4, zf98vb_5, zf98vb_6], [])
noncomputable def q_wq88i : sCut := ((fr 0 5 0 [(0, tr 57), (1, .int 88), (2, .arg 60033)] [], [fBot], 8), (fr 0 277 60 [(0, tr 219), (1, .arg 1308), (2, .int 88), (4, .arg 60033)] [], [fBot], 8), [zf98vb_18, zf98vb_1, zf98vb_2, zf98vb_3, zf98vb_4, zf98vb_5, zf98vb_6], [])
noncomputable def w_wq88i : List (sCut × List (Nat × sT) × List (Nat × sT × List (sT × sT))) := [(q_wR88, [(60033, .arg 60033), (2848, .op2 .ior (.arg 2848) (.int 32768)), (6850, .arg 6850), (6882, .arg 6882), (6914, .arg 6914), (6946, .arg 6946), (7362, .arg 7362), (7394, .arg 7394), (7426, .arg 7426), (7458, .arg 7458), (7874, .arg 7874), (7906, .arg 7906), (7938, .arg 7938), (7970, .int 0), (21216, .arg 21216), (21248, .arg 21248), (21280, .arg 21280), (21312, .int 0), (6466, .arg 6466), (6498, .arg 6498)], [(1761, .arg 1761, [(.int 88, .arg 60033)])])]
theorem k_wq88i : cbody kR [] (cpl1 zWP c_wn1 [q_wR88]) (cpl2 zWP c_wn1 [q_wR88]) (cleafB kR zWP c_wn1 w_wq88i) 1500 true true q_wq88i.2.2.1 q_wq88i.2.2.2 (cst zWP c_wn1.2.2.1.1 q_wq88i.1) (cst zWP c_wn1.2.2.1.2 q_wq88i.2.1) = true := by decide +kernel
theorem t_wq88i {X : pX} {ρ0 : sR} (hv : vok X ρ0) : CUTOK X kR zWP c_wn1 8 ρ0 q_wq88i := CUTOK_AT (fun ρ k1 hF hI k4 => AT_of (q := q_wq88i) rfl rfl (SEM_runB kR_x kR_0 (Cs := []) (fun C hC => by cases hC) c_wn1_f (Q := w_wq88i) hv 1500 (b1 := true) (b2 := true) k_wq88i k1 hF hI k4 (fun p hp ρ3 m1 m2 m3 m4 m5 m6 => by
  rw [List.mem_singleton.mp hp] at m2 m3 m5 m6 ⊢
  have y3 : ρ3.2.1 60033 = ρ.2.1 60033 := congrArg Prod.snd (m5 (60033, .arg 60033) List.mem_cons_self)
  have hA : ∀ j, ρ3.2.2.2.1 1761 j = if 88 = j then ρ.2.1 60033 else ρ.2.2.2.1 1761 j := fun j => ad_l (X := X) (p := 88) (t := .arg 60033) rfl (m6 _ List.mem_cons_self) j
  have hk : evk 88 (ρ.2.1 60033).toInt = true := by
    have h := m2.2 _ List.mem_cons_self
    rw [← y3]
    exact h
  have ea : ρ3.1 2848 = (sd X ρ (.op2 .ior (.arg 2848) (.int 32768))).1 := congrArg Prod.fst (m5 (2848, .op2 .ior (.arg 2848) (.int 32768)) (List.mem_cons_of_mem _ List.mem_cons_self))
  have eL : ρ3.1 60578 = ρ.1 60578 := (m4.1 60578 (by decide) (by decide)).1.trans (k4.1 60578 (by decide) (by decide)).1.symm
  have mo : sc X ρ3 (2, .op2 .iand (.op2 .iushr (.arg 2848) (.int 4)) (.int 1), .arg 60578) = false := by
    show decide (((ρ3.1 2848).toUInt32 >>> ((4 : Int32).toUInt32 &&& (31 : Int32).toUInt32)).toInt32 &&& 1 < ρ3.1 60578) = false
    rw [ea, eL]
    have q := tbv_ok (X := X) (ρ := ρ) (F := []) (a := .op2 .iand (.op2 .iushr (.op2 .ior (.arg 2848) (.int 32768)) (.int 4)) (.int 1)) (b := .op2 .iand (.op2 .iushr (.arg 2848) (.int 4)) (.int 1)) ⟨hF.1, fun f hf => by cases hf⟩ (by decide +kernel)
    rw [sv_int rfl, sv_int rfl] at q
    exact mn_e (Value.int.inj q) (of_decide_eq_true (hF.2 _ (List.mem_cons_of_mem _ (List.mem_cons_of_mem _ (List.mem_cons_of_mem _ (List.mem_cons_of_mem _ (List.mem_cons_of_mem _ (List.mem_cons_self))))))))
  exact t_wE1 hv ρ3 m1 ⟨m2.1, fcn (ev_nm (g := ρ.2.2.2.1 1761) (p := 88) (hF.2 _ (List.mem_cons_of_mem _ (List.mem_cons_of_mem _ (List.mem_cons_of_mem _ (List.mem_cons_self))))) hk hA (by decide +kernel)) (fcn (pd_up (X := X) (p := 88) (c := 32768) (z := [7970, 21312]) (hF.2 _ (List.mem_cons_of_mem _ (List.mem_cons_of_mem _ (List.mem_cons_of_mem _ (List.mem_cons_of_mem _ (List.mem_cons_self)))))) hA (fun x hx => m5 x (List.mem_cons_of_mem _ hx)) k4 m4 wm_1 wb_1 (by decide +kernel)) (fcn (mo) (fnl)))⟩ m3 m4)))
theorem t_wq88 {X : pX} {ρ0 : sR} (hv : vok X ρ0) : CUTOK X kR zWP c_wn1 8 ρ0 q_wq88 := CUT_mono (t_wq88i hv) (fun ρ hF hI => by
  have b0 := rl_lf (x := ρ.2.1 60033) (y := 0) (hF.2 _ (List.mem_cons_self))
  have b1 := rl_lf (x := 65535) (y := ρ.2.1 60033) (hF.2 _ (List.mem_cons_of_mem _ (List.mem_cons_self)))
  have y0 : (0 : Int64).toInt = 0 := by decide +kernel
  have y1 : (65535 : Int64).toInt = 65535 := by decide +kernel
  rw [y0] at b0
  rw [y1] at b1
  exact ⟨⟨hF.1, fcn (wn_129 (p := 88) (q := 88) rfl et_88 b0 b1 rfl) (hF.2)⟩, hI⟩)
theorem e_wp88 : frun kR [] (cpl1 zWP (c_wp1 88) [q_wq88]) (cpl2 zWP (c_wp1 88) [q_wq88]) (cleaf kR zWP (c_wp1 88) [q_wq88]) 300 65536 (isatP ((c_wp1 88).2.2.2.1) (c_wp1 88).2.2.2.2.2.2.2.1) (c_wp1 88).2.2.2.2.2.2.2.1 (sin0 mt_all (c_wp1 88).1.1 8 (c_wp1 88).2.1.1 (foot zWP (c_wp1 88).2.2.1.1)) (sin0 mt_all (c_wp1 88).1.2.1 8 (c_wp1 88).2.1.2 (foot zWP (c_wp1 88).2.2.1.2)) = true := by decide +kernel
theorem s_wp88 {X : pX} : SREL X pF pdfl mt_all kR zWP (c_wp1 88) := SREL_QC kR_x kR_0 (Cs := []) (fun C hC => by cases hC) (d := 8) rfl (c_wp1_f 88) (Q := [q_wq88]) (fun ρ0 hv => fun q hq => by
    simp only [List.mem_cons, List.not_mem_nil, or_false] at hq
    rw [hq]; exact (t_wq88 hv : CUTOK X kR zWP c_wn1 8 ρ0 q_wq88)) (QC_run 300 e_wp88)
theorem et_89 : evt[89]? = some (0, 65535, 0) := by decide +kernel
noncomputable def zf98vb_19 : sQ × Bool := ((129, .int 89, .arg 60033), true)
noncomputable def q_wR89 : sCut := ((fr 0 10 53 [] [], [fr 0 5 23 [(4, .int 0)] [], fBot], 7), (fr 0 281 150 [] [], [fr 0 277 91 [(3, .int 0)] [], fBot], 7), [zf98vb_19], [])
noncomputable def q_wq89 : sCut := ((fr 0 5 0 [(0, tr 57), (1, .int 89), (2, .arg 60033)] [], [fBot], 8), (fr 0 277 60 [(0, tr 219), (1, .arg 1308), (2, .int 89), (4, .arg 60033)] [], [fBot], 8), [zf98vb_1, zf98vb_2, zf98vb_3, zf98vb_4, zf98vb_5, zf98vb_6], [])
noncomputable def q_wq89i : sCut := ((fr 0 5 0 [(0, tr 57), (1, .int 89), (2, .arg 60033)] [], [fBot], 8), (fr 0 277 60 [(0, tr 219), (1, .arg 1308), (2, .int 89), (4, .arg 60033)] [], [fBot], 8), [zf98vb_19, zf98vb_1, zf98vb_2, zf98vb_3, zf98vb_4, zf98vb_5, zf98vb_6], [])
noncomputable def w_wq89i : List (sCut × List (Nat × sT) × List (Nat × sT × List (sT × sT))) := [(q_wR89, [(60033, .arg 60033), (2848, .op2 .ior (.arg 2848) (.int 32768)), (6850, .arg 6850), (6882, .arg 6882), (6914, .arg 6914), (6946, .arg 6946), (7362, .arg 7362), (7394, .arg 7394), (7426, .arg 7426), (7458, .arg 7458), (7874, .arg 7874), (7906, .arg 7906), (7938, .arg 7938), (7970, .int 0), (21216, .arg 21216), (21248, .arg 21248), (21280, .arg 21280), (21312, .int 0), (6466, .arg 6466), (6498, .arg 6498)], [(1761, .arg 1761, [(.int 89, .arg 60033)])])]
theorem k_wq89i : cbody kR [] (cpl1 zWP c_wn1 [q_wR89]) (cpl2 zWP c_wn1 [q_wR89]) (cleafB kR zWP c_wn1 w_wq89i) 1500 true true q_wq89i.2.2.1 q_wq89i.2.2.2 (cst zWP c_wn1.2.2.1.1 q_wq89i.1) (cst zWP c_wn1.2.2.1.2 q_wq89i.2.1) = true := by decide +kernel
theorem t_wq89i {X : pX} {ρ0 : sR} (hv : vok X ρ0) : CUTOK X kR zWP c_wn1 8 ρ0 q_wq89i := CUTOK_AT (fun ρ k1 hF hI k4 => AT_of (q := q_wq89i) rfl rfl (SEM_runB kR_x kR_0 (Cs := []) (fun C hC => by cases hC) c_wn1_f (Q := w_wq89i) hv 1500 (b1 := true) (b2 := true) k_wq89i k1 hF hI k4 (fun p hp ρ3 m1 m2 m3 m4 m5 m6 => by
  rw [List.mem_singleton.mp hp] at m2 m3 m5 m6 ⊢
  have y3 : ρ3.2.1 60033 = ρ.2.1 60033 := congrArg Prod.snd (m5 (60033, .arg 60033) List.mem_cons_self)
  have hA : ∀ j, ρ3.2.2.2.1 1761 j = if 89 = j then ρ.2.1 60033 else ρ.2.2.2.1 1761 j := fun j => ad_l (X := X) (p := 89) (t := .arg 60033) rfl (m6 _ List.mem_cons_self) j
  have hk : evk 89 (ρ.2.1 60033).toInt = true := by
    have h := m2.2 _ List.mem_cons_self
    rw [← y3]
    exact h
  have ea : ρ3.1 2848 = (sd X ρ (.op2 .ior (.arg 2848) (.int 32768))).1 := congrArg Prod.fst (m5 (2848, .op2 .ior (.arg 2848) (.int 32768)) (List.mem_cons_of_mem _ List.mem_cons_self))
  have eL : ρ3.1 60578 = ρ.1 60578 := (m4.1 60578 (by decide) (by decide)).1.trans (k4.1 60578 (by decide) (by decide)).1.symm
  have mo : sc X ρ3 (2, .op2 .iand (.op2 .iushr (.arg 2848) (.int 4)) (.int 1), .arg 60578) = false := by
    show decide (((ρ3.1 2848).toUInt32 >>> ((4 : Int32).toUInt32 &&& (31 : Int32).toUInt32)).toInt32 &&& 1 < ρ3.1 60578) = false
    rw [ea, eL]
    have q := tbv_ok (X := X) (ρ := ρ) (F := []) (a := .op2 .iand (.op2 .iushr (.op2 .ior (.arg 2848) (.int 32768)) (.int 4)) (.int 1)) (b := .op2 .iand (.op2 .iushr (.arg 2848) (.int 4)) (.int 1)) ⟨hF.1, fun f hf => by cases hf⟩ (by decide +kernel)
    rw [sv_int rfl, sv_int rfl] at q
    exact mn_e (Value.int.inj q) (of_decide_eq_true (hF.2 _ (List.mem_cons_of_mem _ (List.mem_cons_of_mem _ (List.mem_cons_of_mem _ (List.mem_cons_of_mem _ (List.mem_cons_of_mem _ (List.mem_cons_self))))))))
  exact t_wE1 hv ρ3 m1 ⟨m2.1, fcn (ev_nm (g := ρ.2.2.2.1 1761) (p := 89) (hF.2 _ (List.mem_cons_of_mem _ (List.mem_cons_of_mem _ (List.mem_cons_of_mem _ (List.mem_cons_self))))) hk hA (by decide +kernel)) (fcn (pd_up (X := X) (p := 89) (c := 32768) (z := [7970, 21312]) (hF.2 _ (List.mem_cons_of_mem _ (List.mem_cons_of_mem _ (List.mem_cons_of_mem _ (List.mem_cons_of_mem _ (List.mem_cons_self)))))) hA (fun x hx => m5 x (List.mem_cons_of_mem _ hx)) k4 m4 wm_1 wb_1 (by decide +kernel)) (fcn (mo) (fnl)))⟩ m3 m4)))
theorem t_wq89 {X : pX} {ρ0 : sR} (hv : vok X ρ0) : CUTOK X kR zWP c_wn1 8 ρ0 q_wq89 := CUT_mono (t_wq89i hv) (fun ρ hF hI => by
  have b0 := rl_lf (x := ρ.2.1 60033) (y := 0) (hF.2 _ (List.mem_cons_self))
  have b1 := rl_lf (x := 65535) (y := ρ.2.1 60033) (hF.2 _ (List.mem_cons_of_mem _ (List.mem_cons_self)))
  have y0 : (0 : Int64).toInt = 0 := by decide +kernel
  have y1 : (65535 : Int64).toInt = 65535 := by decide +kernel
  rw [y0] at b0
  rw [y1] at b1
  exact ⟨⟨hF.1, fcn (wn_129 (p := 89) (q := 89) rfl et_89 b0 b1 rfl) (hF.2)⟩, hI⟩)
theorem e_wp89 : frun kR [] (cpl1 zWP (c_wp1 89) [q_wq89]) (cpl2 zWP (c_wp1 89) [q_wq89]) (cleaf kR zWP (c_wp1 89) [q_wq89]) 300 65536 (isatP ((c_wp1 89).2.2.2.1) (c_wp1 89).2.2.2.2.2.2.2.1) (c_wp1 89).2.2.2.2.2.2.2.1 (sin0 mt_all (c_wp1 89).1.1 8 (c_wp1 89).2.1.1 (foot zWP (c_wp1 89).2.2.1.1)) (sin0 mt_all (c_wp1 89).1.2.1 8 (c_wp1 89).2.1.2 (foot zWP (c_wp1 89).2.2.1.2)) = true := by decide +kernel
theorem s_wp89 {X : pX} : SREL X pF pdfl mt_all kR zWP (c_wp1 89) := SREL_QC kR_x kR_0 (Cs := []) (fun C hC => by cases hC) (d := 8) rfl (c_wp1_f 89) (Q := [q_wq89]) (fun ρ0 hv => fun q hq => by
    simp only [List.mem_cons, List.not_mem_nil, or_false] at hq
    rw [hq]; exact (t_wq89 hv : CUTOK X kR zWP c_wn1 8 ρ0 q_wq89)) (QC_run 300 e_wp89)
theorem et_115 : evt[115]? = some (0, 65535, 0) := by decide +kernel
noncomputable def zf98vb_20 : sQ × Bool := ((129, .int 115, .arg 60033), true)
noncomputable def q_wR115 : sCut := ((fr 0 10 53 [] [], [fr 0 5 23 [(4, .int 0)] [], fBot], 7), (fr 0 281 150 [] [], [fr 0 277 91 [(3, .int 0)] [], fBot], 7), [zf98vb_20], [])
noncomputable def q_wq115 : sCut := ((fr 0 5 0 [(0, tr 57), (1, .int 115), (2, .arg 60033)] [], [fBot], 8), (fr 0 277 60 [(0, tr 219), (1, .arg 1308), (2, .int 115), (4, .arg 60033)] [], [fBot], 8), [zf98vb_1, zf98vb_2, zf98vb_3, zf98vb_4, zf98vb_5, zf98vb_6], [])
noncomputable def q_wq115i : sCut := ((fr 0 5 0 [(0, tr 57), (1, .int 115), (2, .arg 60033)] [], [fBot], 8), (fr 0 277 60 [(0, tr 219), (1, .arg 1308), (2, .int 115), (4, .arg 60033)] [], [fBot], 8), [zf98vb_20, zf98vb_1, zf98vb_2, zf98vb_3, zf98vb_4, zf98vb_5, zf98vb_6], [])
noncomputable def w_wq115i : List (sCut × List (Nat × sT) × List (Nat × sT × List (sT × sT))) := [(q_wR115, [(60033, .arg 60033), (2848, .op2 .ior (.arg 2848) (.int 0)), (6850, .arg 6850), (6882, .arg 6882), (6914, .arg 6914), (6946, .arg 6946), (7362, .arg 7362), (7394, .arg 7394), (7426, .arg 7426), (7458, .arg 7458), (7874, .arg 7874), (7906, .arg 7906), (7938, .arg 7938), (7970, .arg 7970), (21216, .arg 21216), (21248, .arg 21248), (21280, .arg 21280), (21312, .arg 21312), (6466, .arg 6466), (6498, .arg 6498)], [(1761, .arg 1761, [(.int 115, .arg 60033)])])]
theorem k_wq115i : cbody kR [] (cpl1 zWP c_wn1 [q_wR115]) (cpl2 zWP c_wn1 [q_wR115]) (cleafB kR zWP c_wn1 w_wq115i) 1500 true true q_wq115i.2.2.1 q_wq115i.2.2.2 (cst zWP c_wn1.2.2.1.1 q_wq115i.1) (cst zWP c_wn1.2.2.1.2 q_wq115i.2.1) = true := by decide +kernel
theorem t_wq115i {X : pX} {ρ0 : sR} (hv : vok X ρ0) : CUTOK X kR zWP c_wn1 8 ρ0 q_wq115i := CUTOK_AT (fun ρ k1 hF hI k4 => AT_of (q := q_wq115i) rfl rfl (SEM_runB kR_x kR_0 (Cs := []) (fun C hC => by cases hC) c_wn1_f (Q := w_wq115i) hv 1500 (b1 := true) (b2 := true) k_wq115i k1 hF hI k4 (fun p hp ρ3 m1 m2 m3 m4 m5 m6 => by
  rw [List.mem_singleton.mp hp] at m2 m3 m5 m6 ⊢
  have y3 : ρ3.2.1 60033 = ρ.2.1 60033 := congrArg Prod.snd (m5 (60033, .arg 60033) List.mem_cons_self)
  have hA : ∀ j, ρ3.2.2.2.1 1761 j = if 115 = j then ρ.2.1 60033 else ρ.2.2.2.1 1761 j := fun j => ad_l (X := X) (p := 115) (t := .arg 60033) rfl (m6 _ List.mem_cons_self) j
  have hk : evk 115 (ρ.2.1 60033).toInt = true := by
    have h := m2.2 _ List.mem_cons_self
    rw [← y3]
    exact h
  have ea : ρ3.1 2848 = (sd X ρ (.op2 .ior (.arg 2848) (.int 0))).1 := congrArg Prod.fst (m5 (2848, .op2 .ior (.arg 2848) (.int 0)) (List.mem_cons_of_mem _ List.mem_cons_self))
  have eL : ρ3.1 60578 = ρ.1 60578 := (m4.1 60578 (by decide) (by decide)).1.trans (k4.1 60578 (by decide) (by decide)).1.symm
  have mo : sc X ρ3 (2, .op2 .iand (.op2 .iushr (.arg 2848) (.int 4)) (.int 1), .arg 60578) = false := by
    show decide (((ρ3.1 2848).toUInt32 >>> ((4 : Int32).toUInt32 &&& (31 : Int32).toUInt32)).toInt32 &&& 1 < ρ3.1 60578) = false
    rw [ea, eL]
    have q := tbv_ok (X := X) (ρ := ρ) (F := []) (a := .op2 .iand (.op2 .iushr (.op2 .ior (.arg 2848) (.int 0)) (.int 4)) (.int 1)) (b := .op2 .iand (.op2 .iushr (.arg 2848) (.int 4)) (.int 1)) ⟨hF.1, fun f hf => by cases hf⟩ (by decide +kernel)
    rw [sv_int rfl, sv_int rfl] at q
    exact mn_e (Value.int.inj q) (of_decide_eq_true (hF.2 _ (List.mem_cons_of_mem _ (List.mem_cons_of_mem _ (List.mem_cons_of_mem _ (List.mem_cons_of_mem _ (List.mem_cons_of_mem _ (List.mem_cons_self))))))))
  exact t_wE1 hv ρ3 m1 ⟨m2.1, fcn (ev_nm (g := ρ.2.2.2.1 1761) (p := 115) (hF.2 _ (List.mem_cons_of_mem _ (List.mem_cons_of_mem _ (List.mem_cons_of_mem _ (List.mem_cons_self))))) hk hA (by decide +kernel)) (fcn (pd_up (X := X) (p := 115) (c := 0) (z := []) (hF.2 _ (List.mem_cons_of_mem _ (List.mem_cons_of_mem _ (List.mem_cons_of_mem _ (List.mem_cons_of_mem _ (List.mem_cons_self)))))) hA (fun x hx => m5 x (List.mem_cons_of_mem _ hx)) k4 m4 wm_1 wb_1 (by decide +kernel)) (fcn (mo) (fnl)))⟩ m3 m4)))
theorem t_wq115 {X : pX} {ρ0 : sR} (hv : vok X ρ0) : CUTOK X kR zWP c_wn1 8 ρ0 q_wq115 := CUT_mono (t_wq115i hv) (fun ρ hF hI => by
  have b0 := rl_lf (x := ρ.2.1 60033) (y := 0) (hF.2 _ (List.mem_cons_self))
  have b1 := rl_lf (x := 65535) (y := ρ.2.1 60033) (hF.2 _ (List.mem_cons_of_mem _ (List.mem_cons_self)))
  have y0 : (0 : Int64).toInt = 0 := by decide +kernel
  have y1 : (65535 : Int64).toInt = 65535 := by decide +kernel
  rw [y0] at b0
  rw [y1] at b1
  exact ⟨⟨hF.1, fcn (wn_129 (p := 115) (q := 115) rfl et_115 b0 b1 rfl) (hF.2)⟩, hI⟩)
theorem e_wp115 : frun kR [] (cpl1 zWP (c_wp1 115) [q_wq115]) (cpl2 zWP (c_wp1 115) [q_wq115]) (cleaf kR zWP (c_wp1 115) [q_wq115]) 300 65536 (isatP ((c_wp1 115).2.2.2.1) (c_wp1 115).2.2.2.2.2.2.2.1) (c_wp1 115).2.2.2.2.2.2.2.1 (sin0 mt_all (c_wp1 115).1.1 8 (c_wp1 115).2.1.1 (foot zWP (c_wp1 115).2.2.1.1)) (sin0 mt_all (c_wp1 115).1.2.1 8 (c_wp1 115).2.1.2 (foot zWP (c_wp1 115).2.2.1.2)) = true := by decide +kernel
theorem s_wp115 {X : pX} : SREL X pF pdfl mt_all kR zWP (c_wp1 115) := SREL_QC kR_x kR_0 (Cs := []) (fun C hC => by cases hC) (d := 8) rfl (c_wp1_f 115) (Q := [q_wq115]) (fun ρ0 hv => fun q hq => by
    simp only [List.mem_cons, List.not_mem_nil, or_false] at hq
    rw [hq]; exact (t_wq115 hv : CUTOK X kR zWP c_wn1 8 ρ0 q_wq115)) (QC_run 300 e_wp115)
theorem et_127 : evt[127]? = some (0, 65535, 0) := by decide +kernel
noncomputable def zf98vb_21 : sQ × Bool := ((129, .int 127, .arg 60033), true)
noncomputable def q_wR127 : sCut := ((fr 0 10 53 [] [], [fr 0 5 23 [(4, .int 0)] [], fBot], 7), (fr 0 281 150 [] [], [fr 0 277 91 [(3, .int 0)] [], fBot], 7), [zf98vb_21], [])
noncomputable def q_wq127 : sCut := ((fr 0 5 0 [(0, tr 57), (1, .int 127), (2, .arg 60033)] [], [fBot], 8), (fr 0 277 60 [(0, tr 219), (1, .arg 1308), (2, .int 127), (4, .arg 60033)] [], [fBot], 8), [zf98vb_1, zf98vb_2, zf98vb_3, zf98vb_4, zf98vb_5, zf98vb_6], [])
noncomputable def q_wq127i : sCut := ((fr 0 5 0 [(0, tr 57), (1, .int 127), (2, .arg 60033)] [], [fBot], 8), (fr 0 277 60 [(0, tr 219), (1, .arg 1308), (2, .int 127), (4, .arg 60033)] [], [fBot], 8), [zf98vb_21, zf98vb_1, zf98vb_2, zf98vb_3, zf98vb_4, zf98vb_5, zf98vb_6], [])
noncomputable def w_wq127i : List (sCut × List (Nat × sT) × List (Nat × sT × List (sT × sT))) := [(q_wR127, [(60033, .arg 60033), (2848, .op2 .ior (.arg 2848) (.int 0)), (6850, .arg 6850), (6882, .arg 6882), (6914, .arg 6914), (6946, .arg 6946), (7362, .arg 7362), (7394, .arg 7394), (7426, .arg 7426), (7458, .arg 7458), (7874, .arg 7874), (7906, .arg 7906), (7938, .arg 7938), (7970, .arg 7970), (21216, .arg 21216), (21248, .arg 21248), (21280, .arg 21280), (21312, .arg 21312), (6466, .arg 6466), (6498, .arg 6498)], [(1761, .arg 1761, [(.int 127, .arg 60033)])])]
theorem k_wq127i : cbody kR [] (cpl1 zWP c_wn1 [q_wR127]) (cpl2 zWP c_wn1 [q_wR127]) (cleafB kR zWP c_wn1 w_wq127i) 1500 true true q_wq127i.2.2.1 q_wq127i.2.2.2 (cst zWP c_wn1.2.2.1.1 q_wq127i.1) (cst zWP c_wn1.2.2.1.2 q_wq127i.2.1) = true := by decide +kernel
theorem t_wq127i {X : pX} {ρ0 : sR} (hv : vok X ρ0) : CUTOK X kR zWP c_wn1 8 ρ0 q_wq127i := CUTOK_AT (fun ρ k1 hF hI k4 => AT_of (q := q_wq127i) rfl rfl (SEM_runB kR_x kR_0 (Cs := []) (fun C hC => by cases hC) c_wn1_f (Q := w_wq127i) hv 1500 (b1 := true) (b2 := true) k_wq127i k1 hF hI k4 (fun p hp ρ3 m1 m2 m3 m4 m5 m6 => by
  rw [List.mem_singleton.mp hp] at m2 m3 m5 m6 ⊢
  have y3 : ρ3.2.1 60033 = ρ.2.1 60033 := congrArg Prod.snd (m5 (60033, .arg 60033) List.mem_cons_self)
  have hA : ∀ j, ρ3.2.2.2.1 1761 j = if 127 = j then ρ.2.1 60033 else ρ.2.2.2.1 1761 j := fun j => ad_l (X := X) (p := 127) (t := .arg 60033) rfl (m6 _ List.mem_cons_self) j
  have hk : evk 127 (ρ.2.1 60033).toInt = true := by
    have h := m2.2 _ List.mem_cons_self
    rw [← y3]
    exact h
  have ea : ρ3.1 2848 = (sd X ρ (.op2 .ior (.arg 2848) (.int 0))).1 := congrArg Prod.fst (m5 (2848, .op2 .ior (.arg 2848) (.int 0)) (List.mem_cons_of_mem _ List.mem_cons_self))
  have eL : ρ3.1 60578 = ρ.1 60578 := (m4.1 60578 (by decide) (by decide)).1.trans (k4.1 60578 (by decide) (by decide)).1.symm
  have mo : sc X ρ3 (2, .op2 .iand (.op2 .iushr (.arg 2848) (.int 4)) (.int 1), .arg 60578) = false := by
    show decide (((ρ3.1 2848).toUInt32 >>> ((4 : Int32).toUInt32 &&& (31 : Int32).toUInt32)).toInt32 &&& 1 < ρ3.1 60578) = false
    rw [ea, eL]
    have q := tbv_ok (X := X) (ρ := ρ) (F := []) (a := .op2 .iand (.op2 .iushr (.op2 .ior (.arg 2848) (.int 0)) (.int 4)) (.int 1)) (b := .op2 .iand (.op2 .iushr (.arg 2848) (.int 4)) (.int 1)) ⟨hF.1, fun f hf => by cases hf⟩ (by decide +kernel)
    rw [sv_int rfl, sv_int rfl] at q
    exact mn_e (Value.int.inj q) (of_decide_eq_true (hF.2 _ (List.mem_cons_of_mem _ (List.mem_cons_of_mem _ (List.mem_cons_of_mem _ (List.mem_cons_of_mem _ (List.mem_cons_of_mem _ (List.mem_cons_self))))))))
  exact t_wE1 hv ρ3 m1 ⟨m2.1, fcn (ev_nm (g := ρ.2.2.2.1 1761) (p := 127) (hF.2 _ (List.mem_cons_of_mem _ (List.mem_cons_of_mem _ (List.mem_cons_of_mem _ (List.mem_cons_self))))) hk hA (by decide +kernel)) (fcn (pd_up (X := X) (p := 127) (c := 0) (z := []) (hF.2 _ (List.mem_cons_of_mem _ (List.mem_cons_of_mem _ (List.mem_cons_of_mem _ (List.mem_cons_of_mem _ (List.mem_cons_self)))))) hA (fun x hx => m5 x (List.mem_cons_of_mem _ hx)) k4 m4 wm_1 wb_1 (by decide +kernel)) (fcn (mo) (fnl)))⟩ m3 m4)))
theorem t_wq127 {X : pX} {ρ0 : sR} (hv : vok X ρ0) : CUTOK X kR zWP c_wn1 8 ρ0 q_wq127 := CUT_mono (t_wq127i hv) (fun ρ hF hI => by
  have b0 := rl_lf (x := ρ.2.1 60033) (y := 0) (hF.2 _ (List.mem_cons_self))
  have b1 := rl_lf (x := 65535) (y := ρ.2.1 60033) (hF.2 _ (List.mem_cons_of_mem _ (List.mem_cons_self)))
  have y0 : (0 : Int64).toInt = 0 := by decide +kernel
  have y1 : (65535 : Int64).toInt = 65535 := by decide +kernel
  rw [y0] at b0
  rw [y1] at b1
  exact ⟨⟨hF.1, fcn (wn_129 (p := 127) (q := 127) rfl et_127 b0 b1 rfl) (hF.2)⟩, hI⟩)
theorem e_wp127 : frun kR [] (cpl1 zWP (c_wp1 127) [q_wq127]) (cpl2 zWP (c_wp1 127) [q_wq127]) (cleaf kR zWP (c_wp1 127) [q_wq127]) 300 65536 (isatP ((c_wp1 127).2.2.2.1) (c_wp1 127).2.2.2.2.2.2.2.1) (c_wp1 127).2.2.2.2.2.2.2.1 (sin0 mt_all (c_wp1 127).1.1 8 (c_wp1 127).2.1.1 (foot zWP (c_wp1 127).2.2.1.1)) (sin0 mt_all (c_wp1 127).1.2.1 8 (c_wp1 127).2.1.2 (foot zWP (c_wp1 127).2.2.1.2)) = true := by decide +kernel
theorem s_wp127 {X : pX} : SREL X pF pdfl mt_all kR zWP (c_wp1 127) := SREL_QC kR_x kR_0 (Cs := []) (fun C hC => by cases hC) (d := 8) rfl (c_wp1_f 127) (Q := [q_wq127]) (fun ρ0 hv => fun q hq => by
    simp only [List.mem_cons, List.not_mem_nil, or_false] at hq
    rw [hq]; exact (t_wq127 hv : CUTOK X kR zWP c_wn1 8 ρ0 q_wq127)) (QC_run 300 e_wp127)
theorem et_129 : evt[129]? = some (0, 65535, 0) := by decide +kernel
noncomputable def zf98vb_22 : sQ × Bool := ((129, .int 129, .arg 60033), true)
noncomputable def q_wR129 : sCut := ((fr 0 10 53 [] [], [fr 0 5 23 [(4, .int 0)] [], fBot], 7), (fr 0 281 150 [] [], [fr 0 277 91 [(3, .int 0)] [], fBot], 7), [zf98vb_22], [])
noncomputable def q_wq129 : sCut := ((fr 0 5 0 [(0, tr 57), (1, .int 129), (2, .arg 60033)] [], [fBot], 8), (fr 0 277 60 [(0, tr 219), (1, .arg 1308), (2, .int 129), (4, .arg 60033)] [], [fBot], 8), [zf98vb_1, zf98vb_2, zf98vb_3, zf98vb_4, zf98vb_5, zf98vb_6], [])
noncomputable def q_wq129i : sCut := ((fr 0 5 0 [(0, tr 57), (1, .int 129), (2, .arg 60033)] [], [fBot], 8), (fr 0 277 60 [(0, tr 219), (1, .arg 1308), (2, .int 129), (4, .arg 60033)] [], [fBot], 8), [zf98vb_22, zf98vb_1, zf98vb_2, zf98vb_3, zf98vb_4, zf98vb_5, zf98vb_6], [])
noncomputable def w_wq129i : List (sCut × List (Nat × sT) × List (Nat × sT × List (sT × sT))) := [(q_wR129, [(60033, .arg 60033), (2848, .op2 .ior (.arg 2848) (.int 0)), (6850, .arg 6850), (6882, .arg 6882), (6914, .arg 6914), (6946, .arg 6946), (7362, .arg 7362), (7394, .arg 7394), (7426, .arg 7426), (7458, .arg 7458), (7874, .arg 7874), (7906, .arg 7906), (7938, .arg 7938), (7970, .arg 7970), (21216, .arg 21216), (21248, .arg 21248), (21280, .arg 21280), (21312, .arg 21312), (6466, .arg 6466), (6498, .arg 6498)], [(1761, .arg 1761, [(.int 129, .arg 60033)])])]
theorem k_wq129i : cbody kR [] (cpl1 zWP c_wn1 [q_wR129]) (cpl2 zWP c_wn1 [q_wR129]) (cleafB kR zWP c_wn1 w_wq129i) 1500 true true q_wq129i.2.2.1 q_wq129i.2.2.2 (cst zWP c_wn1.2.2.1.1 q_wq129i.1) (cst zWP c_wn1.2.2.1.2 q_wq129i.2.1) = true := by decide +kernel
theorem t_wq129i {X : pX} {ρ0 : sR} (hv : vok X ρ0) : CUTOK X kR zWP c_wn1 8 ρ0 q_wq129i := CUTOK_AT (fun ρ k1 hF hI k4 => AT_of (q := q_wq129i) rfl rfl (SEM_runB kR_x kR_0 (Cs := []) (fun C hC => by cases hC) c_wn1_f (Q := w_wq129i) hv 1500 (b1 := true) (b2 := true) k_wq129i k1 hF hI k4 (fun p hp ρ3 m1 m2 m3 m4 m5 m6 => by
  rw [List.mem_singleton.mp hp] at m2 m3 m5 m6 ⊢
  have y3 : ρ3.2.1 60033 = ρ.2.1 60033 := congrArg Prod.snd (m5 (60033, .arg 60033) List.mem_cons_self)
  have hA : ∀ j, ρ3.2.2.2.1 1761 j = if 129 = j then ρ.2.1 60033 else ρ.2.2.2.1 1761 j := fun j => ad_l (X := X) (p := 129) (t := .arg 60033) rfl (m6 _ List.mem_cons_self) j
  have hk : evk 129 (ρ.2.1 60033).toInt = true := by
    have h := m2.2 _ List.mem_cons_self
    rw [← y3]
    exact h
  have ea : ρ3.1 2848 = (sd X ρ (.op2 .ior (.arg 2848) (.int 0))).1 := congrArg Prod.fst (m5 (2848, .op2 .ior (.arg 2848) (.int 0)) (List.mem_cons_of_mem _ List.mem_cons_self))
  have eL : ρ3.1 60578 = ρ.1 60578 := (m4.1 60578 (by decide) (by decide)).1.trans (k4.1 60578 (by decide) (by decide)).1.symm
  have mo : sc X ρ3 (2, .op2 .iand (.op2 .iushr (.arg 2848) (.int 4)) (.int 1), .arg 60578) = false := by
    show decide (((ρ3.1 2848).toUInt32 >>> ((4 : Int32).toUInt32 &&& (31 : Int32).toUInt32)).toInt32 &&& 1 < ρ3.1 60578) = false
    rw [ea, eL]
    have q := tbv_ok (X := X) (ρ := ρ) (F := []) (a := .op2 .iand (.op2 .iushr (.op2 .ior (.arg 2848) (.int 0)) (.int 4)) (.int 1)) (b := .op2 .iand (.op2 .iushr (.arg 2848) (.int 4)) (.int 1)) ⟨hF.1, fun f hf => by cases hf⟩ (by decide +kernel)
    rw [sv_int rfl, sv_int rfl] at q
    exact mn_e (Value.int.inj q) (of_decide_eq_true (hF.2 _ (List.mem_cons_of_mem _ (List.mem_cons_of_mem _ (List.mem_cons_of_mem _ (List.mem_cons_of_mem _ (List.mem_cons_of_mem _ (List.mem_cons_self))))))))
  exact t_wE1 hv ρ3 m1 ⟨m2.1, fcn (ev_nm (g := ρ.2.2.2.1 1761) (p := 129) (hF.2 _ (List.mem_cons_of_mem _ (List.mem_cons_of_mem _ (List.mem_cons_of_mem _ (List.mem_cons_self))))) hk hA (by decide +kernel)) (fcn (pd_up (X := X) (p := 129) (c := 0) (z := []) (hF.2 _ (List.mem_cons_of_mem _ (List.mem_cons_of_mem _ (List.mem_cons_of_mem _ (List.mem_cons_of_mem _ (List.mem_cons_self)))))) hA (fun x hx => m5 x (List.mem_cons_of_mem _ hx)) k4 m4 wm_1 wb_1 (by decide +kernel)) (fcn (mo) (fnl)))⟩ m3 m4)))
theorem t_wq129 {X : pX} {ρ0 : sR} (hv : vok X ρ0) : CUTOK X kR zWP c_wn1 8 ρ0 q_wq129 := CUT_mono (t_wq129i hv) (fun ρ hF hI => by
  have b0 := rl_lf (x := ρ.2.1 60033) (y := 0) (hF.2 _ (List.mem_cons_self))
  have b1 := rl_lf (x := 65535) (y := ρ.2.1 60033) (hF.2 _ (List.mem_cons_of_mem _ (List.mem_cons_self)))
  have y0 : (0 : Int64).toInt = 0 := by decide +kernel
  have y1 : (65535 : Int64).toInt = 65535 := by decide +kernel
  rw [y0] at b0
  rw [y1] at b1
  exact ⟨⟨hF.1, fcn (wn_129 (p := 129) (q := 129) rfl et_129 b0 b1 rfl) (hF.2)⟩, hI⟩)
theorem e_wp129 : frun kR [] (cpl1 zWP (c_wp1 129) [q_wq129]) (cpl2 zWP (c_wp1 129) [q_wq129]) (cleaf kR zWP (c_wp1 129) [q_wq129]) 300 65536 (isatP ((c_wp1 129).2.2.2.1) (c_wp1 129).2.2.2.2.2.2.2.1) (c_wp1 129).2.2.2.2.2.2.2.1 (sin0 mt_all (c_wp1 129).1.1 8 (c_wp1 129).2.1.1 (foot zWP (c_wp1 129).2.2.1.1)) (sin0 mt_all (c_wp1 129).1.2.1 8 (c_wp1 129).2.1.2 (foot zWP (c_wp1 129).2.2.1.2)) = true := by decide +kernel
theorem s_wp129 {X : pX} : SREL X pF pdfl mt_all kR zWP (c_wp1 129) := SREL_QC kR_x kR_0 (Cs := []) (fun C hC => by cases hC) (d := 8) rfl (c_wp1_f 129) (Q := [q_wq129]) (fun ρ0 hv => fun q hq => by
    simp only [List.mem_cons, List.not_mem_nil, or_false] at hq
    rw [hq]; exact (t_wq129 hv : CUTOK X kR zWP c_wn1 8 ρ0 q_wq129)) (QC_run 300 e_wp129)
theorem et_147 : evt[147]? = some (0, 65535, 0) := by decide +kernel
noncomputable def zf98vb_23 : sQ × Bool := ((129, .int 147, .arg 60033), true)
noncomputable def q_wR147 : sCut := ((fr 0 10 53 [] [], [fr 0 5 23 [(4, .int 0)] [], fBot], 7), (fr 0 281 150 [] [], [fr 0 277 91 [(3, .int 0)] [], fBot], 7), [zf98vb_23], [])
noncomputable def q_wq147 : sCut := ((fr 0 5 0 [(0, tr 57), (1, .int 147), (2, .arg 60033)] [], [fBot], 8), (fr 0 277 60 [(0, tr 219), (1, .arg 1308), (2, .int 147), (4, .arg 60033)] [], [fBot], 8), [zf98vb_1, zf98vb_2, zf98vb_3, zf98vb_4, zf98vb_5, zf98vb_6], [])
noncomputable def q_wq147i : sCut := ((fr 0 5 0 [(0, tr 57), (1, .int 147), (2, .arg 60033)] [], [fBot], 8), (fr 0 277 60 [(0, tr 219), (1, .arg 1308), (2, .int 147), (4, .arg 60033)] [], [fBot], 8), [zf98vb_23, zf98vb_1, zf98vb_2, zf98vb_3, zf98vb_4, zf98vb_5, zf98vb_6], [])
noncomputable def w_wq147i : List (sCut × List (Nat × sT) × List (Nat × sT × List (sT × sT))) := [(q_wR147, [(60033, .arg 60033), (2848, .arg 2848), (6850, .arg 6850), (6882, .arg 6882), (6914, .arg 6914), (6946, .arg 6946), (7362, .arg 7362), (7394, .arg 7394), (7426, .arg 7426), (7458, .arg 7458), (7874, .arg 7874), (7906, .arg 7906), (7938, .arg 7938), (7970, .arg 7970), (21216, .arg 21216), (21248, .arg 21248), (21280, .arg 21280), (21312, .arg 21312), (6466, .arg 6466), (6498, .arg 6498)], [(1761, .arg 1761, [(.int 147, .arg 60033)])])]
theorem k_wq147i : cbody kR [] (cpl1 zWP c_wn1 [q_wR147]) (cpl2 zWP c_wn1 [q_wR147]) (cleafB kR zWP c_wn1 w_wq147i) 1500 true true q_wq147i.2.2.1 q_wq147i.2.2.2 (cst zWP c_wn1.2.2.1.1 q_wq147i.1) (cst zWP c_wn1.2.2.1.2 q_wq147i.2.1) = true := by decide +kernel
theorem t_wq147i {X : pX} {ρ0 : sR} (hv : vok X ρ0) : CUTOK X kR zWP c_wn1 8 ρ0 q_wq147i := CUTOK_AT (fun ρ k1 hF hI k4 => AT_of (q := q_wq147i) rfl rfl (SEM_runB kR_x kR_0 (Cs := []) (fun C hC => by cases hC) c_wn1_f (Q := w_wq147i) hv 1500 (b1 := true) (b2 := true) k_wq147i k1 hF hI k4 (fun p hp ρ3 m1 m2 m3 m4 m5 m6 => by
  rw [List.mem_singleton.mp hp] at m2 m3 m5 m6 ⊢
  have y3 : ρ3.2.1 60033 = ρ.2.1 60033 := congrArg Prod.snd (m5 (60033, .arg 60033) List.mem_cons_self)
  have hA : ∀ j, ρ3.2.2.2.1 1761 j = if 147 = j then ρ.2.1 60033 else ρ.2.2.2.1 1761 j := fun j => ad_l (X := X) (p := 147) (t := .arg 60033) rfl (m6 _ List.mem_cons_self) j
  have hk : evk 147 (ρ.2.1 60033).toInt = true := by
    have h := m2.2 _ List.mem_cons_self
    rw [← y3]
    exact h
  have ea : ρ3.1 2848 = (sd X ρ (.arg 2848)).1 := congrArg Prod.fst (m5 (2848, .arg 2848) (List.mem_cons_of_mem _ List.mem_cons_self))
  have eL : ρ3.1 60578 = ρ.1 60578 := (m4.1 60578 (by decide) (by decide)).1.trans (k4.1 60578 (by decide) (by decide)).1.symm
  have mo : sc X ρ3 (2, .op2 .iand (.op2 .iushr (.arg 2848) (.int 4)) (.int 1), .arg 60578) = false := by
    show decide (((ρ3.1 2848).toUInt32 >>> ((4 : Int32).toUInt32 &&& (31 : Int32).toUInt32)).toInt32 &&& 1 < ρ3.1 60578) = false
    rw [ea, eL]
    exact mn_e rfl (of_decide_eq_true (hF.2 _ (List.mem_cons_of_mem _ (List.mem_cons_of_mem _ (List.mem_cons_of_mem _ (List.mem_cons_of_mem _ (List.mem_cons_of_mem _ (List.mem_cons_self))))))))
  exact t_wE1 hv ρ3 m1 ⟨m2.1, fcn (ev_nm (g := ρ.2.2.2.1 1761) (p := 147) (hF.2 _ (List.mem_cons_of_mem _ (List.mem_cons_of_mem _ (List.mem_cons_of_mem _ (List.mem_cons_self))))) hk hA (by decide +kernel)) (fcn (pd_un (X := X) (p := 147) (hF.2 _ (List.mem_cons_of_mem _ (List.mem_cons_of_mem _ (List.mem_cons_of_mem _ (List.mem_cons_of_mem _ (List.mem_cons_self)))))) hA (fun x hx => m5 x (List.mem_cons_of_mem _ hx)) k4 m4 wm_1 wb_1 (by decide +kernel)) (fcn (mo) (fnl)))⟩ m3 m4)))
theorem t_wq147 {X : pX} {ρ0 : sR} (hv : vok X ρ0) : CUTOK X kR zWP c_wn1 8 ρ0 q_wq147 := CUT_mono (t_wq147i hv) (fun ρ hF hI => by
  have b0 := rl_lf (x := ρ.2.1 60033) (y := 0) (hF.2 _ (List.mem_cons_self))
  have b1 := rl_lf (x := 65535) (y := ρ.2.1 60033) (hF.2 _ (List.mem_cons_of_mem _ (List.mem_cons_self)))
  have y0 : (0 : Int64).toInt = 0 := by decide +kernel
  have y1 : (65535 : Int64).toInt = 65535 := by decide +kernel
  rw [y0] at b0
  rw [y1] at b1
  exact ⟨⟨hF.1, fcn (wn_129 (p := 147) (q := 147) rfl et_147 b0 b1 rfl) (hF.2)⟩, hI⟩)
theorem e_wp147 : frun kR [] (cpl1 zWP (c_wp1 147) [q_wq147]) (cpl2 zWP (c_wp1 147) [q_wq147]) (cleaf kR zWP (c_wp1 147) [q_wq147]) 300 65536 (isatP ((c_wp1 147).2.2.2.1) (c_wp1 147).2.2.2.2.2.2.2.1) (c_wp1 147).2.2.2.2.2.2.2.1 (sin0 mt_all (c_wp1 147).1.1 8 (c_wp1 147).2.1.1 (foot zWP (c_wp1 147).2.2.1.1)) (sin0 mt_all (c_wp1 147).1.2.1 8 (c_wp1 147).2.1.2 (foot zWP (c_wp1 147).2.2.1.2)) = true := by decide +kernel
theorem s_wp147 {X : pX} : SREL X pF pdfl mt_all kR zWP (c_wp1 147) := SREL_QC kR_x kR_0 (Cs := []) (fun C hC => by cases hC) (d := 8) rfl (c_wp1_f 147) (Q := [q_wq147]) (fun ρ0 hv => fun q hq => by
    simp only [List.mem_cons, List.not_mem_nil, or_false] at hq
    rw [hq]; exact (t_wq147 hv : CUTOK X kR zWP c_wn1 8 ρ0 q_wq147)) (QC_run 300 e_wp147)
