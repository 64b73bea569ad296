set_option maxRecDepth 20000
theorem et_132 : evt[132]? = some (-1000000000, 1000000000, 0) := by decide +kernel
noncomputable def q_wR132 : sCut := ((fr 0 10 53 [] [], [fr 0 5 23 [(4, .int 0)] [], fBot], 7), (fr 0 281 150 [] [], [fr 0 277 91 [(3, .int 0)] [], fBot], 7), [((129, .int 132, .arg 60033), true)], [])
noncomputable def zf98vh_0 : sQ × Bool := ((8, .arg 60033, .long (-2147483648)), false)
noncomputable def zf98vh_1 : sQ × Bool := ((8, .long 2147483647, .arg 60033), false)
noncomputable def zf98vh_2 : sQ × Bool := ((101, .elem (.arg 1761) (.int 0), .int 0), true)
noncomputable def zf98vh_3 : sQ × Bool := ((137, .add (.elem (.arg 1761) (.int 0)) (.add (.arg 2848) (.add (.elem (.arg 24512) (.int 0)) (.add (.elem (.arg 2404) (.int 0)) (.add (.elem (.arg 24544) (.int 0)) (.add (.elem (.arg 2436) (.int 0)) (.add (.arg 5728) (.add (.arg 5760) (.add (.arg 5792) (.add (.arg 5824) (.add (.arg 5856) (.add (.arg 5888) (.add (.arg 5920) (.add (.arg 5952) (.add (.arg 2082) (.add (.arg 2114) (.add (.arg 2146) (.add (.arg 2178) (.add (.arg 6850) (.add (.arg 6882) (.add (.arg 6914) (.add (.arg 6946) (.add (.arg 2210) (.add (.arg 2242) (.add (.arg 2274) (.add (.arg 2306) (.add (.arg 7362) (.add (.arg 7394) (.add (.arg 7426) (.add (.arg 7458) (.add (.arg 2338) (.add (.arg 2370) (.add (.arg 2402) (.add (.arg 2434) (.add (.arg 7874) (.add (.arg 7906) (.add (.arg 7938) (.add (.arg 7970) (.add (.arg 6240) (.add (.arg 6272) (.add (.arg 6304) (.add (.arg 6336) (.add (.arg 21216) (.add (.arg 21248) (.add (.arg 21280) (.add (.arg 21312) (.add (.arg 1570) (.add (.arg 1602) (.add (.arg 6466) (.arg 6498))))))))))))))))))))))))))))))))))))))))))))))))), .int 0), true)
noncomputable def zf98vh_4 : sQ × Bool := ((0, .op2 .iand (.op2 .iushr (.arg 2848) (.int 4)) (.int 1), .arg 60578), true)
noncomputable def zf98vh_5 : sQ × Bool := ((2, .op2 .iand (.op2 .iushr (.arg 2848) (.int 4)) (.int 1), .arg 60578), false)
noncomputable def q_wq132 : sCut := ((fr 0 5 0 [(0, tr 57), (1, .int 132), (2, .arg 60033)] [], [fBot], 8), (fr 0 277 60 [(0, tr 219), (1, .arg 1308), (2, .int 132), (4, .arg 60033)] [], [fBot], 8), [zf98vh_0, zf98vh_1, zf98vh_2, zf98vh_3, zf98vh_4, zf98vh_5], [])
noncomputable def q_wq132i : sCut := ((fr 0 5 0 [(0, tr 57), (1, .int 132), (2, .arg 60033)] [], [fBot], 8), (fr 0 277 60 [(0, tr 219), (1, .arg 1308), (2, .int 132), (4, .arg 60033)] [], [fBot], 8), [zf98vh_0, zf98vh_1, zf98vh_2, zf98vh_3, zf98vh_4, zf98vh_5], [([((8, .arg 60033, .long (-1000000000)), false), ((8, .long 1000000000, .arg 60033), false)], (129, .int 132, .arg 60033), true)])
noncomputable def w_wq132i : List (sCut × List (Nat × sT) × List (Nat × sT × List (sT × sT))) := [(q_wR132, [(60033, .arg 60033), (2848, .op2 .ior (.arg 2848) (.int 0)), (6850, .arg 6850), (6882, .arg 6882), (6914, .arg 6914), (6946, .arg 6946), (7362, .arg 7362), (7394, .arg 7394), (7426, .arg 7426), (7458, .arg 7458), (7874, .arg 7874), (7906, .arg 7906), (7938, .arg 7938), (7970, .arg 7970), (21216, .arg 21216), (21248, .arg 21248), (21280, .arg 21280), (21312, .arg 21312), (6466, .arg 6466), (6498, .arg 6498)], [(1761, .arg 1761, [(.int 132, .arg 60033)])])]
theorem k_wq132i : cbody kR [] (cpl1 zWP c_wn5 [q_wR132]) (cpl2 zWP c_wn5 [q_wR132]) (cleafB kR zWP c_wn5 w_wq132i) 1500 true true q_wq132i.2.2.1 q_wq132i.2.2.2 (cst zWP c_wn5.2.2.1.1 q_wq132i.1) (cst zWP c_wn5.2.2.1.2 q_wq132i.2.1) = true := by decide +kernel
theorem t_wq132i {X : pX} {ρ0 : sR} (hv : vok X ρ0) : CUTOK X kR zWP c_wn5 8 ρ0 q_wq132i := CUTOK_AT (fun ρ k1 hF hI k4 => AT_of (q := q_wq132i) rfl rfl (SEM_runB kR_x kR_0 (Cs := []) (fun C hC => by cases hC) c_wn5_f (Q := w_wq132i) hv 1500 (b1 := true) (b2 := true) k_wq132i k1 hF hI k4 (fun p hp ρ3 m1 m2 m3 m4 m5 m6 => by
  rw [List.mem_singleton.mp hp] at m2 m3 m5 m6 ⊢
  have y3 : ρ3.2.1 60033 = ρ.2.1 60033 := congrArg Prod.snd (m5 (60033, .arg 60033) List.mem_cons_self)
  have hA : ∀ j, ρ3.2.2.2.1 1761 j = if 132 = j then ρ.2.1 60033 else ρ.2.2.2.1 1761 j := fun j => ad_l (X := X) (p := 132) (t := .arg 60033) rfl (m6 _ List.mem_cons_self) j
  have hk : evk 132 (ρ.2.1 60033).toInt = true := by
    have h := m2.2 _ List.mem_cons_self
    rw [← y3]
    exact h
  have ea : ρ3.1 2848 = (sd X ρ (.op2 .ior (.arg 2848) (.int 0))).1 := congrArg Prod.fst (m5 (2848, .op2 .ior (.arg 2848) (.int 0)) (List.mem_cons_of_mem _ List.mem_cons_self))
  have eL : ρ3.1 60578 = ρ.1 60578 := (m4.1 60578 (by decide) (by decide)).1.trans (k4.1 60578 (by decide) (by decide)).1.symm
  have mo : sc X ρ3 (2, .op2 .iand (.op2 .iushr (.arg 2848) (.int 4)) (.int 1), .arg 60578) = false := by
    show decide (((ρ3.1 2848).toUInt32 >>> ((4 : Int32).toUInt32 &&& (31 : Int32).toUInt32)).toInt32 &&& 1 < ρ3.1 60578) = false
    rw [ea, eL]
    have q := tbv_ok (X := X) (ρ := ρ) (F := []) (a := .op2 .iand (.op2 .iushr (.op2 .ior (.arg 2848) (.int 0)) (.int 4)) (.int 1)) (b := .op2 .iand (.op2 .iushr (.arg 2848) (.int 4)) (.int 1)) ⟨hF.1, fun f hf => by cases hf⟩ (by decide +kernel)
    rw [sv_int rfl, sv_int rfl] at q
    exact mn_e (Value.int.inj q) (of_decide_eq_true (hF.2 _ (List.mem_cons_of_mem _ (List.mem_cons_of_mem _ (List.mem_cons_of_mem _ (List.mem_cons_of_mem _ (List.mem_cons_self)))))))
  exact t_wE5 hv ρ3 m1 ⟨m2.1, fcn (ev_nm (g := ρ.2.2.2.1 1761) (p := 132) (hF.2 _ (List.mem_cons_of_mem _ (List.mem_cons_of_mem _ (List.mem_cons_self)))) hk hA (by decide +kernel)) (fcn (pd_up (X := X) (p := 132) (c := 0) (z := []) (hF.2 _ (List.mem_cons_of_mem _ (List.mem_cons_of_mem _ (List.mem_cons_of_mem _ (List.mem_cons_self))))) hA (fun x hx => m5 x (List.mem_cons_of_mem _ hx)) k4 m4 wm_5 wb_5 (by decide +kernel)) (fcn (mo) (fnl)))⟩ m3 m4)))
theorem t_wq132 {X : pX} {ρ0 : sR} (hv : vok X ρ0) : CUTOK X kR zWP c_wn5 8 ρ0 q_wq132 := CUT_mono (t_wq132i hv) (fun ρ hF hI => by
  have b0 := rl_lf (x := ρ.2.1 60033) (y := -2147483648) (hF.2 _ (List.mem_cons_self))
  have b1 := rl_lf (x := 2147483647) (y := ρ.2.1 60033) (hF.2 _ (List.mem_cons_of_mem _ (List.mem_cons_self)))
  have y0 : (-2147483648 : Int64).toInt = -2147483648 := by decide +kernel
  have y1 : (2147483647 : Int64).toInt = 2147483647 := by decide +kernel
  rw [y0] at b0
  rw [y1] at b1
  exact ⟨hF, ik_c (fun hg => by
    have c0 := rl_lf (x := ρ.2.1 60033) (y := -1000000000) (hg _ List.mem_cons_self)
    have c1 := rl_lf (x := 1000000000) (y := ρ.2.1 60033) (hg _ (List.mem_cons_of_mem _ List.mem_cons_self))
    have z0 : (-1000000000 : Int64).toInt = -1000000000 := by decide +kernel
    have z1 : (1000000000 : Int64).toInt = 1000000000 := by decide +kernel
    rw [z0] at c0
    rw [z1] at c1
    exact wn_129 (p := 132) (q := 132) rfl et_132 c0 c1 rfl) (hI)⟩)
theorem e_wp132 : frun kR [] (cpl1 zWP (c_wp5 132) [q_wq132]) (cpl2 zWP (c_wp5 132) [q_wq132]) (cleaf kR zWP (c_wp5 132) [q_wq132]) 300 65536 (isatP ((c_wp5 132).2.2.2.1) (c_wp5 132).2.2.2.2.2.2.2.1) (c_wp5 132).2.2.2.2.2.2.2.1 (sin0 mt_all (c_wp5 132).1.1 8 (c_wp5 132).2.1.1 (foot zWP (c_wp5 132).2.2.1.1)) (sin0 mt_all (c_wp5 132).1.2.1 8 (c_wp5 132).2.1.2 (foot zWP (c_wp5 132).2.2.1.2)) = true := by decide +kernel
theorem s_wp132 {X : pX} : SREL X pF pdfl mt_all kR zWP (c_wp5 132) := SREL_QC kR_x kR_0 (Cs := []) (fun C hC => by cases hC) (d := 8) rfl (c_wp5_f 132) (Q := [q_wq132]) (fun ρ0 hv => fun q hq => by
    simp only [List.mem_cons, List.not_mem_nil, or_false] at hq
    rw [hq]; exact (t_wq132 hv : CUTOK X kR zWP c_wn5 8 ρ0 q_wq132)) (QC_run 300 e_wp132)
theorem et_133 : evt[133]? = some (-1000000000, 1000000000, 0) := by decide +kernel
noncomputable def q_wR133 : sCut := ((fr 0 10 53 [] [], [fr 0 5 23 [(4, .int 0)] [], fBot], 7), (fr 0 281 150 [] [], [fr 0 277 91 [(3, .int 0)] [], fBot], 7), [((129, .int 133, .arg 60033), true)], [])
noncomputable def q_wq133 : sCut := ((fr 0 5 0 [(0, tr 57), (1, .int 133), (2, .arg 60033)] [], [fBot], 8), (fr 0 277 60 [(0, tr 219), (1, .arg 1308), (2, .int 133), (4, .arg 60033)] [], [fBot], 8), [zf98vh_0, zf98vh_1, zf98vh_2, zf98vh_3, zf98vh_4, zf98vh_5], [])
noncomputable def q_wq133i : sCut := ((fr 0 5 0 [(0, tr 57), (1, .int 133), (2, .arg 60033)] [], [fBot], 8), (fr 0 277 60 [(0, tr 219), (1, .arg 1308), (2, .int 133), (4, .arg 60033)] [], [fBot], 8), [zf98vh_0, zf98vh_1, zf98vh_2, zf98vh_3, zf98vh_4, zf98vh_5], [([((8, .arg 60033, .long (-1000000000)), false), ((8, .long 1000000000, .arg 60033), false)], (129, .int 133, .arg 60033), true)])
noncomputable def w_wq133i : List (sCut × List (Nat × sT) × List (Nat × sT × List (sT × sT))) := [(q_wR133, [(60033, .arg 60033), (2848, .op2 .ior (.arg 2848) (.int 0)), (6850, .arg 6850), (6882, .arg 6882), (6914, .arg 6914), (6946, .arg 6946), (7362, .arg 7362), (7394, .arg 7394), (7426, .arg 7426), (7458, .arg 7458), (7874, .arg 7874), (7906, .arg 7906), (7938, .arg 7938), (7970, .arg 7970), (21216, .arg 21216), (21248, .arg 21248), (21280, .arg 21280), (21312, .arg 21312), (6466, .arg 6466), (6498, .arg 6498)], [(1761, .arg 1761, [(.int 133, .arg 60033)])])]
theorem k_wq133i : cbody kR [] (cpl1 zWP c_wn5 [q_wR133]) (cpl2 zWP c_wn5 [q_wR133]) (cleafB kR zWP c_wn5 w_wq133i) 1500 true true q_wq133i.2.2.1 q_wq133i.2.2.2 (cst zWP c_wn5.2.2.1.1 q_wq133i.1) (cst zWP c_wn5.2.2.1.2 q_wq133i.2.1) = true := by decide +kernel
theorem t_wq133i {X : pX} {ρ0 : sR} (hv : vok X ρ0) : CUTOK X kR zWP c_wn5 8 ρ0 q_wq133i := CUTOK_AT (fun ρ k1 hF hI k4 => AT_of (q := q_wq133i) rfl rfl (SEM_runB kR_x kR_0 (Cs := []) (fun C hC => by cases hC) c_wn5_f (Q := w_wq133i) hv 1500 (b1 := true) (b2 := true) k_wq133i k1 hF hI k4 (fun p hp ρ3 m1 m2 m3 m4 m5 m6 => by
  rw [List.mem_singleton.mp hp] at m2 m3 m5 m6 ⊢
  have y3 : ρ3.2.1 60033 = ρ.2.1 60033 := congrArg Prod.snd (m5 (60033, .arg 60033) List.mem_cons_self)
  have hA : ∀ j, ρ3.2.2.2.1 1761 j = if 133 = j then ρ.2.1 60033 else ρ.2.2.2.1 1761 j := fun j => ad_l (X := X) (p := 133) (t := .arg 60033) rfl (m6 _ List.mem_cons_self) j
  have hk : evk 133 (ρ.2.1 60033).toInt = true := by
    have h := m2.2 _ List.mem_cons_self
    rw [← y3]
    exact h
  have ea : ρ3.1 2848 = (sd X ρ (.op2 .ior (.arg 2848) (.int 0))).1 := congrArg Prod.fst (m5 (2848, .op2 .ior (.arg 2848) (.int 0)) (List.mem_cons_of_mem _ List.mem_cons_self))
  have eL : ρ3.1 60578 = ρ.1 60578 := (m4.1 60578 (by decide) (by decide)).1.trans (k4.1 60578 (by decide) (by decide)).1.symm
  have mo : sc X ρ3 (2, .op2 .iand (.op2 .iushr (.arg 2848) (.int 4)) (.int 1), .arg 60578) = false := by
    show decide (((ρ3.1 2848).toUInt32 >>> ((4 : Int32).toUInt32 &&& (31 : Int32).toUInt32)).toInt32 &&& 1 < ρ3.1 60578) = false
    rw [ea, eL]
    have q := tbv_ok (X := X) (ρ := ρ) (F := []) (a := .op2 .iand (.op2 .iushr (.op2 .ior (.arg 2848) (.int 0)) (.int 4)) (.int 1)) (b := .op2 .iand (.op2 .iushr (.arg 2848) (.int 4)) (.int 1)) ⟨hF.1, fun f hf => by cases hf⟩ (by decide +kernel)
    rw [sv_int rfl, sv_int rfl] at q
    exact mn_e (Value.int.inj q) (of_decide_eq_true (hF.2 _ (List.mem_cons_of_mem _ (List.mem_cons_of_mem _ (List.mem_cons_of_mem _ (List.mem_cons_of_mem _ (List.mem_cons_self)))))))
  exact t_wE5 hv ρ3 m1 ⟨m2.1, fcn (ev_nm (g := ρ.2.2.2.1 1761) (p := 133) (hF.2 _ (List.mem_cons_of_mem _ (List.mem_cons_of_mem _ (List.mem_cons_self)))) hk hA (by decide +kernel)) (fcn (pd_up (X := X) (p := 133) (c := 0) (z := []) (hF.2 _ (List.mem_cons_of_mem _ (List.mem_cons_of_mem _ (List.mem_cons_of_mem _ (List.mem_cons_self))))) hA (fun x hx => m5 x (List.mem_cons_of_mem _ hx)) k4 m4 wm_5 wb_5 (by decide +kernel)) (fcn (mo) (fnl)))⟩ m3 m4)))
theorem t_wq133 {X : pX} {ρ0 : sR} (hv : vok X ρ0) : CUTOK X kR zWP c_wn5 8 ρ0 q_wq133 := CUT_mono (t_wq133i hv) (fun ρ hF hI => by
  have b0 := rl_lf (x := ρ.2.1 60033) (y := -2147483648) (hF.2 _ (List.mem_cons_self))
  have b1 := rl_lf (x := 2147483647) (y := ρ.2.1 60033) (hF.2 _ (List.mem_cons_of_mem _ (List.mem_cons_self)))
  have y0 : (-2147483648 : Int64).toInt = -2147483648 := by decide +kernel
  have y1 : (2147483647 : Int64).toInt = 2147483647 := by decide +kernel
  rw [y0] at b0
  rw [y1] at b1
  exact ⟨hF, ik_c (fun hg => by
    have c0 := rl_lf (x := ρ.2.1 60033) (y := -1000000000) (hg _ List.mem_cons_self)
    have c1 := rl_lf (x := 1000000000) (y := ρ.2.1 60033) (hg _ (List.mem_cons_of_mem _ List.mem_cons_self))
    have z0 : (-1000000000 : Int64).toInt = -1000000000 := by decide +kernel
    have z1 : (1000000000 : Int64).toInt = 1000000000 := by decide +kernel
    rw [z0] at c0
    rw [z1] at c1
    exact wn_129 (p := 133) (q := 133) rfl et_133 c0 c1 rfl) (hI)⟩)
theorem e_wp133 : frun kR [] (cpl1 zWP (c_wp5 133) [q_wq133]) (cpl2 zWP (c_wp5 133) [q_wq133]) (cleaf kR zWP (c_wp5 133) [q_wq133]) 300 65536 (isatP (((0, .arg 2816, .int 4), false) :: (c_wp5 133).2.2.2.1) (c_wp5 133).2.2.2.2.2.2.2.1) (c_wp5 133).2.2.2.2.2.2.2.1 (sin0 mt_all (c_wp5 133).1.1 8 (c_wp5 133).2.1.1 (foot zWP (c_wp5 133).2.2.1.1)) (sin0 mt_all (c_wp5 133).1.2.1 8 (c_wp5 133).2.1.2 (foot zWP (c_wp5 133).2.2.1.2)) = true := by decide +kernel
theorem s_wp133 {X : pX} : SREL X pF pdfl mt_all kR zWP (c_wp5 133) := SREL_QC kR_x kR_0 (Cs := []) (fun C hC => by cases hC) (d := 8) rfl (c_wp5_f 133) (Q := [q_wq133]) (fun ρ0 hv => fun q hq => by
    simp only [List.mem_cons, List.not_mem_nil, or_false] at hq
    rw [hq]; exact (t_wq133 hv : CUTOK X kR zWP c_wn5 8 ρ0 q_wq133)) ((fun ρ hF hI => QC_run (C := (c_wp5 133)) 300 e_wp133 ρ ⟨hF.1, fcn (wn_x (hF.2 _ List.mem_cons_self) (by decide +kernel)) hF.2⟩ hI))
theorem et_135 : evt[135]? = some (-1000000000, 1000000000, 0) := by decide +kernel
noncomputable def q_wR135 : sCut := ((fr 0 10 53 [] [], [fr 0 5 23 [(4, .int 0)] [], fBot], 7), (fr 0 281 150 [] [], [fr 0 277 91 [(3, .int 0)] [], fBot], 7), [((129, .int 135, .arg 60033), true)], [])
noncomputable def q_wq135 : sCut := ((fr 0 5 0 [(0, tr 57), (1, .int 135), (2, .arg 60033)] [], [fBot], 8), (fr 0 277 60 [(0, tr 219), (1, .arg 1308), (2, .int 135), (4, .arg 60033)] [], [fBot], 8), [zf98vh_0, zf98vh_1, zf98vh_2, zf98vh_3, zf98vh_4, zf98vh_5], [])
noncomputable def q_wq135i : sCut := ((fr 0 5 0 [(0, tr 57), (1, .int 135), (2, .arg 60033)] [], [fBot], 8), (fr 0 277 60 [(0, tr 219), (1, .arg 1308), (2, .int 135), (4, .arg 60033)] [], [fBot], 8), [zf98vh_0, zf98vh_1, zf98vh_2, zf98vh_3, zf98vh_4, zf98vh_5], [([((8, .arg 60033, .long (-1000000000)), false), ((8, .long 1000000000, .arg 60033), false)], (129, .int 135, .arg 60033), true)])
noncomputable def w_wq135i : List (sCut × List (Nat × sT) × List (Nat × sT × List (sT × sT))) := [(q_wR135, [(60033, .arg 60033), (2848, .op2 .ior (.arg 2848) (.int 0)), (6850, .arg 6850), (6882, .arg 6882), (6914, .arg 6914), (6946, .arg 6946), (7362, .arg 7362), (7394, .arg 7394), (7426, .arg 7426), (7458, .arg 7458), (7874, .arg 7874), (7906, .arg 7906), (7938, .arg 7938), (7970, .arg 7970), (21216, .arg 21216), (21248, .arg 21248), (21280, .arg 21280), (21312, .arg 21312), (6466, .arg 6466), (6498, .arg 6498)], [(1761, .arg 1761, [(.int 135, .arg 60033)])])]
theorem k_wq135i : cbody kR [] (cpl1 zWP c_wn5 [q_wR135]) (cpl2 zWP c_wn5 [q_wR135]) (cleafB kR zWP c_wn5 w_wq135i) 1500 true true q_wq135i.2.2.1 q_wq135i.2.2.2 (cst zWP c_wn5.2.2.1.1 q_wq135i.1) (cst zWP c_wn5.2.2.1.2 q_wq135i.2.1) = true := by decide +kernel
theorem t_wq135i {X : pX} {ρ0 : sR} (hv : vok X ρ0) : CUTOK X kR zWP c_wn5 8 ρ0 q_wq135i := CUTOK_AT (fun ρ k1 hF hI k4 => AT_of (q := q_wq135i) rfl rfl (SEM_runB kR_x kR_0 (Cs := []) (fun C hC => by cases hC) c_wn5_f (Q := w_wq135i) hv 1500 (b1 := true) (b2 := true) k_wq135i k1 hF hI k4 (fun p hp ρ3 m1 m2 m3 m4 m5 m6 => by
  rw [List.mem_singleton.mp hp] at m2 m3 m5 m6 ⊢
  have y3 : ρ3.2.1 60033 = ρ.2.1 60033 := congrArg Prod.snd (m5 (60033, .arg 60033) List.mem_cons_self)
  have hA : ∀ j, ρ3.2.2.2.1 1761 j = if 135 = j then ρ.2.1 60033 else ρ.2.2.2.1 1761 j := fun j => ad_l (X := X) (p := 135) (t := .arg 60033) rfl (m6 _ List.mem_cons_self) j
  have hk : evk 135 (ρ.2.1 60033).toInt = true := by
    have h := m2.2 _ List.mem_cons_self
    rw [← y3]
    exact h
  have ea : ρ3.1 2848 = (sd X ρ (.op2 .ior (.arg 2848) (.int 0))).1 := congrArg Prod.fst (m5 (2848, .op2 .ior (.arg 2848) (.int 0)) (List.mem_cons_of_mem _ List.mem_cons_self))
  have eL : ρ3.1 60578 = ρ.1 60578 := (m4.1 60578 (by decide) (by decide)).1.trans (k4.1 60578 (by decide) (by decide)).1.symm
  have mo : sc X ρ3 (2, .op2 .iand (.op2 .iushr (.arg 2848) (.int 4)) (.int 1), .arg 60578) = false := by
    show decide (((ρ3.1 2848).toUInt32 >>> ((4 : Int32).toUInt32 &&& (31 : Int32).toUInt32)).toInt32 &&& 1 < ρ3.1 60578) = false
    rw [ea, eL]
    have q := tbv_ok (X := X) (ρ := ρ) (F := []) (a := .op2 .iand (.op2 .iushr (.op2 .ior (.arg 2848) (.int 0)) (.int 4)) (.int 1)) (b := .op2 .iand (.op2 .iushr (.arg 2848) (.int 4)) (.int 1)) ⟨hF.1, fun f hf => by cases hf⟩ (by decide +kernel)
    rw [sv_int rfl, sv_int rfl] at q
    exact mn_e (Value.int.inj q) (of_decide_eq_true (hF.2 _ (List.mem_cons_of_mem _ (List.mem_cons_of_mem _ (List.mem_cons_of_mem _ (List.mem_cons_of_mem _ (List.mem_cons_self)))))))
  exact t_wE5 hv ρ3 m1 ⟨m2.1, fcn (ev_nm (g := ρ.2.2.2.1 1761) (p := 135) (hF.2 _ (List.mem_cons_of_mem _ (List.mem_cons_of_mem _ (List.mem_cons_self)))) hk hA (by decide +kernel)) (fcn (pd_up (X := X) (p := 135) (c := 0) (z := []) (hF.2 _ (List.mem_cons_of_mem _ (List.mem_cons_of_mem _ (List.mem_cons_of_mem _ (List.mem_cons_self))))) hA (fun x hx => m5 x (List.mem_cons_of_mem _ hx)) k4 m4 wm_5 wb_5 (by decide +kernel)) (fcn (mo) (fnl)))⟩ m3 m4)))
theorem t_wq135 {X : pX} {ρ0 : sR} (hv : vok X ρ0) : CUTOK X kR zWP c_wn5 8 ρ0 q_wq135 := CUT_mono (t_wq135i hv) (fun ρ hF hI => by
  have b0 := rl_lf (x := ρ.2.1 60033) (y := -2147483648) (hF.2 _ (List.mem_cons_self))
  have b1 := rl_lf (x := 2147483647) (y := ρ.2.1 60033) (hF.2 _ (List.mem_cons_of_mem _ (List.mem_cons_self)))
  have y0 : (-2147483648 : Int64).toInt = -2147483648 := by decide +kernel
  have y1 : (2147483647 : Int64).toInt = 2147483647 := by decide +kernel
  rw [y0] at b0
  rw [y1] at b1
  exact ⟨hF, ik_c (fun hg => by
    have c0 := rl_lf (x := ρ.2.1 60033) (y := -1000000000) (hg _ List.mem_cons_self)
    have c1 := rl_lf (x := 1000000000) (y := ρ.2.1 60033) (hg _ (List.mem_cons_of_mem _ List.mem_cons_self))
    have z0 : (-1000000000 : Int64).toInt = -1000000000 := by decide +kernel
    have z1 : (1000000000 : Int64).toInt = 1000000000 := by decide +kernel
    rw [z0] at c0
    rw [z1] at c1
    exact wn_129 (p := 135) (q := 135) rfl et_135 c0 c1 rfl) (hI)⟩)
theorem e_wp135 : frun kR [] (cpl1 zWP (c_wp5 135) [q_wq135]) (cpl2 zWP (c_wp5 135) [q_wq135]) (cleaf kR zWP (c_wp5 135) [q_wq135]) 300 65536 (isatP (((0, .arg 2816, .int 4), false) :: (c_wp5 135).2.2.2.1) (c_wp5 135).2.2.2.2.2.2.2.1) (c_wp5 135).2.2.2.2.2.2.2.1 (sin0 mt_all (c_wp5 135).1.1 8 (c_wp5 135).2.1.1 (foot zWP (c_wp5 135).2.2.1.1)) (sin0 mt_all (c_wp5 135).1.2.1 8 (c_wp5 135).2.1.2 (foot zWP (c_wp5 135).2.2.1.2)) = true := by decide +kernel
theorem s_wp135 {X : pX} : SREL X pF pdfl mt_all kR zWP (c_wp5 135) := SREL_QC kR_x kR_0 (Cs := []) (fun C hC => by cases hC) (d := 8) rfl (c_wp5_f 135) (Q := [q_wq135]) (fun ρ0 hv => fun q hq => by
    simp only [List.mem_cons, List.not_mem_nil, or_false] at hq
    rw [hq]; exact (t_wq135 hv : CUTOK X kR zWP c_wn5 8 ρ0 q_wq135)) ((fun ρ hF hI => QC_run (C := (c_wp5 135)) 300 e_wp135 ρ ⟨hF.1, fcn (wn_x (hF.2 _ List.mem_cons_self) (by decide +kernel)) hF.2⟩ hI))
theorem et_136 : evt[136]? = some (-1000000000, 1000000000, 0) := by decide +kernel
noncomputable def q_wR136 : sCut := ((fr 0 10 53 [] [], [fr 0 5 23 [(4, .int 0)] [], fBot], 7), (fr 0 281 150 [] [], [fr 0 277 91 [(3, .int 0)] [], fBot], 7), [((129, .int 136, .arg 60033), true)], [])
noncomputable def q_wq136 : sCut := ((fr 0 5 0 [(0, tr 57), (1, .int 136), (2, .arg 60033)] [], [fBot], 8), (fr 0 277 60 [(0, tr 219), (1, .arg 1308), (2, .int 136), (4, .arg 60033)] [], [fBot], 8), [zf98vh_0, zf98vh_1, zf98vh_2, zf98vh_3, zf98vh_4, zf98vh_5], [])
noncomputable def q_wq136i : sCut := ((fr 0 5 0 [(0, tr 57), (1, .int 136), (2, .arg 60033)] [], [fBot], 8), (fr 0 277 60 [(0, tr 219), (1, .arg 1308), (2, .int 136), (4, .arg 60033)] [], [fBot], 8), [zf98vh_0, zf98vh_1, zf98vh_2, zf98vh_3, zf98vh_4, zf98vh_5], [([((8, .arg 60033, .long (-1000000000)), false), ((8, .long 1000000000, .arg 60033), false)], (129, .int 136, .arg 60033), true)])
noncomputable def w_wq136i : List (sCut × List (Nat × sT) × List (Nat × sT × List (sT × sT))) := [(q_wR136, [(60033, .arg 60033), (2848, .op2 .ior (.arg 2848) (.int 0)), (6850, .arg 6850), (6882, .arg 6882), (6914, .arg 6914), (6946, .arg 6946), (7362, .arg 7362), (7394, .arg 7394), (7426, .arg 7426), (7458, .arg 7458), (7874, .arg 7874), (7906, .arg 7906), (7938, .arg 7938), (7970, .arg 7970), (21216, .arg 21216), (21248, .arg 21248), (21280, .arg 21280), (21312, .arg 21312), (6466, .arg 6466), (6498, .arg 6498)], [(1761, .arg 1761, [(.int 136, .arg 60033)])])]
theorem k_wq136i : cbody kR [] (cpl1 zWP c_wn5 [q_wR136]) (cpl2 zWP c_wn5 [q_wR136]) (cleafB kR zWP c_wn5 w_wq136i) 1500 true true q_wq136i.2.2.1 q_wq136i.2.2.2 (cst zWP c_wn5.2.2.1.1 q_wq136i.1) (cst zWP c_wn5.2.2.1.2 q_wq136i.2.1) = true := by decide +kernel
theorem t_wq136i {X : pX} {ρ0 : sR} (hv : vok X ρ0) : CUTOK X kR zWP c_wn5 8 ρ0 q_wq136i := CUTOK_AT (fun ρ k1 hF hI k4 => AT_of (q := q_wq136i) rfl rfl (SEM_runB kR_x kR_0 (Cs := []) (fun C hC => by cases hC) c_wn5_f (Q := w_wq136i) hv 1500 (b1 := true) (b2 := true) k_wq136i k1 hF hI k4 (fun p hp ρ3 m1 m2 m3 m4 m5 m6 => by
  rw [List.mem_singleton.mp hp] at m2 m3 m5 m6 ⊢
  have y3 : ρ3.2.1 60033 = ρ.2.1 60033 := congrArg Prod.snd (m5 (60033, .arg 60033) List.mem_cons_self)
  have hA : ∀ j, ρ3.2.2.2.1 1761 j = if 136 = j then ρ.2.1 60033 else ρ.2.2.2.1 1761 j := fun j => ad_l (X := X) (p := 136) (t := .arg 60033) rfl (m6 _ List.mem_cons_self) j
  have hk : evk 136 (ρ.2.1 60033).toInt = true := by
    have h := m2.2 _ List.mem_cons_self
    rw [← y3]
    exact h
  have ea : ρ3.1 2848 = (sd X ρ (.op2 .ior (.arg 2848) (.int 0))).1 := congrArg Prod.fst (m5 (2848, .op2 .ior (.arg 2848) (.int 0)) (List.mem_cons_of_mem _ List.mem_cons_self))
  have eL : ρ3.1 60578 = ρ.1 60578 := (m4.1 60578 (by decide) (by decide)).1.trans (k4.1 60578 (by decide) (by decide)).1.symm
  have mo : sc X ρ3 (2, .op2 .iand (.op2 .iushr (.arg 2848) (.int 4)) (.int 1), .arg 60578) = false := by
    show decide (((ρ3.1 2848).toUInt32 >>> ((4 : Int32).toUInt32 &&& (31 : Int32).toUInt32)).toInt32 &&& 1 < ρ3.1 60578) = false
    rw [ea, eL]
    have q := tbv_ok (X := X) (ρ := ρ) (F := []) (a := .op2 .iand (.op2 .iushr (.op2 .ior (.arg 2848) (.int 0)) (.int 4)) (.int 1)) (b := .op2 .iand (.op2 .iushr (.arg 2848) (.int 4)) (.int 1)) ⟨hF.1, fun f hf => by cases hf⟩ (by decide +kernel)
    rw [sv_int rfl, sv_int rfl] at q
    exact mn_e (Value.int.inj q) (of_decide_eq_true (hF.2 _ (List.mem_cons_of_mem _ (List.mem_cons_of_mem _ (List.mem_cons_of_mem _ (List.mem_cons_of_mem _ (List.mem_cons_self)))))))
  exact t_wE5 hv ρ3 m1 ⟨m2.1, fcn (ev_nm (g := ρ.2.2.2.1 1761) (p := 136) (hF.2 _ (List.mem_cons_of_mem _ (List.mem_cons_of_mem _ (List.mem_cons_self)))) hk hA (by decide +kernel)) (fcn (pd_up (X := X) (p := 136) (c := 0) (z := []) (hF.2 _ (List.mem_cons_of_mem _ (List.mem_cons_of_mem _ (List.mem_cons_of_mem _ (List.mem_cons_self))))) hA (fun x hx => m5 x (List.mem_cons_of_mem _ hx)) k4 m4 wm_5 wb_5 (by decide +kernel)) (fcn (mo) (fnl)))⟩ m3 m4)))
theorem t_wq136 {X : pX} {ρ0 : sR} (hv : vok X ρ0) : CUTOK X kR zWP c_wn5 8 ρ0 q_wq136 := CUT_mono (t_wq136i hv) (fun ρ hF hI => by
  have b0 := rl_lf (x := ρ.2.1 60033) (y := -2147483648) (hF.2 _ (List.mem_cons_self))
  have b1 := rl_lf (x := 2147483647) (y := ρ.2.1 60033) (hF.2 _ (List.mem_cons_of_mem _ (List.mem_cons_self)))
  have y0 : (-2147483648 : Int64).toInt = -2147483648 := by decide +kernel
  have y1 : (2147483647 : Int64).toInt = 2147483647 := by decide +kernel
  rw [y0] at b0
  rw [y1] at b1
  exact ⟨hF, ik_c (fun hg => by
    have c0 := rl_lf (x := ρ.2.1 60033) (y := -1000000000) (hg _ List.mem_cons_self)
    have c1 := rl_lf (x := 1000000000) (y := ρ.2.1 60033) (hg _ (List.mem_cons_of_mem _ List.mem_cons_self))
    have z0 : (-1000000000 : Int64).toInt = -1000000000 := by decide +kernel
    have z1 : (1000000000 : Int64).toInt = 1000000000 := by decide +kernel
    rw [z0] at c0
    rw [z1] at c1
    exact wn_129 (p := 136) (q := 136) rfl et_136 c0 c1 rfl) (hI)⟩)
theorem e_wp136 : frun kR [] (cpl1 zWP (c_wp5 136) [q_wq136]) (cpl2 zWP (c_wp5 136) [q_wq136]) (cleaf kR zWP (c_wp5 136) [q_wq136]) 300 65536 (isatP (((0, .arg 2816, .int 4), false) :: (c_wp5 136).2.2.2.1) (c_wp5 136).2.2.2.2.2.2.2.1) (c_wp5 136).2.2.2.2.2.2.2.1 (sin0 mt_all (c_wp5 136).1.1 8 (c_wp5 136).2.1.1 (foot zWP (c_wp5 136).2.2.1.1)) (sin0 mt_all (c_wp5 136).1.2.1 8 (c_wp5 136).2.1.2 (foot zWP (c_wp5 136).2.2.1.2)) = true := by decide +kernel
theorem s_wp136 {X : pX} : SREL X pF pdfl mt_all kR zWP (c_wp5 136) := SREL_QC kR_x kR_0 (Cs := []) (fun C hC => by cases hC) (d := 8) rfl (c_wp5_f 136) (Q := [q_wq136]) (fun ρ0 hv => fun q hq => by
    simp only [List.mem_cons, List.not_mem_nil, or_false] at hq
    rw [hq]; exact (t_wq136 hv : CUTOK X kR zWP c_wn5 8 ρ0 q_wq136)) ((fun ρ hF hI => QC_run (C := (c_wp5 136)) 300 e_wp136 ρ ⟨hF.1, fcn (wn_x (hF.2 _ List.mem_cons_self) (by decide +kernel)) hF.2⟩ hI))
theorem et_154 : evt[154]? = some (-2000000, 2000000, 0) := by decide +kernel
noncomputable def q_wR154 : sCut := ((fr 0 10 53 [] [], [fr 0 5 23 [(4, .int 0)] [], fBot], 7), (fr 0 281 150 [] [], [fr 0 277 91 [(3, .int 0)] [], fBot], 7), [((129, .int 154, .arg 60033), true)], [])
noncomputable def q_wq154 : sCut := ((fr 0 5 0 [(0, tr 57), (1, .int 154), (2, .arg 60033)] [], [fBot], 8), (fr 0 277 60 [(0, tr 219), (1, .arg 1308), (2, .int 154), (4, .arg 60033)] [], [fBot], 8), [zf98vh_0, zf98vh_1, zf98vh_2, zf98vh_3, zf98vh_4, zf98vh_5], [])
noncomputable def q_wq154i : sCut := ((fr 0 5 0 [(0, tr 57), (1, .int 154), (2, .arg 60033)] [], [fBot], 8), (fr 0 277 60 [(0, tr 219), (1, .arg 1308), (2, .int 154), (4, .arg 60033)] [], [fBot], 8), [zf98vh_0, zf98vh_1, zf98vh_2, zf98vh_3, zf98vh_4, zf98vh_5], [([((8, .arg 60033, .long (-2000000)), false), ((8, .long 2000000, .arg 60033), false)], (129, .int 154, .arg 60033), true)])
noncomputable def w_wq154i : List (sCut × List (Nat × sT) × List (Nat × sT × List (sT × sT))) := [(q_wR154, [(60033, .arg 60033), (2848, .op2 .ior (.arg 2848) (.int 0)), (6850, .arg 6850), (6882, .arg 6882), (6914, .arg 6914), (6946, .arg 6946), (7362, .arg 7362), (7394, .arg 7394), (7426, .arg 7426), (7458, .arg 7458), (7874, .arg 7874), (7906, .arg 7906), (7938, .arg 7938), (7970, .arg 7970), (21216, .arg 21216), (21248, .arg 21248), (21280, .arg 21280), (21312, .arg 21312), (6466, .arg 6466), (6498, .arg 6498)], [(1761, .arg 1761, [(.int 154, .arg 60033)])])]
theorem k_wq154i : cbody kR [] (cpl1 zWP c_wn5 [q_wR154]) (cpl2 zWP c_wn5 [q_wR154]) (cleafB kR zWP c_wn5 w_wq154i) 1500 true true q_wq154i.2.2.1 q_wq154i.2.2.2 (cst zWP c_wn5.2.2.1.1 q_wq154i.1) (cst zWP c_wn5.2.2.1.2 q_wq154i.2.1) = true := by decide +kernel
theorem t_wq154i {X : pX} {ρ0 : sR} (hv : vok X ρ0) : CUTOK X kR zWP c_wn5 8 ρ0 q_wq154i := CUTOK_AT (fun ρ k1 hF hI k4 => AT_of (q := q_wq154i) rfl rfl (SEM_runB kR_x kR_0 (Cs := []) (fun C hC => by cases hC) c_wn5_f (Q := w_wq154i) hv 1500 (b1 := true) (b2 := true) k_wq154i k1 hF hI k4 (fun p hp ρ3 m1 m2 m3 m4 m5 m6 => by
  rw [List.mem_singleton.mp hp] at m2 m3 m5 m6 ⊢
  have y3 : ρ3.2.1 60033 = ρ.2.1 60033 := congrArg Prod.snd (m5 (60033, .arg 60033) List.mem_cons_self)
  have hA : ∀ j, ρ3.2.2.2.1 1761 j = if 154 = j then ρ.2.1 60033 else ρ.2.2.2.1 1761 j := fun j => ad_l (X := X) (p := 154) (t := .arg 60033) rfl (m6 _ List.mem_cons_self) j
  have hk : evk 154 (ρ.2.1 60033).toInt = true := by
    have h := m2.2 _ List.mem_cons_self
    rw [← y3]
    exact h
  have ea : ρ3.1 2848 = (sd X ρ (.op2 .ior (.arg 2848) (.int 0))).1 := congrArg Prod.fst (m5 (2848, .op2 .ior (.arg 2848) (.int 0)) (List.mem_cons_of_mem _ List.mem_cons_self))
  have eL : ρ3.1 60578 = ρ.1 60578 := (m4.1 60578 (by decide) (by decide)).1.trans (k4.1 60578 (by decide) (by decide)).1.symm
  have mo : sc X ρ3 (2, .op2 .iand (.op2 .iushr (.arg 2848) (.int 4)) (.int 1), .arg 60578) = false := by
    show decide (((ρ3.1 2848).toUInt32 >>> ((4 : Int32).toUInt32 &&& (31 : Int32).toUInt32)).toInt32 &&& 1 < ρ3.1 60578) = false
    rw [ea, eL]
    have q := tbv_ok (X := X) (ρ := ρ) (F := []) (a := .op2 .iand (.op2 .iushr (.op2 .ior (.arg 2848) (.int 0)) (.int 4)) (.int 1)) (b := .op2 .iand (.op2 .iushr (.arg 2848) (.int 4)) (.int 1)) ⟨hF.1, fun f hf => by cases hf⟩ (by decide +kernel)
    rw [sv_int rfl, sv_int rfl] at q
    exact mn_e (Value.int.inj q) (of_decide_eq_true (hF.2 _ (List.mem_cons_of_mem _ (List.mem_cons_of_mem _ (List.mem_cons_of_mem _ (List.mem_cons_of_mem _ (List.mem_cons_self)))))))
  exact t_wE5 hv ρ3 m1 ⟨m2.1, fcn (ev_nm (g := ρ.2.2.2.1 1761) (p := 154) (hF.2 _ (List.mem_cons_of_mem _ (List.mem_cons_of_mem _ (List.mem_cons_self)))) hk hA (by decide +kernel)) (fcn (pd_up (X := X) (p := 154) (c := 0) (z := []) (hF.2 _ (List.mem_cons_of_mem _ (List.mem_cons_of_mem _ (List.mem_cons_of_mem _ (List.mem_cons_self))))) hA (fun x hx => m5 x (List.mem_cons_of_mem _ hx)) k4 m4 wm_5 wb_5 (by decide +kernel)) (fcn (mo) (fnl)))⟩ m3 m4)))
theorem t_wq154 {X : pX} {ρ0 : sR} (hv : vok X ρ0) : CUTOK X kR zWP c_wn5 8 ρ0 q_wq154 := CUT_mono (t_wq154i hv) (fun ρ hF hI => by
  have b0 := rl_lf (x := ρ.2.1 60033) (y := -2147483648) (hF.2 _ (List.mem_cons_self))
  have b1 := rl_lf (x := 2147483647) (y := ρ.2.1 60033) (hF.2 _ (List.mem_cons_of_mem _ (List.mem_cons_self)))
  have y0 : (-2147483648 : Int64).toInt = -2147483648 := by decide +kernel
  have y1 : (2147483647 : Int64).toInt = 2147483647 := by decide +kernel
  rw [y0] at b0
  rw [y1] at b1
  exact ⟨hF, ik_c (fun hg => by
    have c0 := rl_lf (x := ρ.2.1 60033) (y := -2000000) (hg _ List.mem_cons_self)
    have c1 := rl_lf (x := 2000000) (y := ρ.2.1 60033) (hg _ (List.mem_cons_of_mem _ List.mem_cons_self))
    have z0 : (-2000000 : Int64).toInt = -2000000 := by decide +kernel
    have z1 : (2000000 : Int64).toInt = 2000000 := by decide +kernel
    rw [z0] at c0
    rw [z1] at c1
    exact wn_129 (p := 154) (q := 154) rfl et_154 c0 c1 rfl) (hI)⟩)
theorem e_wp154 : frun kR [] (cpl1 zWP (c_wp5 154) [q_wq154]) (cpl2 zWP (c_wp5 154) [q_wq154]) (cleaf kR zWP (c_wp5 154) [q_wq154]) 300 65536 (isatP ((c_wp5 154).2.2.2.1) (c_wp5 154).2.2.2.2.2.2.2.1) (c_wp5 154).2.2.2.2.2.2.2.1 (sin0 mt_all (c_wp5 154).1.1 8 (c_wp5 154).2.1.1 (foot zWP (c_wp5 154).2.2.1.1)) (sin0 mt_all (c_wp5 154).1.2.1 8 (c_wp5 154).2.1.2 (foot zWP (c_wp5 154).2.2.1.2)) = true := by decide +kernel
theorem s_wp154 {X : pX} : SREL X pF pdfl mt_all kR zWP (c_wp5 154) := SREL_QC kR_x kR_0 (Cs := []) (fun C hC => by cases hC) (d := 8) rfl (c_wp5_f 154) (Q := [q_wq154]) (fun ρ0 hv => fun q hq => by
    simp only [List.mem_cons, List.not_mem_nil, or_false] at hq
    rw [hq]; exact (t_wq154 hv : CUTOK X kR zWP c_wn5 8 ρ0 q_wq154)) (QC_run 300 e_wp154)
