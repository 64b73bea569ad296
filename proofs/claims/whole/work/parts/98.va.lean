set_option maxRecDepth 20000
theorem et_2 : evt[2]? = some (-9223372036854775808, 9223372036854775807, 0) := by decide +kernel
noncomputable def q_wR2 : sCut := ((fr 0 10 53 [] [], [fr 0 5 23 [(4, .int 0)] [], fBot], 7), (fr 0 281 150 [] [], [fr 0 277 91 [(3, .int 0)] [], fBot], 7), [], [])
noncomputable def zf98va_0 : sQ × Bool := ((8, .arg 60033, .long 0), false)
noncomputable def zf98va_1 : sQ × Bool := ((8, .long 255, .arg 60033), false)
noncomputable def zf98va_2 : sQ × Bool := ((101, .elem (.arg 1761) (.int 0), .int 0), true)
noncomputable def zf98va_3 : sQ × Bool := ((137, .add (.elem (.arg 1761) (.int 0)) (.add (.arg 2848) (.add (.elem (.arg 24512) (.int 0)) (.add (.elem (.arg 2404) (.int 0)) (.add (.elem (.arg 24544) (.int 0)) (.add (.elem (.arg 2436) (.int 0)) (.add (.arg 5728) (.add (.arg 5760) (.add (.arg 5792) (.add (.arg 5824) (.add (.arg 5856) (.add (.arg 5888) (.add (.arg 5920) (.add (.arg 5952) (.add (.arg 2082) (.add (.arg 2114) (.add (.arg 2146) (.add (.arg 2178) (.add (.arg 6850) (.add (.arg 6882) (.add (.arg 6914) (.add (.arg 6946) (.add (.arg 2210) (.add (.arg 2242) (.add (.arg 2274) (.add (.arg 2306) (.add (.arg 7362) (.add (.arg 7394) (.add (.arg 7426) (.add (.arg 7458) (.add (.arg 2338) (.add (.arg 2370) (.add (.arg 2402) (.add (.arg 2434) (.add (.arg 7874) (.add (.arg 7906) (.add (.arg 7938) (.add (.arg 7970) (.add (.arg 6240) (.add (.arg 6272) (.add (.arg 6304) (.add (.arg 6336) (.add (.arg 21216) (.add (.arg 21248) (.add (.arg 21280) (.add (.arg 21312) (.add (.arg 1570) (.add (.arg 1602) (.add (.arg 6466) (.arg 6498))))))))))))))))))))))))))))))))))))))))))))))))), .int 0), true)
noncomputable def zf98va_4 : sQ × Bool := ((0, .op2 .iand (.op2 .iushr (.arg 2848) (.int 4)) (.int 1), .arg 60578), true)
noncomputable def zf98va_5 : sQ × Bool := ((2, .op2 .iand (.op2 .iushr (.arg 2848) (.int 4)) (.int 1), .arg 60578), false)
noncomputable def q_wq2 : sCut := ((fr 0 5 0 [(0, tr 57), (1, .int 2), (2, .arg 60033)] [], [fBot], 8), (fr 0 277 60 [(0, tr 219), (1, .arg 1308), (2, .int 2), (4, .arg 60033)] [], [fBot], 8), [zf98va_0, zf98va_1, zf98va_2, zf98va_3, zf98va_4, zf98va_5], [])
noncomputable def q_wq2i : sCut := ((fr 0 5 0 [(0, tr 57), (1, .int 2), (2, .arg 60033)] [], [fBot], 8), (fr 0 277 60 [(0, tr 219), (1, .arg 1308), (2, .int 2), (4, .arg 60033)] [], [fBot], 8), [zf98va_0, zf98va_1, zf98va_2, zf98va_3, zf98va_4, zf98va_5], [])
noncomputable def w_wq2i : List (sCut × List (Nat × sT) × List (Nat × sT × List (sT × sT))) := [(q_wR2, [(60033, .arg 60033), (2848, .arg 2848), (6850, .arg 6850), (6882, .arg 6882), (6914, .arg 6914), (6946, .arg 6946), (7362, .arg 7362), (7394, .arg 7394), (7426, .arg 7426), (7458, .arg 7458), (7874, .arg 7874), (7906, .arg 7906), (7938, .arg 7938), (7970, .arg 7970), (21216, .arg 21216), (21248, .arg 21248), (21280, .arg 21280), (21312, .arg 21312), (6466, .arg 6466), (6498, .arg 6498)], [(1761, .arg 1761, [])])]
theorem k_wq2i : cbody kR [] (cpl1 zWP c_wn0 [q_wR2]) (cpl2 zWP c_wn0 [q_wR2]) (cleafB kR zWP c_wn0 w_wq2i) 1500 true true q_wq2i.2.2.1 q_wq2i.2.2.2 (cst zWP c_wn0.2.2.1.1 q_wq2i.1) (cst zWP c_wn0.2.2.1.2 q_wq2i.2.1) = true := by decide +kernel
theorem t_wq2i {X : pX} {ρ0 : sR} (hv : vok X ρ0) : CUTOK X kR zWP c_wn0 8 ρ0 q_wq2i := CUTOK_AT (fun ρ k1 hF hI k4 => AT_of (q := q_wq2i) rfl rfl (SEM_runB kR_x kR_0 (Cs := []) (fun C hC => by cases hC) c_wn0_f (Q := w_wq2i) hv 1500 (b1 := true) (b2 := true) k_wq2i k1 hF hI k4 (fun p hp ρ3 m1 m2 m3 m4 m5 m6 => by
  rw [List.mem_singleton.mp hp] at m2 m3 m5 m6 ⊢
  have y3 : ρ3.2.1 60033 = ρ.2.1 60033 := congrArg Prod.snd (m5 (60033, .arg 60033) List.mem_cons_self)
  have hE : ∀ j, ρ3.2.2.2.1 1761 j = ρ.2.2.2.1 1761 j := fun j => Value.long.inj (m6 _ List.mem_cons_self j)
  have hA : ∀ j, ρ3.2.2.2.1 1761 j = if 2 = j then ρ.2.2.2.1 1761 2 else ρ.2.2.2.1 1761 j := fun j => by
    rw [hE j]
    split
    · next h => rw [h]
    · rfl
  have hG : ρ3.2.2.2.1 1761 = ρ.2.2.2.1 1761 := funext hE
  have ea : ρ3.1 2848 = (sd X ρ (.arg 2848)).1 := congrArg Prod.fst (m5 (2848, .arg 2848) (List.mem_cons_of_mem _ List.mem_cons_self))
  have eL : ρ3.1 60578 = ρ.1 60578 := (m4.1 60578 (by decide) (by decide)).1.trans (k4.1 60578 (by decide) (by decide)).1.symm
  have mo : sc X ρ3 (2, .op2 .iand (.op2 .iushr (.arg 2848) (.int 4)) (.int 1), .arg 60578) = false := by
    show decide (((ρ3.1 2848).toUInt32 >>> ((4 : Int32).toUInt32 &&& (31 : Int32).toUInt32)).toInt32 &&& 1 < ρ3.1 60578) = false
    rw [ea, eL]
    exact mn_e rfl (of_decide_eq_true (hF.2 _ (List.mem_cons_of_mem _ (List.mem_cons_of_mem _ (List.mem_cons_of_mem _ (List.mem_cons_of_mem _ (List.mem_cons_self)))))))
  exact t_wE0 hv ρ3 m1 ⟨m2.1, fcn (show evall (ρ3.2.2.2.1 1761) = true by rw [hG]; exact hF.2 _ (List.mem_cons_of_mem _ (List.mem_cons_of_mem _ (List.mem_cons_self)))) (fcn (pd_un (X := X) (p := 2) (hF.2 _ (List.mem_cons_of_mem _ (List.mem_cons_of_mem _ (List.mem_cons_of_mem _ (List.mem_cons_self))))) hA (fun x hx => m5 x (List.mem_cons_of_mem _ hx)) k4 m4 wm_0 wb_0 (by decide +kernel)) (fcn (mo) (fnl)))⟩ m3 m4)))
theorem t_wq2 {X : pX} {ρ0 : sR} (hv : vok X ρ0) : CUTOK X kR zWP c_wn0 8 ρ0 q_wq2 := t_wq2i hv
theorem e_wp2 : frun kR [] (cpl1 zWP (c_wp0 2) [q_wq2]) (cpl2 zWP (c_wp0 2) [q_wq2]) (cleaf kR zWP (c_wp0 2) [q_wq2]) 300 65536 (isatP ((c_wp0 2).2.2.2.1) (c_wp0 2).2.2.2.2.2.2.2.1) (c_wp0 2).2.2.2.2.2.2.2.1 (sin0 mt_all (c_wp0 2).1.1 8 (c_wp0 2).2.1.1 (foot zWP (c_wp0 2).2.2.1.1)) (sin0 mt_all (c_wp0 2).1.2.1 8 (c_wp0 2).2.1.2 (foot zWP (c_wp0 2).2.2.1.2)) = true := by decide +kernel
theorem s_wp2 {X : pX} : SREL X pF pdfl mt_all kR zWP (c_wp0 2) := SREL_QC kR_x kR_0 (Cs := []) (fun C hC => by cases hC) (d := 8) rfl (c_wp0_f 2) (Q := [q_wq2]) (fun ρ0 hv => fun q hq => by
    simp only [List.mem_cons, List.not_mem_nil, or_false] at hq
    rw [hq]; exact (t_wq2 hv : CUTOK X kR zWP c_wn0 8 ρ0 q_wq2)) (QC_run 300 e_wp2)
theorem et_30 : evt[30]? = some (0, 2, 0) := by decide +kernel
noncomputable def q_wR30 : sCut := ((fr 0 10 53 [] [], [fr 0 5 23 [(4, .int 0)] [], fBot], 7), (fr 0 281 150 [] [], [fr 0 277 91 [(3, .int 0)] [], fBot], 7), [((129, .int 30, .arg 60033), true)], [])
noncomputable def q_wq30 : sCut := ((fr 0 5 0 [(0, tr 57), (1, .int 30), (2, .arg 60033)] [], [fBot], 8), (fr 0 277 60 [(0, tr 219), (1, .arg 1308), (2, .int 30), (4, .arg 60033)] [], [fBot], 8), [zf98va_0, zf98va_1, zf98va_2, zf98va_3, zf98va_4, zf98va_5], [])
noncomputable def q_wq30i : sCut := ((fr 0 5 0 [(0, tr 57), (1, .int 30), (2, .arg 60033)] [], [fBot], 8), (fr 0 277 60 [(0, tr 219), (1, .arg 1308), (2, .int 30), (4, .arg 60033)] [], [fBot], 8), [zf98va_0, zf98va_1, zf98va_2, zf98va_3, zf98va_4, zf98va_5], [([((8, .arg 60033, .long 0), false), ((8, .long 2, .arg 60033), false)], (129, .int 30, .arg 60033), true)])
noncomputable def w_wq30i : List (sCut × List (Nat × sT) × List (Nat × sT × List (sT × sT))) := [(q_wR30, [(60033, .arg 60033), (2848, .op2 .ior (.arg 2848) (.int 0)), (6850, .arg 6850), (6882, .arg 6882), (6914, .arg 6914), (6946, .arg 6946), (7362, .arg 7362), (7394, .arg 7394), (7426, .arg 7426), (7458, .arg 7458), (7874, .arg 7874), (7906, .arg 7906), (7938, .arg 7938), (7970, .arg 7970), (21216, .arg 21216), (21248, .arg 21248), (21280, .arg 21280), (21312, .arg 21312), (6466, .arg 6466), (6498, .arg 6498)], [(1761, .arg 1761, [(.int 30, .arg 60033)])])]
theorem k_wq30i : cbody kR [] (cpl1 zWP c_wn0 [q_wR30]) (cpl2 zWP c_wn0 [q_wR30]) (cleafB kR zWP c_wn0 w_wq30i) 1500 true true q_wq30i.2.2.1 q_wq30i.2.2.2 (cst zWP c_wn0.2.2.1.1 q_wq30i.1) (cst zWP c_wn0.2.2.1.2 q_wq30i.2.1) = true := by decide +kernel
theorem t_wq30i {X : pX} {ρ0 : sR} (hv : vok X ρ0) : CUTOK X kR zWP c_wn0 8 ρ0 q_wq30i := CUTOK_AT (fun ρ k1 hF hI k4 => AT_of (q := q_wq30i) rfl rfl (SEM_runB kR_x kR_0 (Cs := []) (fun C hC => by cases hC) c_wn0_f (Q := w_wq30i) hv 1500 (b1 := true) (b2 := true) k_wq30i k1 hF hI k4 (fun p hp ρ3 m1 m2 m3 m4 m5 m6 => by
  rw [List.mem_singleton.mp hp] at m2 m3 m5 m6 ⊢
  have y3 : ρ3.2.1 60033 = ρ.2.1 60033 := congrArg Prod.snd (m5 (60033, .arg 60033) List.mem_cons_self)
  have hA : ∀ j, ρ3.2.2.2.1 1761 j = if 30 = j then ρ.2.1 60033 else ρ.2.2.2.1 1761 j := fun j => ad_l (X := X) (p := 30) (t := .arg 60033) rfl (m6 _ List.mem_cons_self) j
  have hk : evk 30 (ρ.2.1 60033).toInt = true := by
    have h := m2.2 _ List.mem_cons_self
    rw [← y3]
    exact h
  have ea : ρ3.1 2848 = (sd X ρ (.op2 .ior (.arg 2848) (.int 0))).1 := congrArg Prod.fst (m5 (2848, .op2 .ior (.arg 2848) (.int 0)) (List.mem_cons_of_mem _ List.mem_cons_self))
  have eL : ρ3.1 60578 = ρ.1 60578 := (m4.1 60578 (by decide) (by decide)).1.trans (k4.1 60578 (by decide) (by decide)).1.symm
  have mo : sc X ρ3 (2, .op2 .iand (.op2 .iushr (.arg 2848) (.int 4)) (.int 1), .arg 60578) = false := by
    show decide (((ρ3.1 2848).toUInt32 >>> ((4 : Int32).toUInt32 &&& (31 : Int32).toUInt32)).toInt32 &&& 1 < ρ3.1 60578) = false
    rw [ea, eL]
    have q := tbv_ok (X := X) (ρ := ρ) (F := []) (a := .op2 .iand (.op2 .iushr (.op2 .ior (.arg 2848) (.int 0)) (.int 4)) (.int 1)) (b := .op2 .iand (.op2 .iushr (.arg 2848) (.int 4)) (.int 1)) ⟨hF.1, fun f hf => by cases hf⟩ (by decide +kernel)
    rw [sv_int rfl, sv_int rfl] at q
    exact mn_e (Value.int.inj q) (of_decide_eq_true (hF.2 _ (List.mem_cons_of_mem _ (List.mem_cons_of_mem _ (List.mem_cons_of_mem _ (List.mem_cons_of_mem _ (List.mem_cons_self)))))))
  exact t_wE0 hv ρ3 m1 ⟨m2.1, fcn (ev_nm (g := ρ.2.2.2.1 1761) (p := 30) (hF.2 _ (List.mem_cons_of_mem _ (List.mem_cons_of_mem _ (List.mem_cons_self)))) hk hA (by decide +kernel)) (fcn (pd_up (X := X) (p := 30) (c := 0) (z := []) (hF.2 _ (List.mem_cons_of_mem _ (List.mem_cons_of_mem _ (List.mem_cons_of_mem _ (List.mem_cons_self))))) hA (fun x hx => m5 x (List.mem_cons_of_mem _ hx)) k4 m4 wm_0 wb_0 (by decide +kernel)) (fcn (mo) (fnl)))⟩ m3 m4)))
theorem t_wq30 {X : pX} {ρ0 : sR} (hv : vok X ρ0) : CUTOK X kR zWP c_wn0 8 ρ0 q_wq30 := CUT_mono (t_wq30i hv) (fun ρ hF hI => by
  have b0 := rl_lf (x := ρ.2.1 60033) (y := 0) (hF.2 _ (List.mem_cons_self))
  have b1 := rl_lf (x := 255) (y := ρ.2.1 60033) (hF.2 _ (List.mem_cons_of_mem _ (List.mem_cons_self)))
  have y0 : (0 : Int64).toInt = 0 := by decide +kernel
  have y1 : (255 : Int64).toInt = 255 := by decide +kernel
  rw [y0] at b0
  rw [y1] at b1
  exact ⟨hF, ik_c (fun hg => by
    have c0 := rl_lf (x := ρ.2.1 60033) (y := 0) (hg _ List.mem_cons_self)
    have c1 := rl_lf (x := 2) (y := ρ.2.1 60033) (hg _ (List.mem_cons_of_mem _ List.mem_cons_self))
    have z0 : (0 : Int64).toInt = 0 := by decide +kernel
    have z1 : (2 : Int64).toInt = 2 := by decide +kernel
    rw [z0] at c0
    rw [z1] at c1
    exact wn_129 (p := 30) (q := 30) rfl et_30 c0 c1 rfl) (hI)⟩)
theorem e_wp30 : frun kR [] (cpl1 zWP (c_wp0 30) [q_wq30]) (cpl2 zWP (c_wp0 30) [q_wq30]) (cleaf kR zWP (c_wp0 30) [q_wq30]) 300 65536 (isatP ((c_wp0 30).2.2.2.1) (c_wp0 30).2.2.2.2.2.2.2.1) (c_wp0 30).2.2.2.2.2.2.2.1 (sin0 mt_all (c_wp0 30).1.1 8 (c_wp0 30).2.1.1 (foot zWP (c_wp0 30).2.2.1.1)) (sin0 mt_all (c_wp0 30).1.2.1 8 (c_wp0 30).2.1.2 (foot zWP (c_wp0 30).2.2.1.2)) = true := by decide +kernel
theorem s_wp30 {X : pX} : SREL X pF pdfl mt_all kR zWP (c_wp0 30) := SREL_QC kR_x kR_0 (Cs := []) (fun C hC => by cases hC) (d := 8) rfl (c_wp0_f 30) (Q := [q_wq30]) (fun ρ0 hv => fun q hq => by
    simp only [List.mem_cons, List.not_mem_nil, or_false] at hq
    rw [hq]; exact (t_wq30 hv : CUTOK X kR zWP c_wn0 8 ρ0 q_wq30)) (QC_run 300 e_wp30)
theorem et_36 : evt[36]? = some (0, 255, 7) := by decide +kernel
noncomputable def q_wR36 : sCut := ((fr 0 10 53 [] [], [fr 0 5 23 [(4, .int 0)] [], fBot], 7), (fr 0 281 150 [] [], [fr 0 277 91 [(3, .int 0)] [], fBot], 7), [((129, .int 36, .arg 60033), true)], [])
noncomputable def q_wq36 : sCut := ((fr 0 5 0 [(0, tr 57), (1, .int 36), (2, .arg 60033)] [], [fBot], 8), (fr 0 277 60 [(0, tr 219), (1, .arg 1308), (2, .int 36), (4, .arg 60033)] [], [fBot], 8), [zf98va_0, zf98va_1, zf98va_2, zf98va_3, zf98va_4, zf98va_5], [])
noncomputable def zi98va_6 : sFs × sQ × Bool := ([((8, .arg 60033, .long 254), false), ((6, .arg 60033, .long 254), false)], (6, .arg 60033, .long 255), true)
noncomputable def q_wq36i : sCut := ((fr 0 5 0 [(0, tr 57), (1, .int 36), (2, .arg 60033)] [], [fBot], 8), (fr 0 277 60 [(0, tr 219), (1, .arg 1308), (2, .int 36), (4, .arg 60033)] [], [fBot], 8), [zf98va_0, zf98va_1, zf98va_2, zf98va_3, zf98va_4, zf98va_5], [([((8, .long 240, .arg 60033), false)], (129, .int 36, .arg 60033), true), ([((8, .arg 60033, .long 254), false)], (129, .int 36, .arg 60033), true), zi98va_6])
noncomputable def w_wq36i : List (sCut × List (Nat × sT) × List (Nat × sT × List (sT × sT))) := [(q_wR36, [(60033, .arg 60033), (2848, .op2 .ior (.arg 2848) (.int 256)), (6850, .int 0), (6882, .arg 6882), (6914, .arg 6914), (6946, .arg 6946), (7362, .int 0), (7394, .arg 7394), (7426, .arg 7426), (7458, .arg 7458), (7874, .arg 7874), (7906, .arg 7906), (7938, .arg 7938), (7970, .arg 7970), (21216, .arg 21216), (21248, .arg 21248), (21280, .arg 21280), (21312, .arg 21312), (6466, .arg 6466), (6498, .arg 6498)], [(1761, .arg 1761, [(.int 36, .arg 60033)])])]
theorem k_wq36i : cbody kR [] (cpl1 zWP c_wn0 [q_wR36]) (cpl2 zWP c_wn0 [q_wR36]) (cleafB kR zWP c_wn0 w_wq36i) 1500 true true q_wq36i.2.2.1 q_wq36i.2.2.2 (cst zWP c_wn0.2.2.1.1 q_wq36i.1) (cst zWP c_wn0.2.2.1.2 q_wq36i.2.1) = true := by decide +kernel
theorem t_wq36i {X : pX} {ρ0 : sR} (hv : vok X ρ0) : CUTOK X kR zWP c_wn0 8 ρ0 q_wq36i := CUTOK_AT (fun ρ k1 hF hI k4 => AT_of (q := q_wq36i) rfl rfl (SEM_runB kR_x kR_0 (Cs := []) (fun C hC => by cases hC) c_wn0_f (Q := w_wq36i) hv 1500 (b1 := true) (b2 := true) k_wq36i k1 hF hI k4 (fun p hp ρ3 m1 m2 m3 m4 m5 m6 => by
  rw [List.mem_singleton.mp hp] at m2 m3 m5 m6 ⊢
  have y3 : ρ3.2.1 60033 = ρ.2.1 60033 := congrArg Prod.snd (m5 (60033, .arg 60033) List.mem_cons_self)
  have hA : ∀ j, ρ3.2.2.2.1 1761 j = if 36 = j then ρ.2.1 60033 else ρ.2.2.2.1 1761 j := fun j => ad_l (X := X) (p := 36) (t := .arg 60033) rfl (m6 _ List.mem_cons_self) j
  have hk : evk 36 (ρ.2.1 60033).toInt = true := by
    have h := m2.2 _ List.mem_cons_self
    rw [← y3]
    exact h
  have ea : ρ3.1 2848 = (sd X ρ (.op2 .ior (.arg 2848) (.int 256))).1 := congrArg Prod.fst (m5 (2848, .op2 .ior (.arg 2848) (.int 256)) (List.mem_cons_of_mem _ List.mem_cons_self))
  have eL : ρ3.1 60578 = ρ.1 60578 := (m4.1 60578 (by decide) (by decide)).1.trans (k4.1 60578 (by decide) (by decide)).1.symm
  have mo : sc X ρ3 (2, .op2 .iand (.op2 .iushr (.arg 2848) (.int 4)) (.int 1), .arg 60578) = false := by
    show decide (((ρ3.1 2848).toUInt32 >>> ((4 : Int32).toUInt32 &&& (31 : Int32).toUInt32)).toInt32 &&& 1 < ρ3.1 60578) = false
    rw [ea, eL]
    have q := tbv_ok (X := X) (ρ := ρ) (F := []) (a := .op2 .iand (.op2 .iushr (.op2 .ior (.arg 2848) (.int 256)) (.int 4)) (.int 1)) (b := .op2 .iand (.op2 .iushr (.arg 2848) (.int 4)) (.int 1)) ⟨hF.1, fun f hf => by cases hf⟩ (by decide +kernel)
    rw [sv_int rfl, sv_int rfl] at q
    exact mn_e (Value.int.inj q) (of_decide_eq_true (hF.2 _ (List.mem_cons_of_mem _ (List.mem_cons_of_mem _ (List.mem_cons_of_mem _ (List.mem_cons_of_mem _ (List.mem_cons_self)))))))
  exact t_wE0 hv ρ3 m1 ⟨m2.1, fcn (ev_nm (g := ρ.2.2.2.1 1761) (p := 36) (hF.2 _ (List.mem_cons_of_mem _ (List.mem_cons_of_mem _ (List.mem_cons_self)))) hk hA (by decide +kernel)) (fcn (pd_up (X := X) (p := 36) (c := 256) (z := [6850, 7362]) (hF.2 _ (List.mem_cons_of_mem _ (List.mem_cons_of_mem _ (List.mem_cons_of_mem _ (List.mem_cons_self))))) hA (fun x hx => m5 x (List.mem_cons_of_mem _ hx)) k4 m4 wm_0 wb_0 (by decide +kernel)) (fcn (mo) (fnl)))⟩ m3 m4)))
theorem t_wq36 {X : pX} {ρ0 : sR} (hv : vok X ρ0) : CUTOK X kR zWP c_wn0 8 ρ0 q_wq36 := CUT_mono (t_wq36i hv) (fun ρ hF hI => by
  have b0 := rl_lf (x := ρ.2.1 60033) (y := 0) (hF.2 _ (List.mem_cons_self))
  have b1 := rl_lf (x := 255) (y := ρ.2.1 60033) (hF.2 _ (List.mem_cons_of_mem _ (List.mem_cons_self)))
  have y0 : (0 : Int64).toInt = 0 := by decide +kernel
  have y1 : (255 : Int64).toInt = 255 := by decide +kernel
  rw [y0] at b0
  rw [y1] at b1
  exact ⟨hF, ik_c (fun hg => by
    have c0 := rl_lf (x := 240) (y := ρ.2.1 60033) (hg _ List.mem_cons_self)
    have z0 : (240 : Int64).toInt = 240 := rfl
    rw [z0] at c0
    exact wn_129 (p := 36) (q := 36) rfl et_36 b0 b1 (by show (decide ((ρ.2.1 60033).toInt ≤ 240) || _) = true; rw [decide_eq_true c0]; rfl)) (ik_c (fun hg => by
    have c0 := rl_lf (x := ρ.2.1 60033) (y := 254) (hg _ List.mem_cons_self)
    have z0 : (254 : Int64).toInt = 254 := rfl
    rw [z0] at c0
    exact wn_129 (p := 36) (q := 36) rfl et_36 b0 b1 (by
      show (_ || ([254, 255] : List Int).contains (ρ.2.1 60033).toInt) = true
      rw [Bool.or_eq_true, List.contains_iff_mem, List.mem_cons, List.mem_singleton]
      omega)) (ik_c (fun hg => by
    have c0 := rl_lf (x := ρ.2.1 60033) (y := 254) (hg _ List.mem_cons_self)
    have c1 := rl_ef (x := ρ.2.1 60033) (y := 254) (hg _ (List.mem_cons_of_mem _ List.mem_cons_self))
    have z0 : (254 : Int64).toInt = 254 := rfl
    rw [z0] at c0 c1
    exact dl_et (x := ρ.2.1 60033) (y := 255) (show _ = (255 : Int) by omega)) (hI)))⟩)
theorem e_wp36 : frun kR [] (cpl1 zWP (c_wp0 36) [q_wq36]) (cpl2 zWP (c_wp0 36) [q_wq36]) (cleaf kR zWP (c_wp0 36) [q_wq36]) 300 65536 (isatP ((c_wp0 36).2.2.2.1) (c_wp0 36).2.2.2.2.2.2.2.1) (c_wp0 36).2.2.2.2.2.2.2.1 (sin0 mt_all (c_wp0 36).1.1 8 (c_wp0 36).2.1.1 (foot zWP (c_wp0 36).2.2.1.1)) (sin0 mt_all (c_wp0 36).1.2.1 8 (c_wp0 36).2.1.2 (foot zWP (c_wp0 36).2.2.1.2)) = true := by decide +kernel
theorem s_wp36 {X : pX} : SREL X pF pdfl mt_all kR zWP (c_wp0 36) := SREL_QC kR_x kR_0 (Cs := []) (fun C hC => by cases hC) (d := 8) rfl (c_wp0_f 36) (Q := [q_wq36]) (fun ρ0 hv => fun q hq => by
    simp only [List.mem_cons, List.not_mem_nil, or_false] at hq
    rw [hq]; exact (t_wq36 hv : CUTOK X kR zWP c_wn0 8 ρ0 q_wq36)) (QC_run 300 e_wp36)
theorem et_40 : evt[40]? = some (0, 255, 7) := by decide +kernel
noncomputable def q_wR40 : sCut := ((fr 0 10 53 [] [], [fr 0 5 23 [(4, .int 0)] [], fBot], 7), (fr 0 281 150 [] [], [fr 0 277 91 [(3, .int 0)] [], fBot], 7), [((129, .int 40, .arg 60033), true)], [])
noncomputable def q_wq40 : sCut := ((fr 0 5 0 [(0, tr 57), (1, .int 40), (2, .arg 60033)] [], [fBot], 8), (fr 0 277 60 [(0, tr 219), (1, .arg 1308), (2, .int 40), (4, .arg 60033)] [], [fBot], 8), [zf98va_0, zf98va_1, zf98va_2, zf98va_3, zf98va_4, zf98va_5], [])
noncomputable def q_wq40i : sCut := ((fr 0 5 0 [(0, tr 57), (1, .int 40), (2, .arg 60033)] [], [fBot], 8), (fr 0 277 60 [(0, tr 219), (1, .arg 1308), (2, .int 40), (4, .arg 60033)] [], [fBot], 8), [zf98va_0, zf98va_1, zf98va_2, zf98va_3, zf98va_4, zf98va_5], [([((8, .long 240, .arg 60033), false)], (129, .int 40, .arg 60033), true), ([((8, .arg 60033, .long 254), false)], (129, .int 40, .arg 60033), true), zi98va_6])
noncomputable def w_wq40i : List (sCut × List (Nat × sT) × List (Nat × sT × List (sT × sT))) := [(q_wR40, [(60033, .arg 60033), (2848, .op2 .ior (.arg 2848) (.int 512)), (6850, .arg 6850), (6882, .int 0), (6914, .arg 6914), (6946, .arg 6946), (7362, .arg 7362), (7394, .int 0), (7426, .arg 7426), (7458, .arg 7458), (7874, .arg 7874), (7906, .arg 7906), (7938, .arg 7938), (7970, .arg 7970), (21216, .arg 21216), (21248, .arg 21248), (21280, .arg 21280), (21312, .arg 21312), (6466, .arg 6466), (6498, .arg 6498)], [(1761, .arg 1761, [(.int 40, .arg 60033)])])]
theorem k_wq40i : cbody kR [] (cpl1 zWP c_wn0 [q_wR40]) (cpl2 zWP c_wn0 [q_wR40]) (cleafB kR zWP c_wn0 w_wq40i) 1500 true true q_wq40i.2.2.1 q_wq40i.2.2.2 (cst zWP c_wn0.2.2.1.1 q_wq40i.1) (cst zWP c_wn0.2.2.1.2 q_wq40i.2.1) = true := by decide +kernel
theorem t_wq40i {X : pX} {ρ0 : sR} (hv : vok X ρ0) : CUTOK X kR zWP c_wn0 8 ρ0 q_wq40i := CUTOK_AT (fun ρ k1 hF hI k4 => AT_of (q := q_wq40i) rfl rfl (SEM_runB kR_x kR_0 (Cs := []) (fun C hC => by cases hC) c_wn0_f (Q := w_wq40i) hv 1500 (b1 := true) (b2 := true) k_wq40i k1 hF hI k4 (fun p hp ρ3 m1 m2 m3 m4 m5 m6 => by
  rw [List.mem_singleton.mp hp] at m2 m3 m5 m6 ⊢
  have y3 : ρ3.2.1 60033 = ρ.2.1 60033 := congrArg Prod.snd (m5 (60033, .arg 60033) List.mem_cons_self)
  have hA : ∀ j, ρ3.2.2.2.1 1761 j = if 40 = j then ρ.2.1 60033 else ρ.2.2.2.1 1761 j := fun j => ad_l (X := X) (p := 40) (t := .arg 60033) rfl (m6 _ List.mem_cons_self) j
  have hk : evk 40 (ρ.2.1 60033).toInt = true := by
    have h := m2.2 _ List.mem_cons_self
    rw [← y3]
    exact h
  have ea : ρ3.1 2848 = (sd X ρ (.op2 .ior (.arg 2848) (.int 512))).1 := congrArg Prod.fst (m5 (2848, .op2 .ior (.arg 2848) (.int 512)) (List.mem_cons_of_mem _ List.mem_cons_self))
  have eL : ρ3.1 60578 = ρ.1 60578 := (m4.1 60578 (by decide) (by decide)).1.trans (k4.1 60578 (by decide) (by decide)).1.symm
  have mo : sc X ρ3 (2, .op2 .iand (.op2 .iushr (.arg 2848) (.int 4)) (.int 1), .arg 60578) = false := by
    show decide (((ρ3.1 2848).toUInt32 >>> ((4 : Int32).toUInt32 &&& (31 : Int32).toUInt32)).toInt32 &&& 1 < ρ3.1 60578) = false
    rw [ea, eL]
    have q := tbv_ok (X := X) (ρ := ρ) (F := []) (a := .op2 .iand (.op2 .iushr (.op2 .ior (.arg 2848) (.int 512)) (.int 4)) (.int 1)) (b := .op2 .iand (.op2 .iushr (.arg 2848) (.int 4)) (.int 1)) ⟨hF.1, fun f hf => by cases hf⟩ (by decide +kernel)
    rw [sv_int rfl, sv_int rfl] at q
    exact mn_e (Value.int.inj q) (of_decide_eq_true (hF.2 _ (List.mem_cons_of_mem _ (List.mem_cons_of_mem _ (List.mem_cons_of_mem _ (List.mem_cons_of_mem _ (List.mem_cons_self)))))))
  exact t_wE0 hv ρ3 m1 ⟨m2.1, fcn (ev_nm (g := ρ.2.2.2.1 1761) (p := 40) (hF.2 _ (List.mem_cons_of_mem _ (List.mem_cons_of_mem _ (List.mem_cons_self)))) hk hA (by decide +kernel)) (fcn (pd_up (X := X) (p := 40) (c := 512) (z := [6882, 7394]) (hF.2 _ (List.mem_cons_of_mem _ (List.mem_cons_of_mem _ (List.mem_cons_of_mem _ (List.mem_cons_self))))) hA (fun x hx => m5 x (List.mem_cons_of_mem _ hx)) k4 m4 wm_0 wb_0 (by decide +kernel)) (fcn (mo) (fnl)))⟩ m3 m4)))
theorem t_wq40 {X : pX} {ρ0 : sR} (hv : vok X ρ0) : CUTOK X kR zWP c_wn0 8 ρ0 q_wq40 := CUT_mono (t_wq40i hv) (fun ρ hF hI => by
  have b0 := rl_lf (x := ρ.2.1 60033) (y := 0) (hF.2 _ (List.mem_cons_self))
  have b1 := rl_lf (x := 255) (y := ρ.2.1 60033) (hF.2 _ (List.mem_cons_of_mem _ (List.mem_cons_self)))
  have y0 : (0 : Int64).toInt = 0 := by decide +kernel
  have y1 : (255 : Int64).toInt = 255 := by decide +kernel
  rw [y0] at b0
  rw [y1] at b1
  exact ⟨hF, ik_c (fun hg => by
    have c0 := rl_lf (x := 240) (y := ρ.2.1 60033) (hg _ List.mem_cons_self)
    have z0 : (240 : Int64).toInt = 240 := rfl
    rw [z0] at c0
    exact wn_129 (p := 40) (q := 40) rfl et_40 b0 b1 (by show (decide ((ρ.2.1 60033).toInt ≤ 240) || _) = true; rw [decide_eq_true c0]; rfl)) (ik_c (fun hg => by
    have c0 := rl_lf (x := ρ.2.1 60033) (y := 254) (hg _ List.mem_cons_self)
    have z0 : (254 : Int64).toInt = 254 := rfl
    rw [z0] at c0
    exact wn_129 (p := 40) (q := 40) rfl et_40 b0 b1 (by
      show (_ || ([254, 255] : List Int).contains (ρ.2.1 60033).toInt) = true
      rw [Bool.or_eq_true, List.contains_iff_mem, List.mem_cons, List.mem_singleton]
      omega)) (ik_c (fun hg => by
    have c0 := rl_lf (x := ρ.2.1 60033) (y := 254) (hg _ List.mem_cons_self)
    have c1 := rl_ef (x := ρ.2.1 60033) (y := 254) (hg _ (List.mem_cons_of_mem _ List.mem_cons_self))
    have z0 : (254 : Int64).toInt = 254 := rfl
    rw [z0] at c0 c1
    exact dl_et (x := ρ.2.1 60033) (y := 255) (show _ = (255 : Int) by omega)) (hI)))⟩)
theorem e_wp40 : frun kR [] (cpl1 zWP (c_wp0 40) [q_wq40]) (cpl2 zWP (c_wp0 40) [q_wq40]) (cleaf kR zWP (c_wp0 40) [q_wq40]) 300 65536 (isatP ((c_wp0 40).2.2.2.1) (c_wp0 40).2.2.2.2.2.2.2.1) (c_wp0 40).2.2.2.2.2.2.2.1 (sin0 mt_all (c_wp0 40).1.1 8 (c_wp0 40).2.1.1 (foot zWP (c_wp0 40).2.2.1.1)) (sin0 mt_all (c_wp0 40).1.2.1 8 (c_wp0 40).2.1.2 (foot zWP (c_wp0 40).2.2.1.2)) = true := by decide +kernel
theorem s_wp40 {X : pX} : SREL X pF pdfl mt_all kR zWP (c_wp0 40) := SREL_QC kR_x kR_0 (Cs := []) (fun C hC => by cases hC) (d := 8) rfl (c_wp0_f 40) (Q := [q_wq40]) (fun ρ0 hv => fun q hq => by
    simp only [List.mem_cons, List.not_mem_nil, or_false] at hq
    rw [hq]; exact (t_wq40 hv : CUTOK X kR zWP c_wn0 8 ρ0 q_wq40)) (QC_run 300 e_wp40)
theorem et_44 : evt[44]? = some (0, 255, 7) := by decide +kernel
noncomputable def q_wR44 : sCut := ((fr 0 10 53 [] [], [fr 0 5 23 [(4, .int 0)] [], fBot], 7), (fr 0 281 150 [] [], [fr 0 277 91 [(3, .int 0)] [], fBot], 7), [((129, .int 44, .arg 60033), true)], [])
noncomputable def q_wq44 : sCut := ((fr 0 5 0 [(0, tr 57), (1, .int 44), (2, .arg 60033)] [], [fBot], 8), (fr 0 277 60 [(0, tr 219), (1, .arg 1308), (2, .int 44), (4, .arg 60033)] [], [fBot], 8), [zf98va_0, zf98va_1, zf98va_2, zf98va_3, zf98va_4, zf98va_5], [])
noncomputable def q_wq44i : sCut := ((fr 0 5 0 [(0, tr 57), (1, .int 44), (2, .arg 60033)] [], [fBot], 8), (fr 0 277 60 [(0, tr 219), (1, .arg 1308), (2, .int 44), (4, .arg 60033)] [], [fBot], 8), [zf98va_0, zf98va_1, zf98va_2, zf98va_3, zf98va_4, zf98va_5], [([((8, .long 240, .arg 60033), false)], (129, .int 44, .arg 60033), true), ([((8, .arg 60033, .long 254), false)], (129, .int 44, .arg 60033), true), zi98va_6])
noncomputable def w_wq44i : List (sCut × List (Nat × sT) × List (Nat × sT × List (sT × sT))) := [(q_wR44, [(60033, .arg 60033), (2848, .op2 .ior (.arg 2848) (.int 1024)), (6850, .arg 6850), (6882, .arg 6882), (6914, .int 0), (6946, .arg 6946), (7362, .arg 7362), (7394, .arg 7394), (7426, .int 0), (7458, .arg 7458), (7874, .arg 7874), (7906, .arg 7906), (7938, .arg 7938), (7970, .arg 7970), (21216, .arg 21216), (21248, .arg 21248), (21280, .arg 21280), (21312, .arg 21312), (6466, .arg 6466), (6498, .arg 6498)], [(1761, .arg 1761, [(.int 44, .arg 60033)])])]
theorem k_wq44i : cbody kR [] (cpl1 zWP c_wn0 [q_wR44]) (cpl2 zWP c_wn0 [q_wR44]) (cleafB kR zWP c_wn0 w_wq44i) 1500 true true q_wq44i.2.2.1 q_wq44i.2.2.2 (cst zWP c_wn0.2.2.1.1 q_wq44i.1) (cst zWP c_wn0.2.2.1.2 q_wq44i.2.1) = true := by decide +kernel
theorem t_wq44i {X : pX} {ρ0 : sR} (hv : vok X ρ0) : CUTOK X kR zWP c_wn0 8 ρ0 q_wq44i := CUTOK_AT (fun ρ k1 hF hI k4 => AT_of (q := q_wq44i) rfl rfl (SEM_runB kR_x kR_0 (Cs := []) (fun C hC => by cases hC) c_wn0_f (Q := w_wq44i) hv 1500 (b1 := true) (b2 := true) k_wq44i k1 hF hI k4 (fun p hp ρ3 m1 m2 m3 m4 m5 m6 => by
  rw [List.mem_singleton.mp hp] at m2 m3 m5 m6 ⊢
  have y3 : ρ3.2.1 60033 = ρ.2.1 60033 := congrArg Prod.snd (m5 (60033, .arg 60033) List.mem_cons_self)
  have hA : ∀ j, ρ3.2.2.2.1 1761 j = if 44 = j then ρ.2.1 60033 else ρ.2.2.2.1 1761 j := fun j => ad_l (X := X) (p := 44) (t := .arg 60033) rfl (m6 _ List.mem_cons_self) j
  have hk : evk 44 (ρ.2.1 60033).toInt = true := by
    have h := m2.2 _ List.mem_cons_self
    rw [← y3]
    exact h
  have ea : ρ3.1 2848 = (sd X ρ (.op2 .ior (.arg 2848) (.int 1024))).1 := congrArg Prod.fst (m5 (2848, .op2 .ior (.arg 2848) (.int 1024)) (List.mem_cons_of_mem _ List.mem_cons_self))
  have eL : ρ3.1 60578 = ρ.1 60578 := (m4.1 60578 (by decide) (by decide)).1.trans (k4.1 60578 (by decide) (by decide)).1.symm
  have mo : sc X ρ3 (2, .op2 .iand (.op2 .iushr (.arg 2848) (.int 4)) (.int 1), .arg 60578) = false := by
    show decide (((ρ3.1 2848).toUInt32 >>> ((4 : Int32).toUInt32 &&& (31 : Int32).toUInt32)).toInt32 &&& 1 < ρ3.1 60578) = false
    rw [ea, eL]
    have q := tbv_ok (X := X) (ρ := ρ) (F := []) (a := .op2 .iand (.op2 .iushr (.op2 .ior (.arg 2848) (.int 1024)) (.int 4)) (.int 1)) (b := .op2 .iand (.op2 .iushr (.arg 2848) (.int 4)) (.int 1)) ⟨hF.1, fun f hf => by cases hf⟩ (by decide +kernel)
    rw [sv_int rfl, sv_int rfl] at q
    exact mn_e (Value.int.inj q) (of_decide_eq_true (hF.2 _ (List.mem_cons_of_mem _ (List.mem_cons_of_mem _ (List.mem_cons_of_mem _ (List.mem_cons_of_mem _ (List.mem_cons_self)))))))
  exact t_wE0 hv ρ3 m1 ⟨m2.1, fcn (ev_nm (g := ρ.2.2.2.1 1761) (p := 44) (hF.2 _ (List.mem_cons_of_mem _ (List.mem_cons_of_mem _ (List.mem_cons_self)))) hk hA (by decide +kernel)) (fcn (pd_up (X := X) (p := 44) (c := 1024) (z := [6914, 7426]) (hF.2 _ (List.mem_cons_of_mem _ (List.mem_cons_of_mem _ (List.mem_cons_of_mem _ (List.mem_cons_self))))) hA (fun x hx => m5 x (List.mem_cons_of_mem _ hx)) k4 m4 wm_0 wb_0 (by decide +kernel)) (fcn (mo) (fnl)))⟩ m3 m4)))
theorem t_wq44 {X : pX} {ρ0 : sR} (hv : vok X ρ0) : CUTOK X kR zWP c_wn0 8 ρ0 q_wq44 := CUT_mono (t_wq44i hv) (fun ρ hF hI => by
  have b0 := rl_lf (x := ρ.2.1 60033) (y := 0) (hF.2 _ (List.mem_cons_self))
  have b1 := rl_lf (x := 255) (y := ρ.2.1 60033) (hF.2 _ (List.mem_cons_of_mem _ (List.mem_cons_self)))
  have y0 : (0 : Int64).toInt = 0 := by decide +kernel
  have y1 : (255 : Int64).toInt = 255 := by decide +kernel
  rw [y0] at b0
  rw [y1] at b1
  exact ⟨hF, ik_c (fun hg => by
    have c0 := rl_lf (x := 240) (y := ρ.2.1 60033) (hg _ List.mem_cons_self)
    have z0 : (240 : Int64).toInt = 240 := rfl
    rw [z0] at c0
    exact wn_129 (p := 44) (q := 44) rfl et_44 b0 b1 (by show (decide ((ρ.2.1 60033).toInt ≤ 240) || _) = true; rw [decide_eq_true c0]; rfl)) (ik_c (fun hg => by
    have c0 := rl_lf (x := ρ.2.1 60033) (y := 254) (hg _ List.mem_cons_self)
    have z0 : (254 : Int64).toInt = 254 := rfl
    rw [z0] at c0
    exact wn_129 (p := 44) (q := 44) rfl et_44 b0 b1 (by
      show (_ || ([254, 255] : List Int).contains (ρ.2.1 60033).toInt) = true
      rw [Bool.or_eq_true, List.contains_iff_mem, List.mem_cons, List.mem_singleton]
      omega)) (ik_c (fun hg => by
    have c0 := rl_lf (x := ρ.2.1 60033) (y := 254) (hg _ List.mem_cons_self)
    have c1 := rl_ef (x := ρ.2.1 60033) (y := 254) (hg _ (List.mem_cons_of_mem _ List.mem_cons_self))
    have z0 : (254 : Int64).toInt = 254 := rfl
    rw [z0] at c0 c1
    exact dl_et (x := ρ.2.1 60033) (y := 255) (show _ = (255 : Int) by omega)) (hI)))⟩)
theorem e_wp44 : frun kR [] (cpl1 zWP (c_wp0 44) [q_wq44]) (cpl2 zWP (c_wp0 44) [q_wq44]) (cleaf kR zWP (c_wp0 44) [q_wq44]) 300 65536 (isatP ((c_wp0 44).2.2.2.1) (c_wp0 44).2.2.2.2.2.2.2.1) (c_wp0 44).2.2.2.2.2.2.2.1 (sin0 mt_all (c_wp0 44).1.1 8 (c_wp0 44).2.1.1 (foot zWP (c_wp0 44).2.2.1.1)) (sin0 mt_all (c_wp0 44).1.2.1 8 (c_wp0 44).2.1.2 (foot zWP (c_wp0 44).2.2.1.2)) = true := by decide +kernel
theorem s_wp44 {X : pX} : SREL X pF pdfl mt_all kR zWP (c_wp0 44) := SREL_QC kR_x kR_0 (Cs := []) (fun C hC => by cases hC) (d := 8) rfl (c_wp0_f 44) (Q := [q_wq44]) (fun ρ0 hv => fun q hq => by
    simp only [List.mem_cons, List.not_mem_nil, or_false] at hq
    rw [hq]; exact (t_wq44 hv : CUTOK X kR zWP c_wn0 8 ρ0 q_wq44)) (QC_run 300 e_wp44)
theorem et_48 : evt[48]? = some (0, 255, 7) := by decide +kernel
noncomputable def q_wR48 : sCut := ((fr 0 10 53 [] [], [fr 0 5 23 [(4, .int 0)] [], fBot], 7), (fr 0 281 150 [] [], [fr 0 277 91 [(3, .int 0)] [], fBot], 7), [((129, .int 48, .arg 60033), true)], [])
noncomputable def q_wq48 : sCut := ((fr 0 5 0 [(0, tr 57), (1, .int 48), (2, .arg 60033)] [], [fBot], 8), (fr 0 277 60 [(0, tr 219), (1, .arg 1308), (2, .int 48), (4, .arg 60033)] [], [fBot], 8), [zf98va_0, zf98va_1, zf98va_2, zf98va_3, zf98va_4, zf98va_5], [])
noncomputable def q_wq48i : sCut := ((fr 0 5 0 [(0, tr 57), (1, .int 48), (2, .arg 60033)] [], [fBot], 8), (fr 0 277 60 [(0, tr 219), (1, .arg 1308), (2, .int 48), (4, .arg 60033)] [], [fBot], 8), [zf98va_0, zf98va_1, zf98va_2, zf98va_3, zf98va_4, zf98va_5], [([((8, .long 240, .arg 60033), false)], (129, .int 48, .arg 60033), true), ([((8, .arg 60033, .long 254), false)], (129, .int 48, .arg 60033), true), zi98va_6])
noncomputable def w_wq48i : List (sCut × List (Nat × sT) × List (Nat × sT × List (sT × sT))) := [(q_wR48, [(60033, .arg 60033), (2848, .op2 .ior (.arg 2848) (.int 2048)), (6850, .arg 6850), (6882, .arg 6882), (6914, .arg 6914), (6946, .int 0), (7362, .arg 7362), (7394, .arg 7394), (7426, .arg 7426), (7458, .int 0), (7874, .arg 7874), (7906, .arg 7906), (7938, .arg 7938), (7970, .arg 7970), (21216, .arg 21216), (21248, .arg 21248), (21280, .arg 21280), (21312, .arg 21312), (6466, .arg 6466), (6498, .arg 6498)], [(1761, .arg 1761, [(.int 48, .arg 60033)])])]
theorem k_wq48i : cbody kR [] (cpl1 zWP c_wn0 [q_wR48]) (cpl2 zWP c_wn0 [q_wR48]) (cleafB kR zWP c_wn0 w_wq48i) 1500 true true q_wq48i.2.2.1 q_wq48i.2.2.2 (cst zWP c_wn0.2.2.1.1 q_wq48i.1) (cst zWP c_wn0.2.2.1.2 q_wq48i.2.1) = true := by decide +kernel
theorem t_wq48i {X : pX} {ρ0 : sR} (hv : vok X ρ0) : CUTOK X kR zWP c_wn0 8 ρ0 q_wq48i := CUTOK_AT (fun ρ k1 hF hI k4 => AT_of (q := q_wq48i) rfl rfl (SEM_runB kR_x kR_0 (Cs := []) (fun C hC => by cases hC) c_wn0_f (Q := w_wq48i) hv 1500 (b1 := true) (b2 := true) k_wq48i k1 hF hI k4 (fun p hp ρ3 m1 m2 m3 m4 m5 m6 => by
  rw [List.mem_singleton.mp hp] at m2 m3 m5 m6 ⊢
  have y3 : ρ3.2.1 60033 = ρ.2.1 60033 := congrArg Prod.snd (m5 (60033, .arg 60033) List.mem_cons_self)
  have hA : ∀ j, ρ3.2.2.2.1 1761 j = if 48 = j then ρ.2.1 60033 else ρ.2.2.2.1 1761 j := fun j => ad_l (X := X) (p := 48) (t := .arg 60033) rfl (m6 _ List.mem_cons_self) j
  have hk : evk 48 (ρ.2.1 60033).toInt = true := by
    have h := m2.2 _ List.mem_cons_self
    rw [← y3]
    exact h
  have ea : ρ3.1 2848 = (sd X ρ (.op2 .ior (.arg 2848) (.int 2048))).1 := congrArg Prod.fst (m5 (2848, .op2 .ior (.arg 2848) (.int 2048)) (List.mem_cons_of_mem _ List.mem_cons_self))
  have eL : ρ3.1 60578 = ρ.1 60578 := (m4.1 60578 (by decide) (by decide)).1.trans (k4.1 60578 (by decide) (by decide)).1.symm
  have mo : sc X ρ3 (2, .op2 .iand (.op2 .iushr (.arg 2848) (.int 4)) (.int 1), .arg 60578) = false := by
    show decide (((ρ3.1 2848).toUInt32 >>> ((4 : Int32).toUInt32 &&& (31 : Int32).toUInt32)).toInt32 &&& 1 < ρ3.1 60578) = false
    rw [ea, eL]
    have q := tbv_ok (X := X) (ρ := ρ) (F := []) (a := .op2 .iand (.op2 .iushr (.op2 .ior (.arg 2848) (.int 2048)) (.int 4)) (.int 1)) (b := .op2 .iand (.op2 .iushr (.arg 2848) (.int 4)) (.int 1)) ⟨hF.1, fun f hf => by cases hf⟩ (by decide +kernel)
    rw [sv_int rfl, sv_int rfl] at q
    exact mn_e (Value.int.inj q) (of_decide_eq_true (hF.2 _ (List.mem_cons_of_mem _ (List.mem_cons_of_mem _ (List.mem_cons_of_mem _ (List.mem_cons_of_mem _ (List.mem_cons_self)))))))
  exact t_wE0 hv ρ3 m1 ⟨m2.1, fcn (ev_nm (g := ρ.2.2.2.1 1761) (p := 48) (hF.2 _ (List.mem_cons_of_mem _ (List.mem_cons_of_mem _ (List.mem_cons_self)))) hk hA (by decide +kernel)) (fcn (pd_up (X := X) (p := 48) (c := 2048) (z := [6946, 7458]) (hF.2 _ (List.mem_cons_of_mem _ (List.mem_cons_of_mem _ (List.mem_cons_of_mem _ (List.mem_cons_self))))) hA (fun x hx => m5 x (List.mem_cons_of_mem _ hx)) k4 m4 wm_0 wb_0 (by decide +kernel)) (fcn (mo) (fnl)))⟩ m3 m4)))
theorem t_wq48 {X : pX} {ρ0 : sR} (hv : vok X ρ0) : CUTOK X kR zWP c_wn0 8 ρ0 q_wq48 := CUT_mono (t_wq48i hv) (fun ρ hF hI => by
  have b0 := rl_lf (x := ρ.2.1 60033) (y := 0) (hF.2 _ (List.mem_cons_self))
  have b1 := rl_lf (x := 255) (y := ρ.2.1 60033) (hF.2 _ (List.mem_cons_of_mem _ (List.mem_cons_self)))
  have y0 : (0 : Int64).toInt = 0 := by decide +kernel
  have y1 : (255 : Int64).toInt = 255 := by decide +kernel
  rw [y0] at b0
  rw [y1] at b1
  exact ⟨hF, ik_c (fun hg => by
    have c0 := rl_lf (x := 240) (y := ρ.2.1 60033) (hg _ List.mem_cons_self)
    have z0 : (240 : Int64).toInt = 240 := rfl
    rw [z0] at c0
    exact wn_129 (p := 48) (q := 48) rfl et_48 b0 b1 (by show (decide ((ρ.2.1 60033).toInt ≤ 240) || _) = true; rw [decide_eq_true c0]; rfl)) (ik_c (fun hg => by
    have c0 := rl_lf (x := ρ.2.1 60033) (y := 254) (hg _ List.mem_cons_self)
    have z0 : (254 : Int64).toInt = 254 := rfl
    rw [z0] at c0
    exact wn_129 (p := 48) (q := 48) rfl et_48 b0 b1 (by
      show (_ || ([254, 255] : List Int).contains (ρ.2.1 60033).toInt) = true
      rw [Bool.or_eq_true, List.contains_iff_mem, List.mem_cons, List.mem_singleton]
      omega)) (ik_c (fun hg => by
    have c0 := rl_lf (x := ρ.2.1 60033) (y := 254) (hg _ List.mem_cons_self)
    have c1 := rl_ef (x := ρ.2.1 60033) (y := 254) (hg _ (List.mem_cons_of_mem _ List.mem_cons_self))
    have z0 : (254 : Int64).toInt = 254 := rfl
    rw [z0] at c0 c1
    exact dl_et (x := ρ.2.1 60033) (y := 255) (show _ = (255 : Int) by omega)) (hI)))⟩)
theorem e_wp48 : frun kR [] (cpl1 zWP (c_wp0 48) [q_wq48]) (cpl2 zWP (c_wp0 48) [q_wq48]) (cleaf kR zWP (c_wp0 48) [q_wq48]) 300 65536 (isatP ((c_wp0 48).2.2.2.1) (c_wp0 48).2.2.2.2.2.2.2.1) (c_wp0 48).2.2.2.2.2.2.2.1 (sin0 mt_all (c_wp0 48).1.1 8 (c_wp0 48).2.1.1 (foot zWP (c_wp0 48).2.2.1.1)) (sin0 mt_all (c_wp0 48).1.2.1 8 (c_wp0 48).2.1.2 (foot zWP (c_wp0 48).2.2.1.2)) = true := by decide +kernel
theorem s_wp48 {X : pX} : SREL X pF pdfl mt_all kR zWP (c_wp0 48) := SREL_QC kR_x kR_0 (Cs := []) (fun C hC => by cases hC) (d := 8) rfl (c_wp0_f 48) (Q := [q_wq48]) (fun ρ0 hv => fun q hq => by
    simp only [List.mem_cons, List.not_mem_nil, or_false] at hq
    rw [hq]; exact (t_wq48 hv : CUTOK X kR zWP c_wn0 8 ρ0 q_wq48)) (QC_run 300 e_wp48)
theorem et_50 : evt[50]? = some (0, 4, 0) := by decide +kernel
noncomputable def q_wR50 : sCut := ((fr 0 10 53 [] [], [fr 0 5 23 [(4, .int 0)] [], fBot], 7), (fr 0 281 150 [] [], [fr 0 277 91 [(3, .int 0)] [], fBot], 7), [((129, .int 50, .arg 60033), true)], [])
noncomputable def zf98va_7 : sQ × Bool := ((6, .op2 .land (.elem (.arg 1761) (.int 35)) (.long 2147483648), .long 0), false)
noncomputable def zi98va_8 : sFs × sQ × Bool := ([((6, .op2 .land (.elem (.arg 1761) (.int 35)) (.long 2147483648), .long 0), false)], (6, .op2 .land (.op2 .lshr (.elem (.arg 1761) (.int 35)) (.int 31)) (.long 1), .long 1), true)
noncomputable def zi98va_9 : sFs × sQ × Bool := ([((6, .op2 .land (.elem (.arg 1761) (.int 35)) (.long 2147483648), .long 0), true)], (6, .op2 .land (.op2 .lshr (.elem (.arg 1761) (.int 35)) (.int 31)) (.long 1), .long 0), true)
noncomputable def zi98va_10 : sFs × sQ × Bool := ([((8, .long 4, .arg 60033), false)], (129, .int 50, .arg 60033), true)
noncomputable def q_wv50i : sCut := ((fr 0 5 0 [(0, tr 57), (1, .int 50), (2, .arg 60033)] [], [fBot], 8), (fr 0 277 60 [(0, tr 219), (1, .arg 1308), (2, .int 50), (4, .arg 60033)] [], [fBot], 8), [zf98va_7, zf98va_0, zf98va_1, zf98va_2, zf98va_3, zf98va_4, zf98va_5], [zi98va_8, zi98va_9, zi98va_10])
noncomputable def zf98va_11 : sQ × Bool := ((109, .add (.int 5632) (.int 1), .add (.int 50) (.int 1)), true)
noncomputable def zf98va_12 : sQ × Bool := ((109, .add (.int 5632) (.int 2), .add (.int 50) (.int 2)), true)
noncomputable def zf98va_13 : sQ × Bool := ((109, .add (.int 5632) (.int 3), .add (.int 50) (.int 3)), true)
noncomputable def zf98va_14 : sQ × Bool := ((109, .add (.int 5632) (.int 4), .add (.int 50) (.int 4)), true)
noncomputable def q_wv50io : sCut := ((fr 0 5 0 [(0, tr 57), (1, .int 50), (2, .arg 60033)] [], [fBot], 8), (fr 0 277 60 [(0, tr 219), (1, .arg 1308), (2, .int 50), (4, .arg 60033)] [], [fBot], 8), [((139, .add (.elem (.arg 1761) (.int 0)) (.add (.int 50) (.arg 60033)), .int 0), true), zf98va_11, zf98va_12, zf98va_13, zf98va_14, zf98va_7, zf98va_0, zf98va_1, zf98va_2, zf98va_3, zf98va_4, zf98va_5], [zi98va_8, zi98va_9, zi98va_10])
noncomputable def w_wv50io : List (sCut × List (Nat × sT) × List (Nat × sT × List (sT × sT))) := [(q_wR50, [(60033, .arg 60033), (2848, .op2 .ior (.arg 2848) (.int 256)), (6850, .int 0), (6882, .arg 6882), (6914, .arg 6914), (6946, .arg 6946), (7362, .int 0), (7394, .arg 7394), (7426, .arg 7426), (7458, .arg 7458), (7874, .arg 7874), (7906, .arg 7906), (7938, .arg 7938), (7970, .arg 7970), (21216, .arg 21216), (21248, .arg 21248), (21280, .arg 21280), (21312, .arg 21312), (6466, .arg 6466), (6498, .arg 6498)], [(1761, .arg 1761, [(.int 50, .arg 60033)])])]
theorem k_wv50io : cbody kR [(zWP, c_mapo)] (cpl1 zWP c_wn0 [q_wR50]) (cpl2 zWP c_wn0 [q_wR50]) (cleafB kR zWP c_wn0 w_wv50io) 1500 true true q_wv50io.2.2.1 q_wv50io.2.2.2 (cst zWP c_wn0.2.2.1.1 q_wv50io.1) (cst zWP c_wn0.2.2.1.2 q_wv50io.2.1) = true := by decide +kernel
theorem t_wv50io {X : pX} {ρ0 : sR} (hv : vok X ρ0) : CUTOK X kR zWP c_wn0 8 ρ0 q_wv50io := CUTOK_AT (fun ρ k1 hF hI k4 => AT_of (q := q_wv50io) rfl rfl (SEM_runB kR_x kR_0 (Cs := [(zWP, c_mapo)]) (fun C hC => by rw [List.mem_singleton.mp hC]; exact s_mapo) c_wn0_f (Q := w_wv50io) hv 1500 (b1 := true) (b2 := true) k_wv50io k1 hF hI k4 (fun p hp ρ3 m1 m2 m3 m4 m5 m6 => by
  rw [List.mem_singleton.mp hp] at m2 m3 m5 m6 ⊢
  have y3 : ρ3.2.1 60033 = ρ.2.1 60033 := congrArg Prod.snd (m5 (60033, .arg 60033) List.mem_cons_self)
  have hA : ∀ j, ρ3.2.2.2.1 1761 j = if 50 = j then ρ.2.1 60033 else ρ.2.2.2.1 1761 j := fun j => ad_l (X := X) (p := 50) (t := .arg 60033) rfl (m6 _ List.mem_cons_self) j
  have hk : evk 50 (ρ.2.1 60033).toInt = true := by
    have h := m2.2 _ List.mem_cons_self
    rw [← y3]
    exact h
  have hc : (0 : Int) = amcode (ρ.2.2.2.1 1761) 50 (ρ.2.1 60033).toInt.toNat := of_decide_eq_true (hF.2 _ (List.mem_cons_self))
  have ea : ρ3.1 2848 = (sd X ρ (.op2 .ior (.arg 2848) (.int 256))).1 := congrArg Prod.fst (m5 (2848, .op2 .ior (.arg 2848) (.int 256)) (List.mem_cons_of_mem _ List.mem_cons_self))
  have eL : ρ3.1 60578 = ρ.1 60578 := (m4.1 60578 (by decide) (by decide)).1.trans (k4.1 60578 (by decide) (by decide)).1.symm
  have mo : sc X ρ3 (2, .op2 .iand (.op2 .iushr (.arg 2848) (.int 4)) (.int 1), .arg 60578) = false := by
    show decide (((ρ3.1 2848).toUInt32 >>> ((4 : Int32).toUInt32 &&& (31 : Int32).toUInt32)).toInt32 &&& 1 < ρ3.1 60578) = false
    rw [ea, eL]
    have q := tbv_ok (X := X) (ρ := ρ) (F := []) (a := .op2 .iand (.op2 .iushr (.op2 .ior (.arg 2848) (.int 256)) (.int 4)) (.int 1)) (b := .op2 .iand (.op2 .iushr (.arg 2848) (.int 4)) (.int 1)) ⟨hF.1, fun f hf => by cases hf⟩ (by decide +kernel)
    rw [sv_int rfl, sv_int rfl] at q
    exact mn_e (Value.int.inj q) (of_decide_eq_true (hF.2 _ (List.mem_cons_of_mem _ (List.mem_cons_of_mem _ (List.mem_cons_of_mem _ (List.mem_cons_of_mem _ (List.mem_cons_of_mem _ (List.mem_cons_of_mem _ (List.mem_cons_of_mem _ (List.mem_cons_of_mem _ (List.mem_cons_of_mem _ (List.mem_cons_of_mem _ (List.mem_cons_self)))))))))))))
  exact t_wE0 hv ρ3 m1 ⟨m2.1, fcn (ev_ct (g := ρ.2.2.2.1 1761) (m := 50) (hF.2 _ (List.mem_cons_of_mem _ (List.mem_cons_of_mem _ (List.mem_cons_of_mem _ (List.mem_cons_of_mem _ (List.mem_cons_of_mem _ (List.mem_cons_of_mem _ (List.mem_cons_of_mem _ (List.mem_cons_of_mem _ (List.mem_cons_self)))))))))) hk hA hc.symm (by decide +kernel)) (fcn (pd_up (X := X) (p := 50) (c := 256) (z := [6850, 7362]) (hF.2 _ (List.mem_cons_of_mem _ (List.mem_cons_of_mem _ (List.mem_cons_of_mem _ (List.mem_cons_of_mem _ (List.mem_cons_of_mem _ (List.mem_cons_of_mem _ (List.mem_cons_of_mem _ (List.mem_cons_of_mem _ (List.mem_cons_of_mem _ (List.mem_cons_self))))))))))) hA (fun x hx => m5 x (List.mem_cons_of_mem _ hx)) k4 m4 wm_0 wb_0 (by decide +kernel)) (fcn (mo) (fnl)))⟩ m3 m4)))
noncomputable def q_wv50in : sCut := ((fr 0 5 0 [(0, tr 57), (1, .int 50), (2, .arg 60033)] [], [fBot], 8), (fr 0 277 60 [(0, tr 219), (1, .arg 1308), (2, .int 50), (4, .arg 60033)] [], [fBot], 8), [((139, .add (.elem (.arg 1761) (.int 0)) (.add (.int 50) (.arg 60033)), .int 100925505), true), zf98va_11, zf98va_12, zf98va_13, zf98va_14, zf98va_7, zf98va_0, zf98va_1, zf98va_2, zf98va_3, zf98va_4, zf98va_5], [zi98va_8, zi98va_9, zi98va_10])
theorem k_wv50in : cbody kR [(zWP, c_mapn)] (cpl1 zWP c_wn0 []) (cpl2 zWP c_wn0 []) (cleaf kR zWP c_wn0 []) 1500 true true q_wv50in.2.2.1 q_wv50in.2.2.2 (cst zWP c_wn0.2.2.1.1 q_wv50in.1) (cst zWP c_wn0.2.2.1.2 q_wv50in.2.1) = true := by decide +kernel
theorem t_wv50in {X : pX} {ρ0 : sR} (hv : vok X ρ0) : CUTOK X kR zWP c_wn0 8 ρ0 q_wv50in := CUT_run kR_x kR_0 (Cs := [(zWP, c_mapn)]) (fun C hC => by rw [List.mem_singleton.mp hC]; exact s_mapn) c_wn0_f (Q := []) hv (fun q hq => by cases hq) 1500 (b1 := true) (b2 := true) k_wv50in
noncomputable def q_wv50il : sCut := ((fr 0 5 0 [(0, tr 57), (1, .int 50), (2, .arg 60033)] [], [fBot], 8), (fr 0 277 60 [(0, tr 219), (1, .arg 1308), (2, .int 50), (4, .arg 60033)] [], [fBot], 8), [((139, .add (.elem (.arg 1761) (.int 0)) (.add (.int 50) (.arg 60033)), .int 100925506), true), zf98va_11, zf98va_12, zf98va_13, zf98va_14, zf98va_7, zf98va_0, zf98va_1, zf98va_2, zf98va_3, zf98va_4, zf98va_5], [zi98va_8, zi98va_9, zi98va_10])
theorem k_wv50il : cbody kR [(zWP, c_mapl)] (cpl1 zWP c_wn0 []) (cpl2 zWP c_wn0 []) (cleaf kR zWP c_wn0 []) 1500 true true q_wv50il.2.2.1 q_wv50il.2.2.2 (cst zWP c_wn0.2.2.1.1 q_wv50il.1) (cst zWP c_wn0.2.2.1.2 q_wv50il.2.1) = true := by decide +kernel
theorem t_wv50il {X : pX} {ρ0 : sR} (hv : vok X ρ0) : CUTOK X kR zWP c_wn0 8 ρ0 q_wv50il := CUT_run kR_x kR_0 (Cs := [(zWP, c_mapl)]) (fun C hC => by rw [List.mem_singleton.mp hC]; exact s_mapl) c_wn0_f (Q := []) hv (fun q hq => by cases hq) 1500 (b1 := true) (b2 := true) k_wv50il
theorem t_wv50i {X : pX} {ρ0 : sR} (hv : vok X ρ0) : CUTOK X kR zWP c_wn0 8 ρ0 q_wv50i := fun ρ k1 hF hI k4 => by
  have mm : sc X ρ (109, .add (.int 5632) (.int 1), .add (.int 50) (.int 1)) = true ∧ sc X ρ (109, .add (.int 5632) (.int 2), .add (.int 50) (.int 2)) = true ∧ sc X ρ (109, .add (.int 5632) (.int 3), .add (.int 50) (.int 3)) = true ∧ sc X ρ (109, .add (.int 5632) (.int 4), .add (.int 50) (.int 4)) = true := ⟨wn_9 (by decide +kernel), wn_9 (by decide +kernel), wn_9 (by decide +kernel), wn_9 (by decide +kernel)⟩
  rcases am_3 (g := ρ.2.2.2.1 1761) (m := 50) (n := (ρ.2.1 60033).toInt.toNat) with h | h | h
  · exact t_wv50io hv ρ k1 ⟨hF.1, fcn (decide_eq_true h.symm) (fcn (mm.1) (fcn (mm.2.1) (fcn (mm.2.2.1) (fcn (mm.2.2.2) (hF.2)))))⟩ hI k4
  · exact t_wv50in hv ρ k1 ⟨hF.1, fcn (decide_eq_true h.symm) (fcn (mm.1) (fcn (mm.2.1) (fcn (mm.2.2.1) (fcn (mm.2.2.2) (hF.2)))))⟩ hI k4
  · exact t_wv50il hv ρ k1 ⟨hF.1, fcn (decide_eq_true h.symm) (fcn (mm.1) (fcn (mm.2.1) (fcn (mm.2.2.1) (fcn (mm.2.2.2) (hF.2)))))⟩ hI k4
noncomputable def q_wv50 : sCut := ((fr 0 5 0 [(0, tr 57), (1, .int 50), (2, .arg 60033)] [], [fBot], 8), (fr 0 277 60 [(0, tr 219), (1, .arg 1308), (2, .int 50), (4, .arg 60033)] [], [fBot], 8), [zf98va_7, zf98va_0, zf98va_1, zf98va_2, zf98va_3, zf98va_4, zf98va_5], [])
theorem t_wv50 {X : pX} {ρ0 : sR} (hv : vok X ρ0) : CUTOK X kR zWP c_wn0 8 ρ0 q_wv50 := CUT_mono (t_wv50i hv) (fun ρ hF hI => by
  have b0 := rl_lf (x := ρ.2.1 60033) (y := 0) (hF.2 _ (List.mem_cons_of_mem _ (List.mem_cons_self)))
  have b1 := rl_lf (x := 255) (y := ρ.2.1 60033) (hF.2 _ (List.mem_cons_of_mem _ (List.mem_cons_of_mem _ (List.mem_cons_self))))
  have y0 : (0 : Int64).toInt = 0 := by decide +kernel
  have y1 : (255 : Int64).toInt = 255 := by decide +kernel
  rw [y0] at b0
  rw [y1] at b1
  exact ⟨hF, ik_c (fun hg => decide_eq_true (of_1 (x := ρ.2.2.2.1 1761 35) (of_decide_eq_false (hg _ List.mem_cons_self)))) (ik_c (fun hg => decide_eq_true (of_0 (x := ρ.2.2.2.1 1761 35) (of_decide_eq_true (hg _ List.mem_cons_self)))) (ik_c (fun hg => by
    have c1 := rl_lf (x := 4) (y := ρ.2.1 60033) (hg _ List.mem_cons_self)
    have z1 : (4 : Int64).toInt = 4 := rfl
    rw [z1] at c1
    exact wn_129 (p := 50) (q := 50) rfl et_50 b0 c1 rfl) (hI)))⟩)
noncomputable def zf98va_15 : sQ × Bool := ((0, .arg 19328, .int 1), true)
noncomputable def zf98va_16 : sQ × Bool := ((6, .op2 .lor (.op2 .lshl (.op1 .i2l (.elem (.arg 2212) (.int 0))) (.int 0)) (.long 0), .arg 60033), true)
noncomputable def q_wq50 : sCut := ((fr 0 5 0 [(0, tr 57), (1, .int 50), (2, .arg 60033)] [], [fBot], 8), (fr 0 277 35 [(0, tr 219), (1, .arg 1308), (2, .int 50)] [], [fBot], 8), [zf98va_15, zf98va_16, zf98va_0, zf98va_1, zf98va_2, zf98va_3, zf98va_4, zf98va_5], [])
noncomputable def q_wq50i : sCut := ((fr 0 5 0 [(0, tr 57), (1, .int 50), (2, .arg 60033)] [], [fBot], 8), (fr 0 277 35 [(0, tr 219), (1, .arg 1308), (2, .int 50)] [], [fBot], 8), [zf98va_15, zf98va_16, zf98va_0, zf98va_1, zf98va_2, zf98va_3, zf98va_4, zf98va_5], [zi98va_8, zi98va_9, zi98va_10])
noncomputable def q_wq50iy : sCut := ((fr 0 5 0 [(0, tr 57), (1, .int 50), (2, .arg 60033)] [], [fBot], 8), (fr 0 277 35 [(0, tr 219), (1, .arg 1308), (2, .int 50)] [], [fBot], 8), [((6, .op2 .land (.elem (.arg 1761) (.int 35)) (.long 2147483648), .long 0), true), zf98va_15, zf98va_16, zf98va_0, zf98va_1, zf98va_2, zf98va_3, zf98va_4, zf98va_5], [zi98va_8, zi98va_9, zi98va_10])
theorem k_wq50iy : cbody kR [] (cpl1 zWP c_wn0 []) (cpl2 zWP c_wn0 []) (cleaf kR zWP c_wn0 []) 1500 true true q_wq50iy.2.2.1 q_wq50iy.2.2.2 (cst zWP c_wn0.2.2.1.1 q_wq50iy.1) (cst zWP c_wn0.2.2.1.2 q_wq50iy.2.1) = true := by decide +kernel
theorem t_wq50iy {X : pX} {ρ0 : sR} (hv : vok X ρ0) : CUTOK X kR zWP c_wn0 8 ρ0 q_wq50iy := CUT_run kR_x kR_0 (Cs := []) (fun C hC => by cases hC) c_wn0_f (Q := []) hv (fun q hq => by cases hq) 1500 (b1 := true) (b2 := true) k_wq50iy
noncomputable def q_wq50in : sCut := ((fr 0 5 0 [(0, tr 57), (1, .int 50), (2, .arg 60033)] [], [fBot], 8), (fr 0 277 35 [(0, tr 219), (1, .arg 1308), (2, .int 50)] [], [fBot], 8), [((6, .op2 .land (.op2 .lshr (.elem (.arg 1761) (.int 35)) (.int 31)) (.long 1), .long 1), true), zf98va_7, zf98va_15, zf98va_16, zf98va_0, zf98va_1, zf98va_2, zf98va_3, zf98va_4, zf98va_5], [zi98va_8, zi98va_9, zi98va_10])
theorem k_wq50in : cbody kR [] (cpl1 zWP c_wn0 [q_wv50]) (cpl2 zWP c_wn0 [q_wv50]) (cleaf kR zWP c_wn0 [q_wv50]) 1500 false true q_wq50in.2.2.1 q_wq50in.2.2.2 (cst zWP c_wn0.2.2.1.1 q_wq50in.1) (cst zWP c_wn0.2.2.1.2 q_wq50in.2.1) = true := by decide +kernel
theorem t_wq50in {X : pX} {ρ0 : sR} (hv : vok X ρ0) : CUTOK X kR zWP c_wn0 8 ρ0 q_wq50in := CUT_run kR_x kR_0 (Cs := []) (fun C hC => by cases hC) c_wn0_f (Q := [q_wv50]) hv (fun q hq => by
    simp only [List.mem_cons, List.not_mem_nil, or_false] at hq
    rw [hq]; exact t_wv50 hv) 1500 (b1 := false) (b2 := true) k_wq50in
theorem t_wq50i {X : pX} {ρ0 : sR} (hv : vok X ρ0) : CUTOK X kR zWP c_wn0 8 ρ0 q_wq50i := CUT_split (6, .op2 .land (.elem (.arg 1761) (.int 35)) (.long 2147483648), .long 0) (t_wq50iy hv) (CUT_mono (t_wq50in hv) (fun ρ hF hI => ⟨⟨hF.1, by
    exact fcn (decide_eq_true (of_1 (x := ρ.2.2.2.1 1761 35) (of_decide_eq_false (hF.2 _ List.mem_cons_self)))) hF.2⟩, hI⟩))
theorem t_wq50 {X : pX} {ρ0 : sR} (hv : vok X ρ0) : CUTOK X kR zWP c_wn0 8 ρ0 q_wq50 := CUT_mono (t_wq50i hv) (fun ρ hF hI => by
  have b0 := rl_lf (x := ρ.2.1 60033) (y := 0) (hF.2 _ (List.mem_cons_of_mem _ (List.mem_cons_of_mem _ (List.mem_cons_self))))
  have b1 := rl_lf (x := 255) (y := ρ.2.1 60033) (hF.2 _ (List.mem_cons_of_mem _ (List.mem_cons_of_mem _ (List.mem_cons_of_mem _ (List.mem_cons_self)))))
  have y0 : (0 : Int64).toInt = 0 := by decide +kernel
  have y1 : (255 : Int64).toInt = 255 := by decide +kernel
  rw [y0] at b0
  rw [y1] at b1
  exact ⟨hF, ik_c (fun hg => decide_eq_true (of_1 (x := ρ.2.2.2.1 1761 35) (of_decide_eq_false (hg _ List.mem_cons_self)))) (ik_c (fun hg => decide_eq_true (of_0 (x := ρ.2.2.2.1 1761 35) (of_decide_eq_true (hg _ List.mem_cons_self)))) (ik_c (fun hg => by
    have c1 := rl_lf (x := 4) (y := ρ.2.1 60033) (hg _ List.mem_cons_self)
    have z1 : (4 : Int64).toInt = 4 := rfl
    rw [z1] at c1
    exact wn_129 (p := 50) (q := 50) rfl et_50 b0 c1 rfl) (hI)))⟩)
theorem e_wp50 : frun kR [] (cpl1 zWP (c_wp0 50) [q_wq50]) (cpl2 zWP (c_wp0 50) [q_wq50]) (cleaf kR zWP (c_wp0 50) [q_wq50]) 300 65536 (isatP ((c_wp0 50).2.2.2.1) (c_wp0 50).2.2.2.2.2.2.2.1) (c_wp0 50).2.2.2.2.2.2.2.1 (sin0 mt_all (c_wp0 50).1.1 8 (c_wp0 50).2.1.1 (foot zWP (c_wp0 50).2.2.1.1)) (sin0 mt_all (c_wp0 50).1.2.1 8 (c_wp0 50).2.1.2 (foot zWP (c_wp0 50).2.2.1.2)) = true := by decide +kernel
theorem s_wp50 {X : pX} : SREL X pF pdfl mt_all kR zWP (c_wp0 50) := SREL_QC kR_x kR_0 (Cs := []) (fun C hC => by cases hC) (d := 8) rfl (c_wp0_f 50) (Q := [q_wq50]) (fun ρ0 hv => fun q hq => by
    simp only [List.mem_cons, List.not_mem_nil, or_false] at hq
    rw [hq]; exact (t_wq50 hv : CUTOK X kR zWP c_wn0 8 ρ0 q_wq50)) (QC_run 300 e_wp50)
theorem et_55 : evt[55]? = some (0, 4, 0) := by decide +kernel
noncomputable def q_wR55 : sCut := ((fr 0 10 53 [] [], [fr 0 5 23 [(4, .int 0)] [], fBot], 7), (fr 0 281 150 [] [], [fr 0 277 91 [(3, .int 0)] [], fBot], 7), [((129, .int 55, .arg 60033), true)], [])
noncomputable def zf98va_17 : sQ × Bool := ((6, .op2 .land (.elem (.arg 1761) (.int 39)) (.long 2147483648), .long 0), false)
noncomputable def zi98va_18 : sFs × sQ × Bool := ([((6, .op2 .land (.elem (.arg 1761) (.int 39)) (.long 2147483648), .long 0), false)], (6, .op2 .land (.op2 .lshr (.elem (.arg 1761) (.int 39)) (.int 31)) (.long 1), .long 1), true)
noncomputable def zi98va_19 : sFs × sQ × Bool := ([((6, .op2 .land (.elem (.arg 1761) (.int 39)) (.long 2147483648), .long 0), true)], (6, .op2 .land (.op2 .lshr (.elem (.arg 1761) (.int 39)) (.int 31)) (.long 1), .long 0), true)
noncomputable def zi98va_20 : sFs × sQ × Bool := ([((8, .long 4, .arg 60033), false)], (129, .int 55, .arg 60033), true)
noncomputable def q_wv55i : sCut := ((fr 0 5 0 [(0, tr 57), (1, .int 55), (2, .arg 60033)] [], [fBot], 8), (fr 0 277 60 [(0, tr 219), (1, .arg 1308), (2, .int 55), (4, .arg 60033)] [], [fBot], 8), [zf98va_17, zf98va_0, zf98va_1, zf98va_2, zf98va_3, zf98va_4, zf98va_5], [zi98va_18, zi98va_19, zi98va_20])
noncomputable def zf98va_21 : sQ × Bool := ((109, .add (.int 5633) (.int 1), .add (.int 55) (.int 1)), true)
noncomputable def zf98va_22 : sQ × Bool := ((109, .add (.int 5633) (.int 2), .add (.int 55) (.int 2)), true)
noncomputable def zf98va_23 : sQ × Bool := ((109, .add (.int 5633) (.int 3), .add (.int 55) (.int 3)), true)
noncomputable def zf98va_24 : sQ × Bool := ((109, .add (.int 5633) (.int 4), .add (.int 55) (.int 4)), true)
noncomputable def q_wv55io : sCut := ((fr 0 5 0 [(0, tr 57), (1, .int 55), (2, .arg 60033)] [], [fBot], 8), (fr 0 277 60 [(0, tr 219), (1, .arg 1308), (2, .int 55), (4, .arg 60033)] [], [fBot], 8), [((139, .add (.elem (.arg 1761) (.int 0)) (.add (.int 55) (.arg 60033)), .int 0), true), zf98va_21, zf98va_22, zf98va_23, zf98va_24, zf98va_17, zf98va_0, zf98va_1, zf98va_2, zf98va_3, zf98va_4, zf98va_5], [zi98va_18, zi98va_19, zi98va_20])
noncomputable def w_wv55io : List (sCut × List (Nat × sT) × List (Nat × sT × List (sT × sT))) := [(q_wR55, [(60033, .arg 60033), (2848, .op2 .ior (.arg 2848) (.int 512)), (6850, .arg 6850), (6882, .int 0), (6914, .arg 6914), (6946, .arg 6946), (7362, .arg 7362), (7394, .int 0), (7426, .arg 7426), (7458, .arg 7458), (7874, .arg 7874), (7906, .arg 7906), (7938, .arg 7938), (7970, .arg 7970), (21216, .arg 21216), (21248, .arg 21248), (21280, .arg 21280), (21312, .arg 21312), (6466, .arg 6466), (6498, .arg 6498)], [(1761, .arg 1761, [(.int 55, .arg 60033)])])]
theorem k_wv55io : cbody kR [(zWP, c_mapo)] (cpl1 zWP c_wn0 [q_wR55]) (cpl2 zWP c_wn0 [q_wR55]) (cleafB kR zWP c_wn0 w_wv55io) 1500 true true q_wv55io.2.2.1 q_wv55io.2.2.2 (cst zWP c_wn0.2.2.1.1 q_wv55io.1) (cst zWP c_wn0.2.2.1.2 q_wv55io.2.1) = true := by decide +kernel
theorem t_wv55io {X : pX} {ρ0 : sR} (hv : vok X ρ0) : CUTOK X kR zWP c_wn0 8 ρ0 q_wv55io := CUTOK_AT (fun ρ k1 hF hI k4 => AT_of (q := q_wv55io) rfl rfl (SEM_runB kR_x kR_0 (Cs := [(zWP, c_mapo)]) (fun C hC => by rw [List.mem_singleton.mp hC]; exact s_mapo) c_wn0_f (Q := w_wv55io) hv 1500 (b1 := true) (b2 := true) k_wv55io k1 hF hI k4 (fun p hp ρ3 m1 m2 m3 m4 m5 m6 => by
  rw [List.mem_singleton.mp hp] at m2 m3 m5 m6 ⊢
  have y3 : ρ3.2.1 60033 = ρ.2.1 60033 := congrArg Prod.snd (m5 (60033, .arg 60033) List.mem_cons_self)
  have hA : ∀ j, ρ3.2.2.2.1 1761 j = if 55 = j then ρ.2.1 60033 else ρ.2.2.2.1 1761 j := fun j => ad_l (X := X) (p := 55) (t := .arg 60033) rfl (m6 _ List.mem_cons_self) j
  have hk : evk 55 (ρ.2.1 60033).toInt = true := by
    have h := m2.2 _ List.mem_cons_self
    rw [← y3]
    exact h
  have hc : (0 : Int) = amcode (ρ.2.2.2.1 1761) 55 (ρ.2.1 60033).toInt.toNat := of_decide_eq_true (hF.2 _ (List.mem_cons_self))
  have ea : ρ3.1 2848 = (sd X ρ (.op2 .ior (.arg 2848) (.int 512))).1 := congrArg Prod.fst (m5 (2848, .op2 .ior (.arg 2848) (.int 512)) (List.mem_cons_of_mem _ List.mem_cons_self))
  have eL : ρ3.1 60578 = ρ.1 60578 := (m4.1 60578 (by decide) (by decide)).1.trans (k4.1 60578 (by decide) (by decide)).1.symm
  have mo : sc X ρ3 (2, .op2 .iand (.op2 .iushr (.arg 2848) (.int 4)) (.int 1), .arg 60578) = false := by
    show decide (((ρ3.1 2848).toUInt32 >>> ((4 : Int32).toUInt32 &&& (31 : Int32).toUInt32)).toInt32 &&& 1 < ρ3.1 60578) = false
    rw [ea, eL]
    have q := tbv_ok (X := X) (ρ := ρ) (F := []) (a := .op2 .iand (.op2 .iushr (.op2 .ior (.arg 2848) (.int 512)) (.int 4)) (.int 1)) (b := .op2 .iand (.op2 .iushr (.arg 2848) (.int 4)) (.int 1)) ⟨hF.1, fun f hf => by cases hf⟩ (by decide +kernel)
    rw [sv_int rfl, sv_int rfl] at q
    exact mn_e (Value.int.inj q) (of_decide_eq_true (hF.2 _ (List.mem_cons_of_mem _ (List.mem_cons_of_mem _ (List.mem_cons_of_mem _ (List.mem_cons_of_mem _ (List.mem_cons_of_mem _ (List.mem_cons_of_mem _ (List.mem_cons_of_mem _ (List.mem_cons_of_mem _ (List.mem_cons_of_mem _ (List.mem_cons_of_mem _ (List.mem_cons_self)))))))))))))
  exact t_wE0 hv ρ3 m1 ⟨m2.1, fcn (ev_ct (g := ρ.2.2.2.1 1761) (m := 55) (hF.2 _ (List.mem_cons_of_mem _ (List.mem_cons_of_mem _ (List.mem_cons_of_mem _ (List.mem_cons_of_mem _ (List.mem_cons_of_mem _ (List.mem_cons_of_mem _ (List.mem_cons_of_mem _ (List.mem_cons_of_mem _ (List.mem_cons_self)))))))))) hk hA hc.symm (by decide +kernel)) (fcn (pd_up (X := X) (p := 55) (c := 512) (z := [6882, 7394]) (hF.2 _ (List.mem_cons_of_mem _ (List.mem_cons_of_mem _ (List.mem_cons_of_mem _ (List.mem_cons_of_mem _ (List.mem_cons_of_mem _ (List.mem_cons_of_mem _ (List.mem_cons_of_mem _ (List.mem_cons_of_mem _ (List.mem_cons_of_mem _ (List.mem_cons_self))))))))))) hA (fun x hx => m5 x (List.mem_cons_of_mem _ hx)) k4 m4 wm_0 wb_0 (by decide +kernel)) (fcn (mo) (fnl)))⟩ m3 m4)))
noncomputable def q_wv55in : sCut := ((fr 0 5 0 [(0, tr 57), (1, .int 55), (2, .arg 60033)] [], [fBot], 8), (fr 0 277 60 [(0, tr 219), (1, .arg 1308), (2, .int 55), (4, .arg 60033)] [], [fBot], 8), [((139, .add (.elem (.arg 1761) (.int 0)) (.add (.int 55) (.arg 60033)), .int 100925505), true), zf98va_21, zf98va_22, zf98va_23, zf98va_24, zf98va_17, zf98va_0, zf98va_1, zf98va_2, zf98va_3, zf98va_4, zf98va_5], [zi98va_18, zi98va_19, zi98va_20])
theorem k_wv55in : cbody kR [(zWP, c_mapn)] (cpl1 zWP c_wn0 []) (cpl2 zWP c_wn0 []) (cleaf kR zWP c_wn0 []) 1500 true true q_wv55in.2.2.1 q_wv55in.2.2.2 (cst zWP c_wn0.2.2.1.1 q_wv55in.1) (cst zWP c_wn0.2.2.1.2 q_wv55in.2.1) = true := by decide +kernel
theorem t_wv55in {X : pX} {ρ0 : sR} (hv : vok X ρ0) : CUTOK X kR zWP c_wn0 8 ρ0 q_wv55in := CUT_run kR_x kR_0 (Cs := [(zWP, c_mapn)]) (fun C hC => by rw [List.mem_singleton.mp hC]; exact s_mapn) c_wn0_f (Q := []) hv (fun q hq => by cases hq) 1500 (b1 := true) (b2 := true) k_wv55in
noncomputable def q_wv55il : sCut := ((fr 0 5 0 [(0, tr 57), (1, .int 55), (2, .arg 60033)] [], [fBot], 8), (fr 0 277 60 [(0, tr 219), (1, .arg 1308), (2, .int 55), (4, .arg 60033)] [], [fBot], 8), [((139, .add (.elem (.arg 1761) (.int 0)) (.add (.int 55) (.arg 60033)), .int 100925506), true), zf98va_21, zf98va_22, zf98va_23, zf98va_24, zf98va_17, zf98va_0, zf98va_1, zf98va_2, zf98va_3, zf98va_4, zf98va_5], [zi98va_18, zi98va_19, zi98va_20])
theorem k_wv55il : cbody kR [(zWP, c_mapl)] (cpl1 zWP c_wn0 []) (cpl2 zWP c_wn0 []) (cleaf kR zWP c_wn0 []) 1500 true true q_wv55il.2.2.1 q_wv55il.2.2.2 (cst zWP c_wn0.2.2.1.1 q_wv55il.1) (cst zWP c_wn0.2.2.1.2 q_wv55il.2.1) = true := by decide +kernel
theorem t_wv55il {X : pX} {ρ0 : sR} (hv : vok X ρ0) : CUTOK X kR zWP c_wn0 8 ρ0 q_wv55il := CUT_run kR_x kR_0 (Cs := [(zWP, c_mapl)]) (fun C hC => by rw [List.mem_singleton.mp hC]; exact s_mapl) c_wn0_f (Q := []) hv (fun q hq => by cases hq) 1500 (b1 := true) (b2 := true) k_wv55il
theorem t_wv55i {X : pX} {ρ0 : sR} (hv : vok X ρ0) : CUTOK X kR zWP c_wn0 8 ρ0 q_wv55i := fun ρ k1 hF hI k4 => by
  have mm : sc X ρ (109, .add (.int 5633) (.int 1), .add (.int 55) (.int 1)) = true ∧ sc X ρ (109, .add (.int 5633) (.int 2), .add (.int 55) (.int 2)) = true ∧ sc X ρ (109, .add (.int 5633) (.int 3), .add (.int 55) (.int 3)) = true ∧ sc X ρ (109, .add (.int 5633) (.int 4), .add (.int 55) (.int 4)) = true := ⟨wn_9 (by decide +kernel), wn_9 (by decide +kernel), wn_9 (by decide +kernel), wn_9 (by decide +kernel)⟩
  rcases am_3 (g := ρ.2.2.2.1 1761) (m := 55) (n := (ρ.2.1 60033).toInt.toNat) with h | h | h
  · exact t_wv55io hv ρ k1 ⟨hF.1, fcn (decide_eq_true h.symm) (fcn (mm.1) (fcn (mm.2.1) (fcn (mm.2.2.1) (fcn (mm.2.2.2) (hF.2)))))⟩ hI k4
  · exact t_wv55in hv ρ k1 ⟨hF.1, fcn (decide_eq_true h.symm) (fcn (mm.1) (fcn (mm.2.1) (fcn (mm.2.2.1) (fcn (mm.2.2.2) (hF.2)))))⟩ hI k4
  · exact t_wv55il hv ρ k1 ⟨hF.1, fcn (decide_eq_true h.symm) (fcn (mm.1) (fcn (mm.2.1) (fcn (mm.2.2.1) (fcn (mm.2.2.2) (hF.2)))))⟩ hI k4
noncomputable def q_wv55 : sCut := ((fr 0 5 0 [(0, tr 57), (1, .int 55), (2, .arg 60033)] [], [fBot], 8), (fr 0 277 60 [(0, tr 219), (1, .arg 1308), (2, .int 55), (4, .arg 60033)] [], [fBot], 8), [zf98va_17, zf98va_0, zf98va_1, zf98va_2, zf98va_3, zf98va_4, zf98va_5], [])
theorem t_wv55 {X : pX} {ρ0 : sR} (hv : vok X ρ0) : CUTOK X kR zWP c_wn0 8 ρ0 q_wv55 := CUT_mono (t_wv55i hv) (fun ρ hF hI => by
  have b0 := rl_lf (x := ρ.2.1 60033) (y := 0) (hF.2 _ (List.mem_cons_of_mem _ (List.mem_cons_self)))
  have b1 := rl_lf (x := 255) (y := ρ.2.1 60033) (hF.2 _ (List.mem_cons_of_mem _ (List.mem_cons_of_mem _ (List.mem_cons_self))))
  have y0 : (0 : Int64).toInt = 0 := by decide +kernel
  have y1 : (255 : Int64).toInt = 255 := by decide +kernel
  rw [y0] at b0
  rw [y1] at b1
  exact ⟨hF, ik_c (fun hg => decide_eq_true (of_1 (x := ρ.2.2.2.1 1761 39) (of_decide_eq_false (hg _ List.mem_cons_self)))) (ik_c (fun hg => decide_eq_true (of_0 (x := ρ.2.2.2.1 1761 39) (of_decide_eq_true (hg _ List.mem_cons_self)))) (ik_c (fun hg => by
    have c1 := rl_lf (x := 4) (y := ρ.2.1 60033) (hg _ List.mem_cons_self)
    have z1 : (4 : Int64).toInt = 4 := rfl
    rw [z1] at c1
    exact wn_129 (p := 55) (q := 55) rfl et_55 b0 c1 rfl) (hI)))⟩)
noncomputable def q_wq55 : sCut := ((fr 0 5 0 [(0, tr 57), (1, .int 55), (2, .arg 60033)] [], [fBot], 8), (fr 0 277 35 [(0, tr 219), (1, .arg 1308), (2, .int 55)] [], [fBot], 8), [zf98va_15, zf98va_16, zf98va_0, zf98va_1, zf98va_2, zf98va_3, zf98va_4, zf98va_5], [])
noncomputable def q_wq55i : sCut := ((fr 0 5 0 [(0, tr 57), (1, .int 55), (2, .arg 60033)] [], [fBot], 8), (fr 0 277 35 [(0, tr 219), (1, .arg 1308), (2, .int 55)] [], [fBot], 8), [zf98va_15, zf98va_16, zf98va_0, zf98va_1, zf98va_2, zf98va_3, zf98va_4, zf98va_5], [zi98va_18, zi98va_19, zi98va_20])
noncomputable def q_wq55iy : sCut := ((fr 0 5 0 [(0, tr 57), (1, .int 55), (2, .arg 60033)] [], [fBot], 8), (fr 0 277 35 [(0, tr 219), (1, .arg 1308), (2, .int 55)] [], [fBot], 8), [((6, .op2 .land (.elem (.arg 1761) (.int 39)) (.long 2147483648), .long 0), true), zf98va_15, zf98va_16, zf98va_0, zf98va_1, zf98va_2, zf98va_3, zf98va_4, zf98va_5], [zi98va_18, zi98va_19, zi98va_20])
theorem k_wq55iy : cbody kR [] (cpl1 zWP c_wn0 []) (cpl2 zWP c_wn0 []) (cleaf kR zWP c_wn0 []) 1500 true true q_wq55iy.2.2.1 q_wq55iy.2.2.2 (cst zWP c_wn0.2.2.1.1 q_wq55iy.1) (cst zWP c_wn0.2.2.1.2 q_wq55iy.2.1) = true := by decide +kernel
theorem t_wq55iy {X : pX} {ρ0 : sR} (hv : vok X ρ0) : CUTOK X kR zWP c_wn0 8 ρ0 q_wq55iy := CUT_run kR_x kR_0 (Cs := []) (fun C hC => by cases hC) c_wn0_f (Q := []) hv (fun q hq => by cases hq) 1500 (b1 := true) (b2 := true) k_wq55iy
noncomputable def q_wq55in : sCut := ((fr 0 5 0 [(0, tr 57), (1, .int 55), (2, .arg 60033)] [], [fBot], 8), (fr 0 277 35 [(0, tr 219), (1, .arg 1308), (2, .int 55)] [], [fBot], 8), [((6, .op2 .land (.op2 .lshr (.elem (.arg 1761) (.int 39)) (.int 31)) (.long 1), .long 1), true), zf98va_17, zf98va_15, zf98va_16, zf98va_0, zf98va_1, zf98va_2, zf98va_3, zf98va_4, zf98va_5], [zi98va_18, zi98va_19, zi98va_20])
theorem k_wq55in : cbody kR [] (cpl1 zWP c_wn0 [q_wv55]) (cpl2 zWP c_wn0 [q_wv55]) (cleaf kR zWP c_wn0 [q_wv55]) 1500 false true q_wq55in.2.2.1 q_wq55in.2.2.2 (cst zWP c_wn0.2.2.1.1 q_wq55in.1) (cst zWP c_wn0.2.2.1.2 q_wq55in.2.1) = true := by decide +kernel
theorem t_wq55in {X : pX} {ρ0 : sR} (hv : vok X ρ0) : CUTOK X kR zWP c_wn0 8 ρ0 q_wq55in := CUT_run kR_x kR_0 (Cs := []) (fun C hC => by cases hC) c_wn0_f (Q := [q_wv55]) hv (fun q hq => by
    simp only [List.mem_cons, List.not_mem_nil, or_false] at hq
    rw [hq]; exact t_wv55 hv) 1500 (b1 := false) (b2 := true) k_wq55in
theorem t_wq55i {X : pX} {ρ0 : sR} (hv : vok X ρ0) : CUTOK X kR zWP c_wn0 8 ρ0 q_wq55i := CUT_split (6, .op2 .land (.elem (.arg 1761) (.int 39)) (.long 2147483648), .long 0) (t_wq55iy hv) (CUT_mono (t_wq55in hv) (fun ρ hF hI => ⟨⟨hF.1, by
    exact fcn (decide_eq_true (of_1 (x := ρ.2.2.2.1 1761 39) (of_decide_eq_false (hF.2 _ List.mem_cons_self)))) hF.2⟩, hI⟩))
theorem t_wq55 {X : pX} {ρ0 : sR} (hv : vok X ρ0) : CUTOK X kR zWP c_wn0 8 ρ0 q_wq55 := CUT_mono (t_wq55i hv) (fun ρ hF hI => by
  have b0 := rl_lf (x := ρ.2.1 60033) (y := 0) (hF.2 _ (List.mem_cons_of_mem _ (List.mem_cons_of_mem _ (List.mem_cons_self))))
  have b1 := rl_lf (x := 255) (y := ρ.2.1 60033) (hF.2 _ (List.mem_cons_of_mem _ (List.mem_cons_of_mem _ (List.mem_cons_of_mem _ (List.mem_cons_self)))))
  have y0 : (0 : Int64).toInt = 0 := by decide +kernel
  have y1 : (255 : Int64).toInt = 255 := by decide +kernel
  rw [y0] at b0
  rw [y1] at b1
  exact ⟨hF, ik_c (fun hg => decide_eq_true (of_1 (x := ρ.2.2.2.1 1761 39) (of_decide_eq_false (hg _ List.mem_cons_self)))) (ik_c (fun hg => decide_eq_true (of_0 (x := ρ.2.2.2.1 1761 39) (of_decide_eq_true (hg _ List.mem_cons_self)))) (ik_c (fun hg => by
    have c1 := rl_lf (x := 4) (y := ρ.2.1 60033) (hg _ List.mem_cons_self)
    have z1 : (4 : Int64).toInt = 4 := rfl
    rw [z1] at c1
    exact wn_129 (p := 55) (q := 55) rfl et_55 b0 c1 rfl) (hI)))⟩)
theorem e_wp55 : frun kR [] (cpl1 zWP (c_wp0 55) [q_wq55]) (cpl2 zWP (c_wp0 55) [q_wq55]) (cleaf kR zWP (c_wp0 55) [q_wq55]) 300 65536 (isatP ((c_wp0 55).2.2.2.1) (c_wp0 55).2.2.2.2.2.2.2.1) (c_wp0 55).2.2.2.2.2.2.2.1 (sin0 mt_all (c_wp0 55).1.1 8 (c_wp0 55).2.1.1 (foot zWP (c_wp0 55).2.2.1.1)) (sin0 mt_all (c_wp0 55).1.2.1 8 (c_wp0 55).2.1.2 (foot zWP (c_wp0 55).2.2.1.2)) = true := by decide +kernel
theorem s_wp55 {X : pX} : SREL X pF pdfl mt_all kR zWP (c_wp0 55) := SREL_QC kR_x kR_0 (Cs := []) (fun C hC => by cases hC) (d := 8) rfl (c_wp0_f 55) (Q := [q_wq55]) (fun ρ0 hv => fun q hq => by
    simp only [List.mem_cons, List.not_mem_nil, or_false] at hq
    rw [hq]; exact (t_wq55 hv : CUTOK X kR zWP c_wn0 8 ρ0 q_wq55)) (QC_run 300 e_wp55)
theorem et_60 : evt[60]? = some (0, 4, 0) := by decide +kernel
noncomputable def q_wR60 : sCut := ((fr 0 10 53 [] [], [fr 0 5 23 [(4, .int 0)] [], fBot], 7), (fr 0 281 150 [] [], [fr 0 277 91 [(3, .int 0)] [], fBot], 7), [((129, .int 60, .arg 60033), true)], [])
noncomputable def zf98va_25 : sQ × Bool := ((6, .op2 .land (.elem (.arg 1761) (.int 43)) (.long 2147483648), .long 0), false)
noncomputable def zi98va_26 : sFs × sQ × Bool := ([((6, .op2 .land (.elem (.arg 1761) (.int 43)) (.long 2147483648), .long 0), false)], (6, .op2 .land (.op2 .lshr (.elem (.arg 1761) (.int 43)) (.int 31)) (.long 1), .long 1), true)
noncomputable def zi98va_27 : sFs × sQ × Bool := ([((6, .op2 .land (.elem (.arg 1761) (.int 43)) (.long 2147483648), .long 0), true)], (6, .op2 .land (.op2 .lshr (.elem (.arg 1761) (.int 43)) (.int 31)) (.long 1), .long 0), true)
noncomputable def zi98va_28 : sFs × sQ × Bool := ([((8, .long 4, .arg 60033), false)], (129, .int 60, .arg 60033), true)
noncomputable def q_wv60i : sCut := ((fr 0 5 0 [(0, tr 57), (1, .int 60), (2, .arg 60033)] [], [fBot], 8), (fr 0 277 60 [(0, tr 219), (1, .arg 1308), (2, .int 60), (4, .arg 60033)] [], [fBot], 8), [zf98va_25, zf98va_0, zf98va_1, zf98va_2, zf98va_3, zf98va_4, zf98va_5], [zi98va_26, zi98va_27, zi98va_28])
noncomputable def zf98va_29 : sQ × Bool := ((109, .add (.int 5634) (.int 1), .add (.int 60) (.int 1)), true)
noncomputable def zf98va_30 : sQ × Bool := ((109, .add (.int 5634) (.int 2), .add (.int 60) (.int 2)), true)
noncomputable def zf98va_31 : sQ × Bool := ((109, .add (.int 5634) (.int 3), .add (.int 60) (.int 3)), true)
noncomputable def zf98va_32 : sQ × Bool := ((109, .add (.int 5634) (.int 4), .add (.int 60) (.int 4)), true)
noncomputable def q_wv60io : sCut := ((fr 0 5 0 [(0, tr 57), (1, .int 60), (2, .arg 60033)] [], [fBot], 8), (fr 0 277 60 [(0, tr 219), (1, .arg 1308), (2, .int 60), (4, .arg 60033)] [], [fBot], 8), [((139, .add (.elem (.arg 1761) (.int 0)) (.add (.int 60) (.arg 60033)), .int 0), true), zf98va_29, zf98va_30, zf98va_31, zf98va_32, zf98va_25, zf98va_0, zf98va_1, zf98va_2, zf98va_3, zf98va_4, zf98va_5], [zi98va_26, zi98va_27, zi98va_28])
noncomputable def w_wv60io : List (sCut × List (Nat × sT) × List (Nat × sT × List (sT × sT))) := [(q_wR60, [(60033, .arg 60033), (2848, .op2 .ior (.arg 2848) (.int 1024)), (6850, .arg 6850), (6882, .arg 6882), (6914, .int 0), (6946, .arg 6946), (7362, .arg 7362), (7394, .arg 7394), (7426, .int 0), (7458, .arg 7458), (7874, .arg 7874), (7906, .arg 7906), (7938, .arg 7938), (7970, .arg 7970), (21216, .arg 21216), (21248, .arg 21248), (21280, .arg 21280), (21312, .arg 21312), (6466, .arg 6466), (6498, .arg 6498)], [(1761, .arg 1761, [(.int 60, .arg 60033)])])]
theorem k_wv60io : cbody kR [(zWP, c_mapo)] (cpl1 zWP c_wn0 [q_wR60]) (cpl2 zWP c_wn0 [q_wR60]) (cleafB kR zWP c_wn0 w_wv60io) 1500 true true q_wv60io.2.2.1 q_wv60io.2.2.2 (cst zWP c_wn0.2.2.1.1 q_wv60io.1) (cst zWP c_wn0.2.2.1.2 q_wv60io.2.1) = true := by decide +kernel
theorem t_wv60io {X : pX} {ρ0 : sR} (hv : vok X ρ0) : CUTOK X kR zWP c_wn0 8 ρ0 q_wv60io := CUTOK_AT (fun ρ k1 hF hI k4 => AT_of (q := q_wv60io) rfl rfl (SEM_runB kR_x kR_0 (Cs := [(zWP, c_mapo)]) (fun C hC => by rw [List.mem_singleton.mp hC]; exact s_mapo) c_wn0_f (Q := w_wv60io) hv 1500 (b1 := true) (b2 := true) k_wv60io k1 hF hI k4 (fun p hp ρ3 m1 m2 m3 m4 m5 m6 => by
  rw [List.mem_singleton.mp hp] at m2 m3 m5 m6 ⊢
  have y3 : ρ3.2.1 60033 = ρ.2.1 60033 := congrArg Prod.snd (m5 (60033, .arg 60033) List.mem_cons_self)
  have hA : ∀ j, ρ3.2.2.2.1 1761 j = if 60 = j then ρ.2.1 60033 else ρ.2.2.2.1 1761 j := fun j => ad_l (X := X) (p := 60) (t := .arg 60033) rfl (m6 _ List.mem_cons_self) j
  have hk : evk 60 (ρ.2.1 60033).toInt = true := by
    have h := m2.2 _ List.mem_cons_self
    rw [← y3]
    exact h
  have hc : (0 : Int) = amcode (ρ.2.2.2.1 1761) 60 (ρ.2.1 60033).toInt.toNat := of_decide_eq_true (hF.2 _ (List.mem_cons_self))
  have ea : ρ3.1 2848 = (sd X ρ (.op2 .ior (.arg 2848) (.int 1024))).1 := congrArg Prod.fst (m5 (2848, .op2 .ior (.arg 2848) (.int 1024)) (List.mem_cons_of_mem _ List.mem_cons_self))
  have eL : ρ3.1 60578 = ρ.1 60578 := (m4.1 60578 (by decide) (by decide)).1.trans (k4.1 60578 (by decide) (by decide)).1.symm
  have mo : sc X ρ3 (2, .op2 .iand (.op2 .iushr (.arg 2848) (.int 4)) (.int 1), .arg 60578) = false := by
    show decide (((ρ3.1 2848).toUInt32 >>> ((4 : Int32).toUInt32 &&& (31 : Int32).toUInt32)).toInt32 &&& 1 < ρ3.1 60578) = false
    rw [ea, eL]
    have q := tbv_ok (X := X) (ρ := ρ) (F := []) (a := .op2 .iand (.op2 .iushr (.op2 .ior (.arg 2848) (.int 1024)) (.int 4)) (.int 1)) (b := .op2 .iand (.op2 .iushr (.arg 2848) (.int 4)) (.int 1)) ⟨hF.1, fun f hf => by cases hf⟩ (by decide +kernel)
    rw [sv_int rfl, sv_int rfl] at q
    exact mn_e (Value.int.inj q) (of_decide_eq_true (hF.2 _ (List.mem_cons_of_mem _ (List.mem_cons_of_mem _ (List.mem_cons_of_mem _ (List.mem_cons_of_mem _ (List.mem_cons_of_mem _ (List.mem_cons_of_mem _ (List.mem_cons_of_mem _ (List.mem_cons_of_mem _ (List.mem_cons_of_mem _ (List.mem_cons_of_mem _ (List.mem_cons_self)))))))))))))
  exact t_wE0 hv ρ3 m1 ⟨m2.1, fcn (ev_ct (g := ρ.2.2.2.1 1761) (m := 60) (hF.2 _ (List.mem_cons_of_mem _ (List.mem_cons_of_mem _ (List.mem_cons_of_mem _ (List.mem_cons_of_mem _ (List.mem_cons_of_mem _ (List.mem_cons_of_mem _ (List.mem_cons_of_mem _ (List.mem_cons_of_mem _ (List.mem_cons_self)))))))))) hk hA hc.symm (by decide +kernel)) (fcn (pd_up (X := X) (p := 60) (c := 1024) (z := [6914, 7426]) (hF.2 _ (List.mem_cons_of_mem _ (List.mem_cons_of_mem _ (List.mem_cons_of_mem _ (List.mem_cons_of_mem _ (List.mem_cons_of_mem _ (List.mem_cons_of_mem _ (List.mem_cons_of_mem _ (List.mem_cons_of_mem _ (List.mem_cons_of_mem _ (List.mem_cons_self))))))))))) hA (fun x hx => m5 x (List.mem_cons_of_mem _ hx)) k4 m4 wm_0 wb_0 (by decide +kernel)) (fcn (mo) (fnl)))⟩ m3 m4)))
noncomputable def q_wv60in : sCut := ((fr 0 5 0 [(0, tr 57), (1, .int 60), (2, .arg 60033)] [], [fBot], 8), (fr 0 277 60 [(0, tr 219), (1, .arg 1308), (2, .int 60), (4, .arg 60033)] [], [fBot], 8), [((139, .add (.elem (.arg 1761) (.int 0)) (.add (.int 60) (.arg 60033)), .int 100925505), true), zf98va_29, zf98va_30, zf98va_31, zf98va_32, zf98va_25, zf98va_0, zf98va_1, zf98va_2, zf98va_3, zf98va_4, zf98va_5], [zi98va_26, zi98va_27, zi98va_28])
theorem k_wv60in : cbody kR [(zWP, c_mapn)] (cpl1 zWP c_wn0 []) (cpl2 zWP c_wn0 []) (cleaf kR zWP c_wn0 []) 1500 true true q_wv60in.2.2.1 q_wv60in.2.2.2 (cst zWP c_wn0.2.2.1.1 q_wv60in.1) (cst zWP c_wn0.2.2.1.2 q_wv60in.2.1) = true := by decide +kernel
theorem t_wv60in {X : pX} {ρ0 : sR} (hv : vok X ρ0) : CUTOK X kR zWP c_wn0 8 ρ0 q_wv60in := CUT_run kR_x kR_0 (Cs := [(zWP, c_mapn)]) (fun C hC => by rw [List.mem_singleton.mp hC]; exact s_mapn) c_wn0_f (Q := []) hv (fun q hq => by cases hq) 1500 (b1 := true) (b2 := true) k_wv60in
noncomputable def q_wv60il : sCut := ((fr 0 5 0 [(0, tr 57), (1, .int 60), (2, .arg 60033)] [], [fBot], 8), (fr 0 277 60 [(0, tr 219), (1, .arg 1308), (2, .int 60), (4, .arg 60033)] [], [fBot], 8), [((139, .add (.elem (.arg 1761) (.int 0)) (.add (.int 60) (.arg 60033)), .int 100925506), true), zf98va_29, zf98va_30, zf98va_31, zf98va_32, zf98va_25, zf98va_0, zf98va_1, zf98va_2, zf98va_3, zf98va_4, zf98va_5], [zi98va_26, zi98va_27, zi98va_28])
theorem k_wv60il : cbody kR [(zWP, c_mapl)] (cpl1 zWP c_wn0 []) (cpl2 zWP c_wn0 []) (cleaf kR zWP c_wn0 []) 1500 true true q_wv60il.2.2.1 q_wv60il.2.2.2 (cst zWP c_wn0.2.2.1.1 q_wv60il.1) (cst zWP c_wn0.2.2.1.2 q_wv60il.2.1) = true := by decide +kernel
theorem t_wv60il {X : pX} {ρ0 : sR} (hv : vok X ρ0) : CUTOK X kR zWP c_wn0 8 ρ0 q_wv60il := CUT_run kR_x kR_0 (Cs := [(zWP, c_mapl)]) (fun C hC => by rw [List.mem_singleton.mp hC]; exact s_mapl) c_wn0_f (Q := []) hv (fun q hq => by cases hq) 1500 (b1 := true) (b2 := true) k_wv60il
theorem t_wv60i {X : pX} {ρ0 : sR} (hv : vok X ρ0) : CUTOK X kR zWP c_wn0 8 ρ0 q_wv60i := fun ρ k1 hF hI k4 => by
  have mm : sc X ρ (109, .add (.int 5634) (.int 1), .add (.int 60) (.int 1)) = true ∧ sc X ρ (109, .add (.int 5634) (.int 2), .add (.int 60) (.int 2)) = true ∧ sc X ρ (109, .add (.int 5634) (.int 3), .add (.int 60) (.int 3)) = true ∧ sc X ρ (109, .add (.int 5634) (.int 4), .add (.int 60) (.int 4)) = true := ⟨wn_9 (by decide +kernel), wn_9 (by decide +kernel), wn_9 (by decide +kernel), wn_9 (by decide +kernel)⟩
  rcases am_3 (g := ρ.2.2.2.1 1761) (m := 60) (n := (ρ.2.1 60033).toInt.toNat) with h | h | h
  · exact t_wv60io hv ρ k1 ⟨hF.1, fcn (decide_eq_true h.symm) (fcn (mm.1) (fcn (mm.2.1) (fcn (mm.2.2.1) (fcn (mm.2.2.2) (hF.2)))))⟩ hI k4
  · exact t_wv60in hv ρ k1 ⟨hF.1, fcn (decide_eq_true h.symm) (fcn (mm.1) (fcn (mm.2.1) (fcn (mm.2.2.1) (fcn (mm.2.2.2) (hF.2)))))⟩ hI k4
  · exact t_wv60il hv ρ k1 ⟨hF.1, fcn (decide_eq_true h.symm) (fcn (mm.1) (fcn (mm.2.1) (fcn (mm.2.2.1) (fcn (mm.2.2.2) (hF.2)))))⟩ hI k4
noncomputable def q_wv60 : sCut := ((fr 0 5 0 [(0, tr 57), (1, .int 60), (2, .arg 60033)] [], [fBot], 8), (fr 0 277 60 [(0, tr 219), (1, .arg 1308), (2, .int 60), (4, .arg 60033)] [], [fBot], 8), [zf98va_25, zf98va_0, zf98va_1, zf98va_2, zf98va_3, zf98va_4, zf98va_5], [])
theorem t_wv60 {X : pX} {ρ0 : sR} (hv : vok X ρ0) : CUTOK X kR zWP c_wn0 8 ρ0 q_wv60 := CUT_mono (t_wv60i hv) (fun ρ hF hI => by
  have b0 := rl_lf (x := ρ.2.1 60033) (y := 0) (hF.2 _ (List.mem_cons_of_mem _ (List.mem_cons_self)))
  have b1 := rl_lf (x := 255) (y := ρ.2.1 60033) (hF.2 _ (List.mem_cons_of_mem _ (List.mem_cons_of_mem _ (List.mem_cons_self))))
  have y0 : (0 : Int64).toInt = 0 := by decide +kernel
  have y1 : (255 : Int64).toInt = 255 := by decide +kernel
  rw [y0] at b0
  rw [y1] at b1
  exact ⟨hF, ik_c (fun hg => decide_eq_true (of_1 (x := ρ.2.2.2.1 1761 43) (of_decide_eq_false (hg _ List.mem_cons_self)))) (ik_c (fun hg => decide_eq_true (of_0 (x := ρ.2.2.2.1 1761 43) (of_decide_eq_true (hg _ List.mem_cons_self)))) (ik_c (fun hg => by
    have c1 := rl_lf (x := 4) (y := ρ.2.1 60033) (hg _ List.mem_cons_self)
    have z1 : (4 : Int64).toInt = 4 := rfl
    rw [z1] at c1
    exact wn_129 (p := 60) (q := 60) rfl et_60 b0 c1 rfl) (hI)))⟩)
noncomputable def q_wq60 : sCut := ((fr 0 5 0 [(0, tr 57), (1, .int 60), (2, .arg 60033)] [], [fBot], 8), (fr 0 277 35 [(0, tr 219), (1, .arg 1308), (2, .int 60)] [], [fBot], 8), [zf98va_15, zf98va_16, zf98va_0, zf98va_1, zf98va_2, zf98va_3, zf98va_4, zf98va_5], [])
noncomputable def q_wq60i : sCut := ((fr 0 5 0 [(0, tr 57), (1, .int 60), (2, .arg 60033)] [], [fBot], 8), (fr 0 277 35 [(0, tr 219), (1, .arg 1308), (2, .int 60)] [], [fBot], 8), [zf98va_15, zf98va_16, zf98va_0, zf98va_1, zf98va_2, zf98va_3, zf98va_4, zf98va_5], [zi98va_26, zi98va_27, zi98va_28])
noncomputable def q_wq60iy : sCut := ((fr 0 5 0 [(0, tr 57), (1, .int 60), (2, .arg 60033)] [], [fBot], 8), (fr 0 277 35 [(0, tr 219), (1, .arg 1308), (2, .int 60)] [], [fBot], 8), [((6, .op2 .land (.elem (.arg 1761) (.int 43)) (.long 2147483648), .long 0), true), zf98va_15, zf98va_16, zf98va_0, zf98va_1, zf98va_2, zf98va_3, zf98va_4, zf98va_5], [zi98va_26, zi98va_27, zi98va_28])
theorem k_wq60iy : cbody kR [] (cpl1 zWP c_wn0 []) (cpl2 zWP c_wn0 []) (cleaf kR zWP c_wn0 []) 1500 true true q_wq60iy.2.2.1 q_wq60iy.2.2.2 (cst zWP c_wn0.2.2.1.1 q_wq60iy.1) (cst zWP c_wn0.2.2.1.2 q_wq60iy.2.1) = true := by decide +kernel
theorem t_wq60iy {X : pX} {ρ0 : sR} (hv : vok X ρ0) : CUTOK X kR zWP c_wn0 8 ρ0 q_wq60iy := CUT_run kR_x kR_0 (Cs := []) (fun C hC => by cases hC) c_wn0_f (Q := []) hv (fun q hq => by cases hq) 1500 (b1 := true) (b2 := true) k_wq60iy
noncomputable def q_wq60in : sCut := ((fr 0 5 0 [(0, tr 57), (1, .int 60), (2, .arg 60033)] [], [fBot], 8), (fr 0 277 35 [(0, tr 219), (1, .arg 1308), (2, .int 60)] [], [fBot], 8), [((6, .op2 .land (.op2 .lshr (.elem (.arg 1761) (.int 43)) (.int 31)) (.long 1), .long 1), true), zf98va_25, zf98va_15, zf98va_16, zf98va_0, zf98va_1, zf98va_2, zf98va_3, zf98va_4, zf98va_5], [zi98va_26, zi98va_27, zi98va_28])
theorem k_wq60in : cbody kR [] (cpl1 zWP c_wn0 [q_wv60]) (cpl2 zWP c_wn0 [q_wv60]) (cleaf kR zWP c_wn0 [q_wv60]) 1500 false true q_wq60in.2.2.1 q_wq60in.2.2.2 (cst zWP c_wn0.2.2.1.1 q_wq60in.1) (cst zWP c_wn0.2.2.1.2 q_wq60in.2.1) = true := by decide +kernel
theorem t_wq60in {X : pX} {ρ0 : sR} (hv : vok X ρ0) : CUTOK X kR zWP c_wn0 8 ρ0 q_wq60in := CUT_run kR_x kR_0 (Cs := []) (fun C hC => by cases hC) c_wn0_f (Q := [q_wv60]) hv (fun q hq => by
    simp only [List.mem_cons, List.not_mem_nil, or_false] at hq
    rw [hq]; exact t_wv60 hv) 1500 (b1 := false) (b2 := true) k_wq60in
theorem t_wq60i {X : pX} {ρ0 : sR} (hv : vok X ρ0) : CUTOK X kR zWP c_wn0 8 ρ0 q_wq60i := CUT_split (6, .op2 .land (.elem (.arg 1761) (.int 43)) (.long 2147483648), .long 0) (t_wq60iy hv) (CUT_mono (t_wq60in hv) (fun ρ hF hI => ⟨⟨hF.1, by
    exact fcn (decide_eq_true (of_1 (x := ρ.2.2.2.1 1761 43) (of_decide_eq_false (hF.2 _ List.mem_cons_self)))) hF.2⟩, hI⟩))
theorem t_wq60 {X : pX} {ρ0 : sR} (hv : vok X ρ0) : CUTOK X kR zWP c_wn0 8 ρ0 q_wq60 := CUT_mono (t_wq60i hv) (fun ρ hF hI => by
  have b0 := rl_lf (x := ρ.2.1 60033) (y := 0) (hF.2 _ (List.mem_cons_of_mem _ (List.mem_cons_of_mem _ (List.mem_cons_self))))
  have b1 := rl_lf (x := 255) (y := ρ.2.1 60033) (hF.2 _ (List.mem_cons_of_mem _ (List.mem_cons_of_mem _ (List.mem_cons_of_mem _ (List.mem_cons_self)))))
  have y0 : (0 : Int64).toInt = 0 := by decide +kernel
  have y1 : (255 : Int64).toInt = 255 := by decide +kernel
  rw [y0] at b0
  rw [y1] at b1
  exact ⟨hF, ik_c (fun hg => decide_eq_true (of_1 (x := ρ.2.2.2.1 1761 43) (of_decide_eq_false (hg _ List.mem_cons_self)))) (ik_c (fun hg => decide_eq_true (of_0 (x := ρ.2.2.2.1 1761 43) (of_decide_eq_true (hg _ List.mem_cons_self)))) (ik_c (fun hg => by
    have c1 := rl_lf (x := 4) (y := ρ.2.1 60033) (hg _ List.mem_cons_self)
    have z1 : (4 : Int64).toInt = 4 := rfl
    rw [z1] at c1
    exact wn_129 (p := 60) (q := 60) rfl et_60 b0 c1 rfl) (hI)))⟩)
theorem e_wp60 : frun kR [] (cpl1 zWP (c_wp0 60) [q_wq60]) (cpl2 zWP (c_wp0 60) [q_wq60]) (cleaf kR zWP (c_wp0 60) [q_wq60]) 300 65536 (isatP ((c_wp0 60).2.2.2.1) (c_wp0 60).2.2.2.2.2.2.2.1) (c_wp0 60).2.2.2.2.2.2.2.1 (sin0 mt_all (c_wp0 60).1.1 8 (c_wp0 60).2.1.1 (foot zWP (c_wp0 60).2.2.1.1)) (sin0 mt_all (c_wp0 60).1.2.1 8 (c_wp0 60).2.1.2 (foot zWP (c_wp0 60).2.2.1.2)) = true := by decide +kernel
theorem s_wp60 {X : pX} : SREL X pF pdfl mt_all kR zWP (c_wp0 60) := SREL_QC kR_x kR_0 (Cs := []) (fun C hC => by cases hC) (d := 8) rfl (c_wp0_f 60) (Q := [q_wq60]) (fun ρ0 hv => fun q hq => by
    simp only [List.mem_cons, List.not_mem_nil, or_false] at hq
    rw [hq]; exact (t_wq60 hv : CUTOK X kR zWP c_wn0 8 ρ0 q_wq60)) (QC_run 300 e_wp60)
theorem et_65 : evt[65]? = some (0, 4, 0) := by decide +kernel
noncomputable def q_wR65 : sCut := ((fr 0 10 53 [] [], [fr 0 5 23 [(4, .int 0)] [], fBot], 7), (fr 0 281 150 [] [], [fr 0 277 91 [(3, .int 0)] [], fBot], 7), [((129, .int 65, .arg 60033), true)], [])
noncomputable def zf98va_33 : sQ × Bool := ((6, .op2 .land (.elem (.arg 1761) (.int 47)) (.long 2147483648), .long 0), false)
noncomputable def zi98va_34 : sFs × sQ × Bool := ([((6, .op2 .land (.elem (.arg 1761) (.int 47)) (.long 2147483648), .long 0), false)], (6, .op2 .land (.op2 .lshr (.elem (.arg 1761) (.int 47)) (.int 31)) (.long 1), .long 1), true)
noncomputable def zi98va_35 : sFs × sQ × Bool := ([((6, .op2 .land (.elem (.arg 1761) (.int 47)) (.long 2147483648), .long 0), true)], (6, .op2 .land (.op2 .lshr (.elem (.arg 1761) (.int 47)) (.int 31)) (.long 1), .long 0), true)
noncomputable def zi98va_36 : sFs × sQ × Bool := ([((8, .long 4, .arg 60033), false)], (129, .int 65, .arg 60033), true)
noncomputable def q_wv65i : sCut := ((fr 0 5 0 [(0, tr 57), (1, .int 65), (2, .arg 60033)] [], [fBot], 8), (fr 0 277 60 [(0, tr 219), (1, .arg 1308), (2, .int 65), (4, .arg 60033)] [], [fBot], 8), [zf98va_33, zf98va_0, zf98va_1, zf98va_2, zf98va_3, zf98va_4, zf98va_5], [zi98va_34, zi98va_35, zi98va_36])
noncomputable def zf98va_37 : sQ × Bool := ((109, .add (.int 5635) (.int 1), .add (.int 65) (.int 1)), true)
noncomputable def zf98va_38 : sQ × Bool := ((109, .add (.int 5635) (.int 2), .add (.int 65) (.int 2)), true)
noncomputable def zf98va_39 : sQ × Bool := ((109, .add (.int 5635) (.int 3), .add (.int 65) (.int 3)), true)
noncomputable def zf98va_40 : sQ × Bool := ((109, .add (.int 5635) (.int 4), .add (.int 65) (.int 4)), true)
noncomputable def q_wv65io : sCut := ((fr 0 5 0 [(0, tr 57), (1, .int 65), (2, .arg 60033)] [], [fBot], 8), (fr 0 277 60 [(0, tr 219), (1, .arg 1308), (2, .int 65), (4, .arg 60033)] [], [fBot], 8), [((139, .add (.elem (.arg 1761) (.int 0)) (.add (.int 65) (.arg 60033)), .int 0), true), zf98va_37, zf98va_38, zf98va_39, zf98va_40, zf98va_33, zf98va_0, zf98va_1, zf98va_2, zf98va_3, zf98va_4, zf98va_5], [zi98va_34, zi98va_35, zi98va_36])
noncomputable def w_wv65io : List (sCut × List (Nat × sT) × List (Nat × sT × List (sT × sT))) := [(q_wR65, [(60033, .arg 60033), (2848, .op2 .ior (.arg 2848) (.int 2048)), (6850, .arg 6850), (6882, .arg 6882), (6914, .arg 6914), (6946, .int 0), (7362, .arg 7362), (7394, .arg 7394), (7426, .arg 7426), (7458, .int 0), (7874, .arg 7874), (7906, .arg 7906), (7938, .arg 7938), (7970, .arg 7970), (21216, .arg 21216), (21248, .arg 21248), (21280, .arg 21280), (21312, .arg 21312), (6466, .arg 6466), (6498, .arg 6498)], [(1761, .arg 1761, [(.int 65, .arg 60033)])])]
theorem k_wv65io : cbody kR [(zWP, c_mapo)] (cpl1 zWP c_wn0 [q_wR65]) (cpl2 zWP c_wn0 [q_wR65]) (cleafB kR zWP c_wn0 w_wv65io) 1500 true true q_wv65io.2.2.1 q_wv65io.2.2.2 (cst zWP c_wn0.2.2.1.1 q_wv65io.1) (cst zWP c_wn0.2.2.1.2 q_wv65io.2.1) = true := by decide +kernel
theorem t_wv65io {X : pX} {ρ0 : sR} (hv : vok X ρ0) : CUTOK X kR zWP c_wn0 8 ρ0 q_wv65io := CUTOK_AT (fun ρ k1 hF hI k4 => AT_of (q := q_wv65io) rfl rfl (SEM_runB kR_x kR_0 (Cs := [(zWP, c_mapo)]) (fun C hC => by rw [List.mem_singleton.mp hC]; exact s_mapo) c_wn0_f (Q := w_wv65io) hv 1500 (b1 := true) (b2 := true) k_wv65io k1 hF hI k4 (fun p hp ρ3 m1 m2 m3 m4 m5 m6 => by
  rw [List.mem_singleton.mp hp] at m2 m3 m5 m6 ⊢
  have y3 : ρ3.2.1 60033 = ρ.2.1 60033 := congrArg Prod.snd (m5 (60033, .arg 60033) List.mem_cons_self)
  have hA : ∀ j, ρ3.2.2.2.1 1761 j = if 65 = j then ρ.2.1 60033 else ρ.2.2.2.1 1761 j := fun j => ad_l (X := X) (p := 65) (t := .arg 60033) rfl (m6 _ List.mem_cons_self) j
  have hk : evk 65 (ρ.2.1 60033).toInt = true := by
    have h := m2.2 _ List.mem_cons_self
    rw [← y3]
    exact h
  have hc : (0 : Int) = amcode (ρ.2.2.2.1 1761) 65 (ρ.2.1 60033).toInt.toNat := of_decide_eq_true (hF.2 _ (List.mem_cons_self))
  have ea : ρ3.1 2848 = (sd X ρ (.op2 .ior (.arg 2848) (.int 2048))).1 := congrArg Prod.fst (m5 (2848, .op2 .ior (.arg 2848) (.int 2048)) (List.mem_cons_of_mem _ List.mem_cons_self))
  have eL : ρ3.1 60578 = ρ.1 60578 := (m4.1 60578 (by decide) (by decide)).1.trans (k4.1 60578 (by decide) (by decide)).1.symm
  have mo : sc X ρ3 (2, .op2 .iand (.op2 .iushr (.arg 2848) (.int 4)) (.int 1), .arg 60578) = false := by
    show decide (((ρ3.1 2848).toUInt32 >>> ((4 : Int32).toUInt32 &&& (31 : Int32).toUInt32)).toInt32 &&& 1 < ρ3.1 60578) = false
    rw [ea, eL]
    have q := tbv_ok (X := X) (ρ := ρ) (F := []) (a := .op2 .iand (.op2 .iushr (.op2 .ior (.arg 2848) (.int 2048)) (.int 4)) (.int 1)) (b := .op2 .iand (.op2 .iushr (.arg 2848) (.int 4)) (.int 1)) ⟨hF.1, fun f hf => by cases hf⟩ (by decide +kernel)
    rw [sv_int rfl, sv_int rfl] at q
    exact mn_e (Value.int.inj q) (of_decide_eq_true (hF.2 _ (List.mem_cons_of_mem _ (List.mem_cons_of_mem _ (List.mem_cons_of_mem _ (List.mem_cons_of_mem _ (List.mem_cons_of_mem _ (List.mem_cons_of_mem _ (List.mem_cons_of_mem _ (List.mem_cons_of_mem _ (List.mem_cons_of_mem _ (List.mem_cons_of_mem _ (List.mem_cons_self)))))))))))))
  exact t_wE0 hv ρ3 m1 ⟨m2.1, fcn (ev_ct (g := ρ.2.2.2.1 1761) (m := 65) (hF.2 _ (List.mem_cons_of_mem _ (List.mem_cons_of_mem _ (List.mem_cons_of_mem _ (List.mem_cons_of_mem _ (List.mem_cons_of_mem _ (List.mem_cons_of_mem _ (List.mem_cons_of_mem _ (List.mem_cons_of_mem _ (List.mem_cons_self)))))))))) hk hA hc.symm (by decide +kernel)) (fcn (pd_up (X := X) (p := 65) (c := 2048) (z := [6946, 7458]) (hF.2 _ (List.mem_cons_of_mem _ (List.mem_cons_of_mem _ (List.mem_cons_of_mem _ (List.mem_cons_of_mem _ (List.mem_cons_of_mem _ (List.mem_cons_of_mem _ (List.mem_cons_of_mem _ (List.mem_cons_of_mem _ (List.mem_cons_of_mem _ (List.mem_cons_self))))))))))) hA (fun x hx => m5 x (List.mem_cons_of_mem _ hx)) k4 m4 wm_0 wb_0 (by decide +kernel)) (fcn (mo) (fnl)))⟩ m3 m4)))
noncomputable def q_wv65in : sCut := ((fr 0 5 0 [(0, tr 57), (1, .int 65), (2, .arg 60033)] [], [fBot], 8), (fr 0 277 60 [(0, tr 219), (1, .arg 1308), (2, .int 65), (4, .arg 60033)] [], [fBot], 8), [((139, .add (.elem (.arg 1761) (.int 0)) (.add (.int 65) (.arg 60033)), .int 100925505), true), zf98va_37, zf98va_38, zf98va_39, zf98va_40, zf98va_33, zf98va_0, zf98va_1, zf98va_2, zf98va_3, zf98va_4, zf98va_5], [zi98va_34, zi98va_35, zi98va_36])
theorem k_wv65in : cbody kR [(zWP, c_mapn)] (cpl1 zWP c_wn0 []) (cpl2 zWP c_wn0 []) (cleaf kR zWP c_wn0 []) 1500 true true q_wv65in.2.2.1 q_wv65in.2.2.2 (cst zWP c_wn0.2.2.1.1 q_wv65in.1) (cst zWP c_wn0.2.2.1.2 q_wv65in.2.1) = true := by decide +kernel
theorem t_wv65in {X : pX} {ρ0 : sR} (hv : vok X ρ0) : CUTOK X kR zWP c_wn0 8 ρ0 q_wv65in := CUT_run kR_x kR_0 (Cs := [(zWP, c_mapn)]) (fun C hC => by rw [List.mem_singleton.mp hC]; exact s_mapn) c_wn0_f (Q := []) hv (fun q hq => by cases hq) 1500 (b1 := true) (b2 := true) k_wv65in
noncomputable def q_wv65il : sCut := ((fr 0 5 0 [(0, tr 57), (1, .int 65), (2, .arg 60033)] [], [fBot], 8), (fr 0 277 60 [(0, tr 219), (1, .arg 1308), (2, .int 65), (4, .arg 60033)] [], [fBot], 8), [((139, .add (.elem (.arg 1761) (.int 0)) (.add (.int 65) (.arg 60033)), .int 100925506), true), zf98va_37, zf98va_38, zf98va_39, zf98va_40, zf98va_33, zf98va_0, zf98va_1, zf98va_2, zf98va_3, zf98va_4, zf98va_5], [zi98va_34, zi98va_35, zi98va_36])
theorem k_wv65il : cbody kR [(zWP, c_mapl)] (cpl1 zWP c_wn0 []) (cpl2 zWP c_wn0 []) (cleaf kR zWP c_wn0 []) 1500 true true q_wv65il.2.2.1 q_wv65il.2.2.2 (cst zWP c_wn0.2.2.1.1 q_wv65il.1) (cst zWP c_wn0.2.2.1.2 q_wv65il.2.1) = true := by decide +kernel
theorem t_wv65il {X : pX} {ρ0 : sR} (hv : vok X ρ0) : CUTOK X kR zWP c_wn0 8 ρ0 q_wv65il := CUT_run kR_x kR_0 (Cs := [(zWP, c_mapl)]) (fun C hC => by rw [List.mem_singleton.mp hC]; exact s_mapl) c_wn0_f (Q := []) hv (fun q hq => by cases hq) 1500 (b1 := true) (b2 := true) k_wv65il
theorem t_wv65i {X : pX} {ρ0 : sR} (hv : vok X ρ0) : CUTOK X kR zWP c_wn0 8 ρ0 q_wv65i := fun ρ k1 hF hI k4 => by
  have mm : sc X ρ (109, .add (.int 5635) (.int 1), .add (.int 65) (.int 1)) = true ∧ sc X ρ (109, .add (.int 5635) (.int 2), .add (.int 65) (.int 2)) = true ∧ sc X ρ (109, .add (.int 5635) (.int 3), .add (.int 65) (.int 3)) = true ∧ sc X ρ (109, .add (.int 5635) (.int 4), .add (.int 65) (.int 4)) = true := ⟨wn_9 (by decide +kernel), wn_9 (by decide +kernel), wn_9 (by decide +kernel), wn_9 (by decide +kernel)⟩
  rcases am_3 (g := ρ.2.2.2.1 1761) (m := 65) (n := (ρ.2.1 60033).toInt.toNat) with h | h | h
  · exact t_wv65io hv ρ k1 ⟨hF.1, fcn (decide_eq_true h.symm) (fcn (mm.1) (fcn (mm.2.1) (fcn (mm.2.2.1) (fcn (mm.2.2.2) (hF.2)))))⟩ hI k4
  · exact t_wv65in hv ρ k1 ⟨hF.1, fcn (decide_eq_true h.symm) (fcn (mm.1) (fcn (mm.2.1) (fcn (mm.2.2.1) (fcn (mm.2.2.2) (hF.2)))))⟩ hI k4
  · exact t_wv65il hv ρ k1 ⟨hF.1, fcn (decide_eq_true h.symm) (fcn (mm.1) (fcn (mm.2.1) (fcn (mm.2.2.1) (fcn (mm.2.2.2) (hF.2)))))⟩ hI k4
noncomputable def q_wv65 : sCut := ((fr 0 5 0 [(0, tr 57), (1, .int 65), (2, .arg 60033)] [], [fBot], 8), (fr 0 277 60 [(0, tr 219), (1, .arg 1308), (2, .int 65), (4, .arg 60033)] [], [fBot], 8), [zf98va_33, zf98va_0, zf98va_1, zf98va_2, zf98va_3, zf98va_4, zf98va_5], [])
theorem t_wv65 {X : pX} {ρ0 : sR} (hv : vok X ρ0) : CUTOK X kR zWP c_wn0 8 ρ0 q_wv65 := CUT_mono (t_wv65i hv) (fun ρ hF hI => by
  have b0 := rl_lf (x := ρ.2.1 60033) (y := 0) (hF.2 _ (List.mem_cons_of_mem _ (List.mem_cons_self)))
  have b1 := rl_lf (x := 255) (y := ρ.2.1 60033) (hF.2 _ (List.mem_cons_of_mem _ (List.mem_cons_of_mem _ (List.mem_cons_self))))
  have y0 : (0 : Int64).toInt = 0 := by decide +kernel
  have y1 : (255 : Int64).toInt = 255 := by decide +kernel
  rw [y0] at b0
  rw [y1] at b1
  exact ⟨hF, ik_c (fun hg => decide_eq_true (of_1 (x := ρ.2.2.2.1 1761 47) (of_decide_eq_false (hg _ List.mem_cons_self)))) (ik_c (fun hg => decide_eq_true (of_0 (x := ρ.2.2.2.1 1761 47) (of_decide_eq_true (hg _ List.mem_cons_self)))) (ik_c (fun hg => by
    have c1 := rl_lf (x := 4) (y := ρ.2.1 60033) (hg _ List.mem_cons_self)
    have z1 : (4 : Int64).toInt = 4 := rfl
    rw [z1] at c1
    exact wn_129 (p := 65) (q := 65) rfl et_65 b0 c1 rfl) (hI)))⟩)
noncomputable def q_wq65 : sCut := ((fr 0 5 0 [(0, tr 57), (1, .int 65), (2, .arg 60033)] [], [fBot], 8), (fr 0 277 35 [(0, tr 219), (1, .arg 1308), (2, .int 65)] [], [fBot], 8), [zf98va_15, zf98va_16, zf98va_0, zf98va_1, zf98va_2, zf98va_3, zf98va_4, zf98va_5], [])
noncomputable def q_wq65i : sCut := ((fr 0 5 0 [(0, tr 57), (1, .int 65), (2, .arg 60033)] [], [fBot], 8), (fr 0 277 35 [(0, tr 219), (1, .arg 1308), (2, .int 65)] [], [fBot], 8), [zf98va_15, zf98va_16, zf98va_0, zf98va_1, zf98va_2, zf98va_3, zf98va_4, zf98va_5], [zi98va_34, zi98va_35, zi98va_36])
noncomputable def q_wq65iy : sCut := ((fr 0 5 0 [(0, tr 57), (1, .int 65), (2, .arg 60033)] [], [fBot], 8), (fr 0 277 35 [(0, tr 219), (1, .arg 1308), (2, .int 65)] [], [fBot], 8), [((6, .op2 .land (.elem (.arg 1761) (.int 47)) (.long 2147483648), .long 0), true), zf98va_15, zf98va_16, zf98va_0, zf98va_1, zf98va_2, zf98va_3, zf98va_4, zf98va_5], [zi98va_34, zi98va_35, zi98va_36])
theorem k_wq65iy : cbody kR [] (cpl1 zWP c_wn0 []) (cpl2 zWP c_wn0 []) (cleaf kR zWP c_wn0 []) 1500 true true q_wq65iy.2.2.1 q_wq65iy.2.2.2 (cst zWP c_wn0.2.2.1.1 q_wq65iy.1) (cst zWP c_wn0.2.2.1.2 q_wq65iy.2.1) = true := by decide +kernel
theorem t_wq65iy {X : pX} {ρ0 : sR} (hv : vok X ρ0) : CUTOK X kR zWP c_wn0 8 ρ0 q_wq65iy := CUT_run kR_x kR_0 (Cs := []) (fun C hC => by cases hC) c_wn0_f (Q := []) hv (fun q hq => by cases hq) 1500 (b1 := true) (b2 := true) k_wq65iy
noncomputable def q_wq65in : sCut := ((fr 0 5 0 [(0, tr 57), (1, .int 65), (2, .arg 60033)] [], [fBot], 8), (fr 0 277 35 [(0, tr 219), (1, .arg 1308), (2, .int 65)] [], [fBot], 8), [((6, .op2 .land (.op2 .lshr (.elem (.arg 1761) (.int 47)) (.int 31)) (.long 1), .long 1), true), zf98va_33, zf98va_15, zf98va_16, zf98va_0, zf98va_1, zf98va_2, zf98va_3, zf98va_4, zf98va_5], [zi98va_34, zi98va_35, zi98va_36])
theorem k_wq65in : cbody kR [] (cpl1 zWP c_wn0 [q_wv65]) (cpl2 zWP c_wn0 [q_wv65]) (cleaf kR zWP c_wn0 [q_wv65]) 1500 false true q_wq65in.2.2.1 q_wq65in.2.2.2 (cst zWP c_wn0.2.2.1.1 q_wq65in.1) (cst zWP c_wn0.2.2.1.2 q_wq65in.2.1) = true := by decide +kernel
theorem t_wq65in {X : pX} {ρ0 : sR} (hv : vok X ρ0) : CUTOK X kR zWP c_wn0 8 ρ0 q_wq65in := CUT_run kR_x kR_0 (Cs := []) (fun C hC => by cases hC) c_wn0_f (Q := [q_wv65]) hv (fun q hq => by
    simp only [List.mem_cons, List.not_mem_nil, or_false] at hq
    rw [hq]; exact t_wv65 hv) 1500 (b1 := false) (b2 := true) k_wq65in
theorem t_wq65i {X : pX} {ρ0 : sR} (hv : vok X ρ0) : CUTOK X kR zWP c_wn0 8 ρ0 q_wq65i := CUT_split (6, .op2 .land (.elem (.arg 1761) (.int 47)) (.long 2147483648), .long 0) (t_wq65iy hv) (CUT_mono (t_wq65in hv) (fun ρ hF hI => ⟨⟨hF.1, by
    exact fcn (decide_eq_true (of_1 (x := ρ.2.2.2.1 1761 47) (of_decide_eq_false (hF.2 _ List.mem_cons_self)))) hF.2⟩, hI⟩))
theorem t_wq65 {X : pX} {ρ0 : sR} (hv : vok X ρ0) : CUTOK X kR zWP c_wn0 8 ρ0 q_wq65 := CUT_mono (t_wq65i hv) (fun ρ hF hI => by
  have b0 := rl_lf (x := ρ.2.1 60033) (y := 0) (hF.2 _ (List.mem_cons_of_mem _ (List.mem_cons_of_mem _ (List.mem_cons_self))))
  have b1 := rl_lf (x := 255) (y := ρ.2.1 60033) (hF.2 _ (List.mem_cons_of_mem _ (List.mem_cons_of_mem _ (List.mem_cons_of_mem _ (List.mem_cons_self)))))
  have y0 : (0 : Int64).toInt = 0 := by decide +kernel
  have y1 : (255 : Int64).toInt = 255 := by decide +kernel
  rw [y0] at b0
  rw [y1] at b1
  exact ⟨hF, ik_c (fun hg => decide_eq_true (of_1 (x := ρ.2.2.2.1 1761 47) (of_decide_eq_false (hg _ List.mem_cons_self)))) (ik_c (fun hg => decide_eq_true (of_0 (x := ρ.2.2.2.1 1761 47) (of_decide_eq_true (hg _ List.mem_cons_self)))) (ik_c (fun hg => by
    have c1 := rl_lf (x := 4) (y := ρ.2.1 60033) (hg _ List.mem_cons_self)
    have z1 : (4 : Int64).toInt = 4 := rfl
    rw [z1] at c1
    exact wn_129 (p := 65) (q := 65) rfl et_65 b0 c1 rfl) (hI)))⟩)
theorem e_wp65 : frun kR [] (cpl1 zWP (c_wp0 65) [q_wq65]) (cpl2 zWP (c_wp0 65) [q_wq65]) (cleaf kR zWP (c_wp0 65) [q_wq65]) 300 65536 (isatP ((c_wp0 65).2.2.2.1) (c_wp0 65).2.2.2.2.2.2.2.1) (c_wp0 65).2.2.2.2.2.2.2.1 (sin0 mt_all (c_wp0 65).1.1 8 (c_wp0 65).2.1.1 (foot zWP (c_wp0 65).2.2.1.1)) (sin0 mt_all (c_wp0 65).1.2.1 8 (c_wp0 65).2.1.2 (foot zWP (c_wp0 65).2.2.1.2)) = true := by decide +kernel
theorem s_wp65 {X : pX} : SREL X pF pdfl mt_all kR zWP (c_wp0 65) := SREL_QC kR_x kR_0 (Cs := []) (fun C hC => by cases hC) (d := 8) rfl (c_wp0_f 65) (Q := [q_wq65]) (fun ρ0 hv => fun q hq => by
    simp only [List.mem_cons, List.not_mem_nil, or_false] at hq
    rw [hq]; exact (t_wq65 hv : CUTOK X kR zWP c_wn0 8 ρ0 q_wq65)) (QC_run 300 e_wp65)
theorem et_72 : evt[72]? = some (0, 255, 7) := by decide +kernel
noncomputable def q_wR72 : sCut := ((fr 0 10 53 [] [], [fr 0 5 23 [(4, .int 0)] [], fBot], 7), (fr 0 281 150 [] [], [fr 0 277 91 [(3, .int 0)] [], fBot], 7), [((129, .int 72, .arg 60033), true)], [])
noncomputable def q_wq72 : sCut := ((fr 0 5 0 [(0, tr 57), (1, .int 72), (2, .arg 60033)] [], [fBot], 8), (fr 0 277 60 [(0, tr 219), (1, .arg 1308), (2, .int 72), (4, .arg 60033)] [], [fBot], 8), [zf98va_0, zf98va_1, zf98va_2, zf98va_3, zf98va_4, zf98va_5], [])
noncomputable def q_wq72i : sCut := ((fr 0 5 0 [(0, tr 57), (1, .int 72), (2, .arg 60033)] [], [fBot], 8), (fr 0 277 60 [(0, tr 219), (1, .arg 1308), (2, .int 72), (4, .arg 60033)] [], [fBot], 8), [zf98va_0, zf98va_1, zf98va_2, zf98va_3, zf98va_4, zf98va_5], [([((8, .long 240, .arg 60033), false)], (129, .int 72, .arg 60033), true), ([((8, .arg 60033, .long 254), false)], (129, .int 72, .arg 60033), true), zi98va_6])
noncomputable def w_wq72i : List (sCut × List (Nat × sT) × List (Nat × sT × List (sT × sT))) := [(q_wR72, [(60033, .arg 60033), (2848, .op2 .ior (.arg 2848) (.int 4096)), (6850, .arg 6850), (6882, .arg 6882), (6914, .arg 6914), (6946, .arg 6946), (7362, .arg 7362), (7394, .arg 7394), (7426, .arg 7426), (7458, .arg 7458), (7874, .int 0), (7906, .arg 7906), (7938, .arg 7938), (7970, .arg 7970), (21216, .int 0), (21248, .arg 21248), (21280, .arg 21280), (21312, .arg 21312), (6466, .arg 6466), (6498, .arg 6498)], [(1761, .arg 1761, [(.int 72, .arg 60033)])])]
theorem k_wq72i : cbody kR [] (cpl1 zWP c_wn0 [q_wR72]) (cpl2 zWP c_wn0 [q_wR72]) (cleafB kR zWP c_wn0 w_wq72i) 1500 true true q_wq72i.2.2.1 q_wq72i.2.2.2 (cst zWP c_wn0.2.2.1.1 q_wq72i.1) (cst zWP c_wn0.2.2.1.2 q_wq72i.2.1) = true := by decide +kernel
theorem t_wq72i {X : pX} {ρ0 : sR} (hv : vok X ρ0) : CUTOK X kR zWP c_wn0 8 ρ0 q_wq72i := CUTOK_AT (fun ρ k1 hF hI k4 => AT_of (q := q_wq72i) rfl rfl (SEM_runB kR_x kR_0 (Cs := []) (fun C hC => by cases hC) c_wn0_f (Q := w_wq72i) hv 1500 (b1 := true) (b2 := true) k_wq72i k1 hF hI k4 (fun p hp ρ3 m1 m2 m3 m4 m5 m6 => by
  rw [List.mem_singleton.mp hp] at m2 m3 m5 m6 ⊢
  have y3 : ρ3.2.1 60033 = ρ.2.1 60033 := congrArg Prod.snd (m5 (60033, .arg 60033) List.mem_cons_self)
  have hA : ∀ j, ρ3.2.2.2.1 1761 j = if 72 = j then ρ.2.1 60033 else ρ.2.2.2.1 1761 j := fun j => ad_l (X := X) (p := 72) (t := .arg 60033) rfl (m6 _ List.mem_cons_self) j
  have hk : evk 72 (ρ.2.1 60033).toInt = true := by
    have h := m2.2 _ List.mem_cons_self
    rw [← y3]
    exact h
  have ea : ρ3.1 2848 = (sd X ρ (.op2 .ior (.arg 2848) (.int 4096))).1 := congrArg Prod.fst (m5 (2848, .op2 .ior (.arg 2848) (.int 4096)) (List.mem_cons_of_mem _ List.mem_cons_self))
  have eL : ρ3.1 60578 = ρ.1 60578 := (m4.1 60578 (by decide) (by decide)).1.trans (k4.1 60578 (by decide) (by decide)).1.symm
  have mo : sc X ρ3 (2, .op2 .iand (.op2 .iushr (.arg 2848) (.int 4)) (.int 1), .arg 60578) = false := by
    show decide (((ρ3.1 2848).toUInt32 >>> ((4 : Int32).toUInt32 &&& (31 : Int32).toUInt32)).toInt32 &&& 1 < ρ3.1 60578) = false
    rw [ea, eL]
    have q := tbv_ok (X := X) (ρ := ρ) (F := []) (a := .op2 .iand (.op2 .iushr (.op2 .ior (.arg 2848) (.int 4096)) (.int 4)) (.int 1)) (b := .op2 .iand (.op2 .iushr (.arg 2848) (.int 4)) (.int 1)) ⟨hF.1, fun f hf => by cases hf⟩ (by decide +kernel)
    rw [sv_int rfl, sv_int rfl] at q
    exact mn_e (Value.int.inj q) (of_decide_eq_true (hF.2 _ (List.mem_cons_of_mem _ (List.mem_cons_of_mem _ (List.mem_cons_of_mem _ (List.mem_cons_of_mem _ (List.mem_cons_self)))))))
  exact t_wE0 hv ρ3 m1 ⟨m2.1, fcn (ev_nm (g := ρ.2.2.2.1 1761) (p := 72) (hF.2 _ (List.mem_cons_of_mem _ (List.mem_cons_of_mem _ (List.mem_cons_self)))) hk hA (by decide +kernel)) (fcn (pd_up (X := X) (p := 72) (c := 4096) (z := [7874, 21216]) (hF.2 _ (List.mem_cons_of_mem _ (List.mem_cons_of_mem _ (List.mem_cons_of_mem _ (List.mem_cons_self))))) hA (fun x hx => m5 x (List.mem_cons_of_mem _ hx)) k4 m4 wm_0 wb_0 (by decide +kernel)) (fcn (mo) (fnl)))⟩ m3 m4)))
theorem t_wq72 {X : pX} {ρ0 : sR} (hv : vok X ρ0) : CUTOK X kR zWP c_wn0 8 ρ0 q_wq72 := CUT_mono (t_wq72i hv) (fun ρ hF hI => by
  have b0 := rl_lf (x := ρ.2.1 60033) (y := 0) (hF.2 _ (List.mem_cons_self))
  have b1 := rl_lf (x := 255) (y := ρ.2.1 60033) (hF.2 _ (List.mem_cons_of_mem _ (List.mem_cons_self)))
  have y0 : (0 : Int64).toInt = 0 := by decide +kernel
  have y1 : (255 : Int64).toInt = 255 := by decide +kernel
  rw [y0] at b0
  rw [y1] at b1
  exact ⟨hF, ik_c (fun hg => by
    have c0 := rl_lf (x := 240) (y := ρ.2.1 60033) (hg _ List.mem_cons_self)
    have z0 : (240 : Int64).toInt = 240 := rfl
    rw [z0] at c0
    exact wn_129 (p := 72) (q := 72) rfl et_72 b0 b1 (by show (decide ((ρ.2.1 60033).toInt ≤ 240) || _) = true; rw [decide_eq_true c0]; rfl)) (ik_c (fun hg => by
    have c0 := rl_lf (x := ρ.2.1 60033) (y := 254) (hg _ List.mem_cons_self)
    have z0 : (254 : Int64).toInt = 254 := rfl
    rw [z0] at c0
    exact wn_129 (p := 72) (q := 72) rfl et_72 b0 b1 (by
      show (_ || ([254, 255] : List Int).contains (ρ.2.1 60033).toInt) = true
      rw [Bool.or_eq_true, List.contains_iff_mem, List.mem_cons, List.mem_singleton]
      omega)) (ik_c (fun hg => by
    have c0 := rl_lf (x := ρ.2.1 60033) (y := 254) (hg _ List.mem_cons_self)
    have c1 := rl_ef (x := ρ.2.1 60033) (y := 254) (hg _ (List.mem_cons_of_mem _ List.mem_cons_self))
    have z0 : (254 : Int64).toInt = 254 := rfl
    rw [z0] at c0 c1
    exact dl_et (x := ρ.2.1 60033) (y := 255) (show _ = (255 : Int) by omega)) (hI)))⟩)
theorem e_wp72 : frun kR [] (cpl1 zWP (c_wp0 72) [q_wq72]) (cpl2 zWP (c_wp0 72) [q_wq72]) (cleaf kR zWP (c_wp0 72) [q_wq72]) 300 65536 (isatP ((c_wp0 72).2.2.2.1) (c_wp0 72).2.2.2.2.2.2.2.1) (c_wp0 72).2.2.2.2.2.2.2.1 (sin0 mt_all (c_wp0 72).1.1 8 (c_wp0 72).2.1.1 (foot zWP (c_wp0 72).2.2.1.1)) (sin0 mt_all (c_wp0 72).1.2.1 8 (c_wp0 72).2.1.2 (foot zWP (c_wp0 72).2.2.1.2)) = true := by decide +kernel
theorem s_wp72 {X : pX} : SREL X pF pdfl mt_all kR zWP (c_wp0 72) := SREL_QC kR_x kR_0 (Cs := []) (fun C hC => by cases hC) (d := 8) rfl (c_wp0_f 72) (Q := [q_wq72]) (fun ρ0 hv => fun q hq => by
    simp only [List.mem_cons, List.not_mem_nil, or_false] at hq
    rw [hq]; exact (t_wq72 hv : CUTOK X kR zWP c_wn0 8 ρ0 q_wq72)) (QC_run 300 e_wp72)
theorem et_77 : evt[77]? = some (0, 255, 7) := by decide +kernel
noncomputable def q_wR77 : sCut := ((fr 0 10 53 [] [], [fr 0 5 23 [(4, .int 0)] [], fBot], 7), (fr 0 281 150 [] [], [fr 0 277 91 [(3, .int 0)] [], fBot], 7), [((129, .int 77, .arg 60033), true)], [])
noncomputable def q_wq77 : sCut := ((fr 0 5 0 [(0, tr 57), (1, .int 77), (2, .arg 60033)] [], [fBot], 8), (fr 0 277 60 [(0, tr 219), (1, .arg 1308), (2, .int 77), (4, .arg 60033)] [], [fBot], 8), [zf98va_0, zf98va_1, zf98va_2, zf98va_3, zf98va_4, zf98va_5], [])
noncomputable def q_wq77i : sCut := ((fr 0 5 0 [(0, tr 57), (1, .int 77), (2, .arg 60033)] [], [fBot], 8), (fr 0 277 60 [(0, tr 219), (1, .arg 1308), (2, .int 77), (4, .arg 60033)] [], [fBot], 8), [zf98va_0, zf98va_1, zf98va_2, zf98va_3, zf98va_4, zf98va_5], [([((8, .long 240, .arg 60033), false)], (129, .int 77, .arg 60033), true), ([((8, .arg 60033, .long 254), false)], (129, .int 77, .arg 60033), true), zi98va_6])
noncomputable def w_wq77i : List (sCut × List (Nat × sT) × List (Nat × sT × List (sT × sT))) := [(q_wR77, [(60033, .arg 60033), (2848, .op2 .ior (.arg 2848) (.int 8192)), (6850, .arg 6850), (6882, .arg 6882), (6914, .arg 6914), (6946, .arg 6946), (7362, .arg 7362), (7394, .arg 7394), (7426, .arg 7426), (7458, .arg 7458), (7874, .arg 7874), (7906, .int 0), (7938, .arg 7938), (7970, .arg 7970), (21216, .arg 21216), (21248, .int 0), (21280, .arg 21280), (21312, .arg 21312), (6466, .arg 6466), (6498, .arg 6498)], [(1761, .arg 1761, [(.int 77, .arg 60033)])])]
theorem k_wq77i : cbody kR [] (cpl1 zWP c_wn0 [q_wR77]) (cpl2 zWP c_wn0 [q_wR77]) (cleafB kR zWP c_wn0 w_wq77i) 1500 true true q_wq77i.2.2.1 q_wq77i.2.2.2 (cst zWP c_wn0.2.2.1.1 q_wq77i.1) (cst zWP c_wn0.2.2.1.2 q_wq77i.2.1) = true := by decide +kernel
theorem t_wq77i {X : pX} {ρ0 : sR} (hv : vok X ρ0) : CUTOK X kR zWP c_wn0 8 ρ0 q_wq77i := CUTOK_AT (fun ρ k1 hF hI k4 => AT_of (q := q_wq77i) rfl rfl (SEM_runB kR_x kR_0 (Cs := []) (fun C hC => by cases hC) c_wn0_f (Q := w_wq77i) hv 1500 (b1 := true) (b2 := true) k_wq77i k1 hF hI k4 (fun p hp ρ3 m1 m2 m3 m4 m5 m6 => by
  rw [List.mem_singleton.mp hp] at m2 m3 m5 m6 ⊢
  have y3 : ρ3.2.1 60033 = ρ.2.1 60033 := congrArg Prod.snd (m5 (60033, .arg 60033) List.mem_cons_self)
  have hA : ∀ j, ρ3.2.2.2.1 1761 j = if 77 = j then ρ.2.1 60033 else ρ.2.2.2.1 1761 j := fun j => ad_l (X := X) (p := 77) (t := .arg 60033) rfl (m6 _ List.mem_cons_self) j
  have hk : evk 77 (ρ.2.1 60033).toInt = true := by
    have h := m2.2 _ List.mem_cons_self
    rw [← y3]
    exact h
  have ea : ρ3.1 2848 = (sd X ρ (.op2 .ior (.arg 2848) (.int 8192))).1 := congrArg Prod.fst (m5 (2848, .op2 .ior (.arg 2848) (.int 8192)) (List.mem_cons_of_mem _ List.mem_cons_self))
  have eL : ρ3.1 60578 = ρ.1 60578 := (m4.1 60578 (by decide) (by decide)).1.trans (k4.1 60578 (by decide) (by decide)).1.symm
  have mo : sc X ρ3 (2, .op2 .iand (.op2 .iushr (.arg 2848) (.int 4)) (.int 1), .arg 60578) = false := by
    show decide (((ρ3.1 2848).toUInt32 >>> ((4 : Int32).toUInt32 &&& (31 : Int32).toUInt32)).toInt32 &&& 1 < ρ3.1 60578) = false
    rw [ea, eL]
    have q := tbv_ok (X := X) (ρ := ρ) (F := []) (a := .op2 .iand (.op2 .iushr (.op2 .ior (.arg 2848) (.int 8192)) (.int 4)) (.int 1)) (b := .op2 .iand (.op2 .iushr (.arg 2848) (.int 4)) (.int 1)) ⟨hF.1, fun f hf => by cases hf⟩ (by decide +kernel)
    rw [sv_int rfl, sv_int rfl] at q
    exact mn_e (Value.int.inj q) (of_decide_eq_true (hF.2 _ (List.mem_cons_of_mem _ (List.mem_cons_of_mem _ (List.mem_cons_of_mem _ (List.mem_cons_of_mem _ (List.mem_cons_self)))))))
  exact t_wE0 hv ρ3 m1 ⟨m2.1, fcn (ev_nm (g := ρ.2.2.2.1 1761) (p := 77) (hF.2 _ (List.mem_cons_of_mem _ (List.mem_cons_of_mem _ (List.mem_cons_self)))) hk hA (by decide +kernel)) (fcn (pd_up (X := X) (p := 77) (c := 8192) (z := [7906, 21248]) (hF.2 _ (List.mem_cons_of_mem _ (List.mem_cons_of_mem _ (List.mem_cons_of_mem _ (List.mem_cons_self))))) hA (fun x hx => m5 x (List.mem_cons_of_mem _ hx)) k4 m4 wm_0 wb_0 (by decide +kernel)) (fcn (mo) (fnl)))⟩ m3 m4)))
theorem t_wq77 {X : pX} {ρ0 : sR} (hv : vok X ρ0) : CUTOK X kR zWP c_wn0 8 ρ0 q_wq77 := CUT_mono (t_wq77i hv) (fun ρ hF hI => by
  have b0 := rl_lf (x := ρ.2.1 60033) (y := 0) (hF.2 _ (List.mem_cons_self))
  have b1 := rl_lf (x := 255) (y := ρ.2.1 60033) (hF.2 _ (List.mem_cons_of_mem _ (List.mem_cons_self)))
  have y0 : (0 : Int64).toInt = 0 := by decide +kernel
  have y1 : (255 : Int64).toInt = 255 := by decide +kernel
  rw [y0] at b0
  rw [y1] at b1
  exact ⟨hF, ik_c (fun hg => by
    have c0 := rl_lf (x := 240) (y := ρ.2.1 60033) (hg _ List.mem_cons_self)
    have z0 : (240 : Int64).toInt = 240 := rfl
    rw [z0] at c0
    exact wn_129 (p := 77) (q := 77) rfl et_77 b0 b1 (by show (decide ((ρ.2.1 60033).toInt ≤ 240) || _) = true; rw [decide_eq_true c0]; rfl)) (ik_c (fun hg => by
    have c0 := rl_lf (x := ρ.2.1 60033) (y := 254) (hg _ List.mem_cons_self)
    have z0 : (254 : Int64).toInt = 254 := rfl
    rw [z0] at c0
    exact wn_129 (p := 77) (q := 77) rfl et_77 b0 b1 (by
      show (_ || ([254, 255] : List Int).contains (ρ.2.1 60033).toInt) = true
      rw [Bool.or_eq_true, List.contains_iff_mem, List.mem_cons, List.mem_singleton]
      omega)) (ik_c (fun hg => by
    have c0 := rl_lf (x := ρ.2.1 60033) (y := 254) (hg _ List.mem_cons_self)
    have c1 := rl_ef (x := ρ.2.1 60033) (y := 254) (hg _ (List.mem_cons_of_mem _ List.mem_cons_self))
    have z0 : (254 : Int64).toInt = 254 := rfl
    rw [z0] at c0 c1
    exact dl_et (x := ρ.2.1 60033) (y := 255) (show _ = (255 : Int) by omega)) (hI)))⟩)
theorem e_wp77 : frun kR [] (cpl1 zWP (c_wp0 77) [q_wq77]) (cpl2 zWP (c_wp0 77) [q_wq77]) (cleaf kR zWP (c_wp0 77) [q_wq77]) 300 65536 (isatP ((c_wp0 77).2.2.2.1) (c_wp0 77).2.2.2.2.2.2.2.1) (c_wp0 77).2.2.2.2.2.2.2.1 (sin0 mt_all (c_wp0 77).1.1 8 (c_wp0 77).2.1.1 (foot zWP (c_wp0 77).2.2.1.1)) (sin0 mt_all (c_wp0 77).1.2.1 8 (c_wp0 77).2.1.2 (foot zWP (c_wp0 77).2.2.1.2)) = true := by decide +kernel
theorem s_wp77 {X : pX} : SREL X pF pdfl mt_all kR zWP (c_wp0 77) := SREL_QC kR_x kR_0 (Cs := []) (fun C hC => by cases hC) (d := 8) rfl (c_wp0_f 77) (Q := [q_wq77]) (fun ρ0 hv => fun q hq => by
    simp only [List.mem_cons, List.not_mem_nil, or_false] at hq
    rw [hq]; exact (t_wq77 hv : CUTOK X kR zWP c_wn0 8 ρ0 q_wq77)) (QC_run 300 e_wp77)
theorem et_82 : evt[82]? = some (0, 255, 7) := by decide +kernel
noncomputable def q_wR82 : sCut := ((fr 0 10 53 [] [], [fr 0 5 23 [(4, .int 0)] [], fBot], 7), (fr 0 281 150 [] [], [fr 0 277 91 [(3, .int 0)] [], fBot], 7), [((129, .int 82, .arg 60033), true)], [])
noncomputable def q_wq82 : sCut := ((fr 0 5 0 [(0, tr 57), (1, .int 82), (2, .arg 60033)] [], [fBot], 8), (fr 0 277 60 [(0, tr 219), (1, .arg 1308), (2, .int 82), (4, .arg 60033)] [], [fBot], 8), [zf98va_0, zf98va_1, zf98va_2, zf98va_3, zf98va_4, zf98va_5], [])
noncomputable def q_wq82i : sCut := ((fr 0 5 0 [(0, tr 57), (1, .int 82), (2, .arg 60033)] [], [fBot], 8), (fr 0 277 60 [(0, tr 219), (1, .arg 1308), (2, .int 82), (4, .arg 60033)] [], [fBot], 8), [zf98va_0, zf98va_1, zf98va_2, zf98va_3, zf98va_4, zf98va_5], [([((8, .long 240, .arg 60033), false)], (129, .int 82, .arg 60033), true), ([((8, .arg 60033, .long 254), false)], (129, .int 82, .arg 60033), true), zi98va_6])
noncomputable def w_wq82i : List (sCut × List (Nat × sT) × List (Nat × sT × List (sT × sT))) := [(q_wR82, [(60033, .arg 60033), (2848, .op2 .ior (.arg 2848) (.int 16384)), (6850, .arg 6850), (6882, .arg 6882), (6914, .arg 6914), (6946, .arg 6946), (7362, .arg 7362), (7394, .arg 7394), (7426, .arg 7426), (7458, .arg 7458), (7874, .arg 7874), (7906, .arg 7906), (7938, .int 0), (7970, .arg 7970), (21216, .arg 21216), (21248, .arg 21248), (21280, .int 0), (21312, .arg 21312), (6466, .arg 6466), (6498, .arg 6498)], [(1761, .arg 1761, [(.int 82, .arg 60033)])])]
theorem k_wq82i : cbody kR [] (cpl1 zWP c_wn0 [q_wR82]) (cpl2 zWP c_wn0 [q_wR82]) (cleafB kR zWP c_wn0 w_wq82i) 1500 true true q_wq82i.2.2.1 q_wq82i.2.2.2 (cst zWP c_wn0.2.2.1.1 q_wq82i.1) (cst zWP c_wn0.2.2.1.2 q_wq82i.2.1) = true := by decide +kernel
theorem t_wq82i {X : pX} {ρ0 : sR} (hv : vok X ρ0) : CUTOK X kR zWP c_wn0 8 ρ0 q_wq82i := CUTOK_AT (fun ρ k1 hF hI k4 => AT_of (q := q_wq82i) rfl rfl (SEM_runB kR_x kR_0 (Cs := []) (fun C hC => by cases hC) c_wn0_f (Q := w_wq82i) hv 1500 (b1 := true) (b2 := true) k_wq82i k1 hF hI k4 (fun p hp ρ3 m1 m2 m3 m4 m5 m6 => by
  rw [List.mem_singleton.mp hp] at m2 m3 m5 m6 ⊢
  have y3 : ρ3.2.1 60033 = ρ.2.1 60033 := congrArg Prod.snd (m5 (60033, .arg 60033) List.mem_cons_self)
  have hA : ∀ j, ρ3.2.2.2.1 1761 j = if 82 = j then ρ.2.1 60033 else ρ.2.2.2.1 1761 j := fun j => ad_l (X := X) (p := 82) (t := .arg 60033) rfl (m6 _ List.mem_cons_self) j
  have hk : evk 82 (ρ.2.1 60033).toInt = true := by
    have h := m2.2 _ List.mem_cons_self
    rw [← y3]
    exact h
  have ea : ρ3.1 2848 = (sd X ρ (.op2 .ior (.arg 2848) (.int 16384))).1 := congrArg Prod.fst (m5 (2848, .op2 .ior (.arg 2848) (.int 16384)) (List.mem_cons_of_mem _ List.mem_cons_self))
  have eL : ρ3.1 60578 = ρ.1 60578 := (m4.1 60578 (by decide) (by decide)).1.trans (k4.1 60578 (by decide) (by decide)).1.symm
  have mo : sc X ρ3 (2, .op2 .iand (.op2 .iushr (.arg 2848) (.int 4)) (.int 1), .arg 60578) = false := by
    show decide (((ρ3.1 2848).toUInt32 >>> ((4 : Int32).toUInt32 &&& (31 : Int32).toUInt32)).toInt32 &&& 1 < ρ3.1 60578) = false
    rw [ea, eL]
    have q := tbv_ok (X := X) (ρ := ρ) (F := []) (a := .op2 .iand (.op2 .iushr (.op2 .ior (.arg 2848) (.int 16384)) (.int 4)) (.int 1)) (b := .op2 .iand (.op2 .iushr (.arg 2848) (.int 4)) (.int 1)) ⟨hF.1, fun f hf => by cases hf⟩ (by decide +kernel)
    rw [sv_int rfl, sv_int rfl] at q
    exact mn_e (Value.int.inj q) (of_decide_eq_true (hF.2 _ (List.mem_cons_of_mem _ (List.mem_cons_of_mem _ (List.mem_cons_of_mem _ (List.mem_cons_of_mem _ (List.mem_cons_self)))))))
  exact t_wE0 hv ρ3 m1 ⟨m2.1, fcn (ev_nm (g := ρ.2.2.2.1 1761) (p := 82) (hF.2 _ (List.mem_cons_of_mem _ (List.mem_cons_of_mem _ (List.mem_cons_self)))) hk hA (by decide +kernel)) (fcn (pd_up (X := X) (p := 82) (c := 16384) (z := [7938, 21280]) (hF.2 _ (List.mem_cons_of_mem _ (List.mem_cons_of_mem _ (List.mem_cons_of_mem _ (List.mem_cons_self))))) hA (fun x hx => m5 x (List.mem_cons_of_mem _ hx)) k4 m4 wm_0 wb_0 (by decide +kernel)) (fcn (mo) (fnl)))⟩ m3 m4)))
theorem t_wq82 {X : pX} {ρ0 : sR} (hv : vok X ρ0) : CUTOK X kR zWP c_wn0 8 ρ0 q_wq82 := CUT_mono (t_wq82i hv) (fun ρ hF hI => by
  have b0 := rl_lf (x := ρ.2.1 60033) (y := 0) (hF.2 _ (List.mem_cons_self))
  have b1 := rl_lf (x := 255) (y := ρ.2.1 60033) (hF.2 _ (List.mem_cons_of_mem _ (List.mem_cons_self)))
  have y0 : (0 : Int64).toInt = 0 := by decide +kernel
  have y1 : (255 : Int64).toInt = 255 := by decide +kernel
  rw [y0] at b0
  rw [y1] at b1
  exact ⟨hF, ik_c (fun hg => by
    have c0 := rl_lf (x := 240) (y := ρ.2.1 60033) (hg _ List.mem_cons_self)
    have z0 : (240 : Int64).toInt = 240 := rfl
    rw [z0] at c0
    exact wn_129 (p := 82) (q := 82) rfl et_82 b0 b1 (by show (decide ((ρ.2.1 60033).toInt ≤ 240) || _) = true; rw [decide_eq_true c0]; rfl)) (ik_c (fun hg => by
    have c0 := rl_lf (x := ρ.2.1 60033) (y := 254) (hg _ List.mem_cons_self)
    have z0 : (254 : Int64).toInt = 254 := rfl
    rw [z0] at c0
    exact wn_129 (p := 82) (q := 82) rfl et_82 b0 b1 (by
      show (_ || ([254, 255] : List Int).contains (ρ.2.1 60033).toInt) = true
      rw [Bool.or_eq_true, List.contains_iff_mem, List.mem_cons, List.mem_singleton]
      omega)) (ik_c (fun hg => by
    have c0 := rl_lf (x := ρ.2.1 60033) (y := 254) (hg _ List.mem_cons_self)
    have c1 := rl_ef (x := ρ.2.1 60033) (y := 254) (hg _ (List.mem_cons_of_mem _ List.mem_cons_self))
    have z0 : (254 : Int64).toInt = 254 := rfl
    rw [z0] at c0 c1
    exact dl_et (x := ρ.2.1 60033) (y := 255) (show _ = (255 : Int) by omega)) (hI)))⟩)
theorem e_wp82 : frun kR [] (cpl1 zWP (c_wp0 82) [q_wq82]) (cpl2 zWP (c_wp0 82) [q_wq82]) (cleaf kR zWP (c_wp0 82) [q_wq82]) 300 65536 (isatP ((c_wp0 82).2.2.2.1) (c_wp0 82).2.2.2.2.2.2.2.1) (c_wp0 82).2.2.2.2.2.2.2.1 (sin0 mt_all (c_wp0 82).1.1 8 (c_wp0 82).2.1.1 (foot zWP (c_wp0 82).2.2.1.1)) (sin0 mt_all (c_wp0 82).1.2.1 8 (c_wp0 82).2.1.2 (foot zWP (c_wp0 82).2.2.1.2)) = true := by decide +kernel
theorem s_wp82 {X : pX} : SREL X pF pdfl mt_all kR zWP (c_wp0 82) := SREL_QC kR_x kR_0 (Cs := []) (fun C hC => by cases hC) (d := 8) rfl (c_wp0_f 82) (Q := [q_wq82]) (fun ρ0 hv => fun q hq => by
    simp only [List.mem_cons, List.not_mem_nil, or_false] at hq
    rw [hq]; exact (t_wq82 hv : CUTOK X kR zWP c_wn0 8 ρ0 q_wq82)) (QC_run 300 e_wp82)
theorem et_87 : evt[87]? = some (0, 255, 7) := by decide +kernel
noncomputable def q_wR87 : sCut := ((fr 0 10 53 [] [], [fr 0 5 23 [(4, .int 0)] [], fBot], 7), (fr 0 281 150 [] [], [fr 0 277 91 [(3, .int 0)] [], fBot], 7), [((129, .int 87, .arg 60033), true)], [])
noncomputable def q_wq87 : sCut := ((fr 0 5 0 [(0, tr 57), (1, .int 87), (2, .arg 60033)] [], [fBot], 8), (fr 0 277 60 [(0, tr 219), (1, .arg 1308), (2, .int 87), (4, .arg 60033)] [], [fBot], 8), [zf98va_0, zf98va_1, zf98va_2, zf98va_3, zf98va_4, zf98va_5], [])
noncomputable def q_wq87i : sCut := ((fr 0 5 0 [(0, tr 57), (1, .int 87), (2, .arg 60033)] [], [fBot], 8), (fr 0 277 60 [(0, tr 219), (1, .arg 1308), (2, .int 87), (4, .arg 60033)] [], [fBot], 8), [zf98va_0, zf98va_1, zf98va_2, zf98va_3, zf98va_4, zf98va_5], [([((8, .long 240, .arg 60033), false)], (129, .int 87, .arg 60033), true), ([((8, .arg 60033, .long 254), false)], (129, .int 87, .arg 60033), true), zi98va_6])
noncomputable def w_wq87i : List (sCut × List (Nat × sT) × List (Nat × sT × List (sT × sT))) := [(q_wR87, [(60033, .arg 60033), (2848, .op2 .ior (.arg 2848) (.int 32768)), (6850, .arg 6850), (6882, .arg 6882), (6914, .arg 6914), (6946, .arg 6946), (7362, .arg 7362), (7394, .arg 7394), (7426, .arg 7426), (7458, .arg 7458), (7874, .arg 7874), (7906, .arg 7906), (7938, .arg 7938), (7970, .int 0), (21216, .arg 21216), (21248, .arg 21248), (21280, .arg 21280), (21312, .int 0), (6466, .arg 6466), (6498, .arg 6498)], [(1761, .arg 1761, [(.int 87, .arg 60033)])])]
theorem k_wq87i : cbody kR [] (cpl1 zWP c_wn0 [q_wR87]) (cpl2 zWP c_wn0 [q_wR87]) (cleafB kR zWP c_wn0 w_wq87i) 1500 true true q_wq87i.2.2.1 q_wq87i.2.2.2 (cst zWP c_wn0.2.2.1.1 q_wq87i.1) (cst zWP c_wn0.2.2.1.2 q_wq87i.2.1) = true := by decide +kernel
theorem t_wq87i {X : pX} {ρ0 : sR} (hv : vok X ρ0) : CUTOK X kR zWP c_wn0 8 ρ0 q_wq87i := CUTOK_AT (fun ρ k1 hF hI k4 => AT_of (q := q_wq87i) rfl rfl (SEM_runB kR_x kR_0 (Cs := []) (fun C hC => by cases hC) c_wn0_f (Q := w_wq87i) hv 1500 (b1 := true) (b2 := true) k_wq87i k1 hF hI k4 (fun p hp ρ3 m1 m2 m3 m4 m5 m6 => by
  rw [List.mem_singleton.mp hp] at m2 m3 m5 m6 ⊢
  have y3 : ρ3.2.1 60033 = ρ.2.1 60033 := congrArg Prod.snd (m5 (60033, .arg 60033) List.mem_cons_self)
  have hA : ∀ j, ρ3.2.2.2.1 1761 j = if 87 = j then ρ.2.1 60033 else ρ.2.2.2.1 1761 j := fun j => ad_l (X := X) (p := 87) (t := .arg 60033) rfl (m6 _ List.mem_cons_self) j
  have hk : evk 87 (ρ.2.1 60033).toInt = true := by
    have h := m2.2 _ List.mem_cons_self
    rw [← y3]
    exact h
  have ea : ρ3.1 2848 = (sd X ρ (.op2 .ior (.arg 2848) (.int 32768))).1 := congrArg Prod.fst (m5 (2848, .op2 .ior (.arg 2848) (.int 32768)) (List.mem_cons_of_mem _ List.mem_cons_self))
  have eL : ρ3.1 60578 = ρ.1 60578 := (m4.1 60578 (by decide) (by decide)).1.trans (k4.1 60578 (by decide) (by decide)).1.symm
  have mo : sc X ρ3 (2, .op2 .iand (.op2 .iushr (.arg 2848) (.int 4)) (.int 1), .arg 60578) = false := by
    show decide (((ρ3.1 2848).toUInt32 >>> ((4 : Int32).toUInt32 &&& (31 : Int32).toUInt32)).toInt32 &&& 1 < ρ3.1 60578) = false
    rw [ea, eL]
    have q := tbv_ok (X := X) (ρ := ρ) (F := []) (a := .op2 .iand (.op2 .iushr (.op2 .ior (.arg 2848) (.int 32768)) (.int 4)) (.int 1)) (b := .op2 .iand (.op2 .iushr (.arg 2848) (.int 4)) (.int 1)) ⟨hF.1, fun f hf => by cases hf⟩ (by decide +kernel)
    rw [sv_int rfl, sv_int rfl] at q
    exact mn_e (Value.int.inj q) (of_decide_eq_true (hF.2 _ (List.mem_cons_of_mem _ (List.mem_cons_of_mem _ (List.mem_cons_of_mem _ (List.mem_cons_of_mem _ (List.mem_cons_self)))))))
  exact t_wE0 hv ρ3 m1 ⟨m2.1, fcn (ev_nm (g := ρ.2.2.2.1 1761) (p := 87) (hF.2 _ (List.mem_cons_of_mem _ (List.mem_cons_of_mem _ (List.mem_cons_self)))) hk hA (by decide +kernel)) (fcn (pd_up (X := X) (p := 87) (c := 32768) (z := [7970, 21312]) (hF.2 _ (List.mem_cons_of_mem _ (List.mem_cons_of_mem _ (List.mem_cons_of_mem _ (List.mem_cons_self))))) hA (fun x hx => m5 x (List.mem_cons_of_mem _ hx)) k4 m4 wm_0 wb_0 (by decide +kernel)) (fcn (mo) (fnl)))⟩ m3 m4)))
theorem t_wq87 {X : pX} {ρ0 : sR} (hv : vok X ρ0) : CUTOK X kR zWP c_wn0 8 ρ0 q_wq87 := CUT_mono (t_wq87i hv) (fun ρ hF hI => by
  have b0 := rl_lf (x := ρ.2.1 60033) (y := 0) (hF.2 _ (List.mem_cons_self))
  have b1 := rl_lf (x := 255) (y := ρ.2.1 60033) (hF.2 _ (List.mem_cons_of_mem _ (List.mem_cons_self)))
  have y0 : (0 : Int64).toInt = 0 := by decide +kernel
  have y1 : (255 : Int64).toInt = 255 := by decide +kernel
  rw [y0] at b0
  rw [y1] at b1
  exact ⟨hF, ik_c (fun hg => by
    have c0 := rl_lf (x := 240) (y := ρ.2.1 60033) (hg _ List.mem_cons_self)
    have z0 : (240 : Int64).toInt = 240 := rfl
    rw [z0] at c0
    exact wn_129 (p := 87) (q := 87) rfl et_87 b0 b1 (by show (decide ((ρ.2.1 60033).toInt ≤ 240) || _) = true; rw [decide_eq_true c0]; rfl)) (ik_c (fun hg => by
    have c0 := rl_lf (x := ρ.2.1 60033) (y := 254) (hg _ List.mem_cons_self)
    have z0 : (254 : Int64).toInt = 254 := rfl
    rw [z0] at c0
    exact wn_129 (p := 87) (q := 87) rfl et_87 b0 b1 (by
      show (_ || ([254, 255] : List Int).contains (ρ.2.1 60033).toInt) = true
      rw [Bool.or_eq_true, List.contains_iff_mem, List.mem_cons, List.mem_singleton]
      omega)) (ik_c (fun hg => by
    have c0 := rl_lf (x := ρ.2.1 60033) (y := 254) (hg _ List.mem_cons_self)
    have c1 := rl_ef (x := ρ.2.1 60033) (y := 254) (hg _ (List.mem_cons_of_mem _ List.mem_cons_self))
    have z0 : (254 : Int64).toInt = 254 := rfl
    rw [z0] at c0 c1
    exact dl_et (x := ρ.2.1 60033) (y := 255) (show _ = (255 : Int) by omega)) (hI)))⟩)
theorem e_wp87 : frun kR [] (cpl1 zWP (c_wp0 87) [q_wq87]) (cpl2 zWP (c_wp0 87) [q_wq87]) (cleaf kR zWP (c_wp0 87) [q_wq87]) 300 65536 (isatP ((c_wp0 87).2.2.2.1) (c_wp0 87).2.2.2.2.2.2.2.1) (c_wp0 87).2.2.2.2.2.2.2.1 (sin0 mt_all (c_wp0 87).1.1 8 (c_wp0 87).2.1.1 (foot zWP (c_wp0 87).2.2.1.1)) (sin0 mt_all (c_wp0 87).1.2.1 8 (c_wp0 87).2.1.2 (foot zWP (c_wp0 87).2.2.1.2)) = true := by decide +kernel
theorem s_wp87 {X : pX} : SREL X pF pdfl mt_all kR zWP (c_wp0 87) := SREL_QC kR_x kR_0 (Cs := []) (fun C hC => by cases hC) (d := 8) rfl (c_wp0_f 87) (Q := [q_wq87]) (fun ρ0 hv => fun q hq => by
    simp only [List.mem_cons, List.not_mem_nil, or_false] at hq
    rw [hq]; exact (t_wq87 hv : CUTOK X kR zWP c_wn0 8 ρ0 q_wq87)) (QC_run 300 e_wp87)
theorem et_90 : evt[90]? = some (0, 4, 0) := by decide +kernel
noncomputable def q_wR90 : sCut := ((fr 0 10 53 [] [], [fr 0 5 23 [(4, .int 0)] [], fBot], 7), (fr 0 281 150 [] [], [fr 0 277 91 [(3, .int 0)] [], fBot], 7), [((129, .int 90, .arg 60033), true)], [])
noncomputable def zf98va_41 : sQ × Bool := ((6, .op2 .land (.elem (.arg 1761) (.int 71)) (.long 2147483648), .long 0), false)
noncomputable def zi98va_42 : sFs × sQ × Bool := ([((6, .op2 .land (.elem (.arg 1761) (.int 71)) (.long 2147483648), .long 0), false)], (6, .op2 .land (.op2 .lshr (.elem (.arg 1761) (.int 71)) (.int 31)) (.long 1), .long 1), true)
noncomputable def zi98va_43 : sFs × sQ × Bool := ([((6, .op2 .land (.elem (.arg 1761) (.int 71)) (.long 2147483648), .long 0), true)], (6, .op2 .land (.op2 .lshr (.elem (.arg 1761) (.int 71)) (.int 31)) (.long 1), .long 0), true)
noncomputable def zi98va_44 : sFs × sQ × Bool := ([((8, .long 4, .arg 60033), false)], (129, .int 90, .arg 60033), true)
noncomputable def q_wv90i : sCut := ((fr 0 5 0 [(0, tr 57), (1, .int 90), (2, .arg 60033)] [], [fBot], 8), (fr 0 277 60 [(0, tr 219), (1, .arg 1308), (2, .int 90), (4, .arg 60033)] [], [fBot], 8), [zf98va_41, zf98va_0, zf98va_1, zf98va_2, zf98va_3, zf98va_4, zf98va_5], [zi98va_42, zi98va_43, zi98va_44])
noncomputable def zf98va_45 : sQ × Bool := ((109, .add (.int 6656) (.int 1), .add (.int 90) (.int 1)), true)
noncomputable def zf98va_46 : sQ × Bool := ((109, .add (.int 6656) (.int 2), .add (.int 90) (.int 2)), true)
noncomputable def zf98va_47 : sQ × Bool := ((109, .add (.int 6656) (.int 3), .add (.int 90) (.int 3)), true)
noncomputable def zf98va_48 : sQ × Bool := ((109, .add (.int 6656) (.int 4), .add (.int 90) (.int 4)), true)
noncomputable def q_wv90io : sCut := ((fr 0 5 0 [(0, tr 57), (1, .int 90), (2, .arg 60033)] [], [fBot], 8), (fr 0 277 60 [(0, tr 219), (1, .arg 1308), (2, .int 90), (4, .arg 60033)] [], [fBot], 8), [((139, .add (.elem (.arg 1761) (.int 0)) (.add (.int 90) (.arg 60033)), .int 0), true), zf98va_45, zf98va_46, zf98va_47, zf98va_48, zf98va_41, zf98va_0, zf98va_1, zf98va_2, zf98va_3, zf98va_4, zf98va_5], [zi98va_42, zi98va_43, zi98va_44])
noncomputable def w_wv90io : List (sCut × List (Nat × sT) × List (Nat × sT × List (sT × sT))) := [(q_wR90, [(60033, .arg 60033), (2848, .op2 .ior (.arg 2848) (.int 4096)), (6850, .arg 6850), (6882, .arg 6882), (6914, .arg 6914), (6946, .arg 6946), (7362, .arg 7362), (7394, .arg 7394), (7426, .arg 7426), (7458, .arg 7458), (7874, .int 0), (7906, .arg 7906), (7938, .arg 7938), (7970, .arg 7970), (21216, .int 0), (21248, .arg 21248), (21280, .arg 21280), (21312, .arg 21312), (6466, .arg 6466), (6498, .arg 6498)], [(1761, .arg 1761, [(.int 90, .arg 60033)])])]
theorem k_wv90io : cbody kR [(zWP, c_mapo)] (cpl1 zWP c_wn0 [q_wR90]) (cpl2 zWP c_wn0 [q_wR90]) (cleafB kR zWP c_wn0 w_wv90io) 1500 true true q_wv90io.2.2.1 q_wv90io.2.2.2 (cst zWP c_wn0.2.2.1.1 q_wv90io.1) (cst zWP c_wn0.2.2.1.2 q_wv90io.2.1) = true := by decide +kernel
theorem t_wv90io {X : pX} {ρ0 : sR} (hv : vok X ρ0) : CUTOK X kR zWP c_wn0 8 ρ0 q_wv90io := CUTOK_AT (fun ρ k1 hF hI k4 => AT_of (q := q_wv90io) rfl rfl (SEM_runB kR_x kR_0 (Cs := [(zWP, c_mapo)]) (fun C hC => by rw [List.mem_singleton.mp hC]; exact s_mapo) c_wn0_f (Q := w_wv90io) hv 1500 (b1 := true) (b2 := true) k_wv90io k1 hF hI k4 (fun p hp ρ3 m1 m2 m3 m4 m5 m6 => by
  rw [List.mem_singleton.mp hp] at m2 m3 m5 m6 ⊢
  have y3 : ρ3.2.1 60033 = ρ.2.1 60033 := congrArg Prod.snd (m5 (60033, .arg 60033) List.mem_cons_self)
  have hA : ∀ j, ρ3.2.2.2.1 1761 j = if 90 = j then ρ.2.1 60033 else ρ.2.2.2.1 1761 j := fun j => ad_l (X := X) (p := 90) (t := .arg 60033) rfl (m6 _ List.mem_cons_self) j
  have hk : evk 90 (ρ.2.1 60033).toInt = true := by
    have h := m2.2 _ List.mem_cons_self
    rw [← y3]
    exact h
  have hc : (0 : Int) = amcode (ρ.2.2.2.1 1761) 90 (ρ.2.1 60033).toInt.toNat := of_decide_eq_true (hF.2 _ (List.mem_cons_self))
  have ea : ρ3.1 2848 = (sd X ρ (.op2 .ior (.arg 2848) (.int 4096))).1 := congrArg Prod.fst (m5 (2848, .op2 .ior (.arg 2848) (.int 4096)) (List.mem_cons_of_mem _ List.mem_cons_self))
  have eL : ρ3.1 60578 = ρ.1 60578 := (m4.1 60578 (by decide) (by decide)).1.trans (k4.1 60578 (by decide) (by decide)).1.symm
  have mo : sc X ρ3 (2, .op2 .iand (.op2 .iushr (.arg 2848) (.int 4)) (.int 1), .arg 60578) = false := by
    show decide (((ρ3.1 2848).toUInt32 >>> ((4 : Int32).toUInt32 &&& (31 : Int32).toUInt32)).toInt32 &&& 1 < ρ3.1 60578) = false
    rw [ea, eL]
    have q := tbv_ok (X := X) (ρ := ρ) (F := []) (a := .op2 .iand (.op2 .iushr (.op2 .ior (.arg 2848) (.int 4096)) (.int 4)) (.int 1)) (b := .op2 .iand (.op2 .iushr (.arg 2848) (.int 4)) (.int 1)) ⟨hF.1, fun f hf => by cases hf⟩ (by decide +kernel)
    rw [sv_int rfl, sv_int rfl] at q
    exact mn_e (Value.int.inj q) (of_decide_eq_true (hF.2 _ (List.mem_cons_of_mem _ (List.mem_cons_of_mem _ (List.mem_cons_of_mem _ (List.mem_cons_of_mem _ (List.mem_cons_of_mem _ (List.mem_cons_of_mem _ (List.mem_cons_of_mem _ (List.mem_cons_of_mem _ (List.mem_cons_of_mem _ (List.mem_cons_of_mem _ (List.mem_cons_self)))))))))))))
  exact t_wE0 hv ρ3 m1 ⟨m2.1, fcn (ev_ct (g := ρ.2.2.2.1 1761) (m := 90) (hF.2 _ (List.mem_cons_of_mem _ (List.mem_cons_of_mem _ (List.mem_cons_of_mem _ (List.mem_cons_of_mem _ (List.mem_cons_of_mem _ (List.mem_cons_of_mem _ (List.mem_cons_of_mem _ (List.mem_cons_of_mem _ (List.mem_cons_self)))))))))) hk hA hc.symm (by decide +kernel)) (fcn (pd_up (X := X) (p := 90) (c := 4096) (z := [7874, 21216]) (hF.2 _ (List.mem_cons_of_mem _ (List.mem_cons_of_mem _ (List.mem_cons_of_mem _ (List.mem_cons_of_mem _ (List.mem_cons_of_mem _ (List.mem_cons_of_mem _ (List.mem_cons_of_mem _ (List.mem_cons_of_mem _ (List.mem_cons_of_mem _ (List.mem_cons_self))))))))))) hA (fun x hx => m5 x (List.mem_cons_of_mem _ hx)) k4 m4 wm_0 wb_0 (by decide +kernel)) (fcn (mo) (fnl)))⟩ m3 m4)))
noncomputable def q_wv90in : sCut := ((fr 0 5 0 [(0, tr 57), (1, .int 90), (2, .arg 60033)] [], [fBot], 8), (fr 0 277 60 [(0, tr 219), (1, .arg 1308), (2, .int 90), (4, .arg 60033)] [], [fBot], 8), [((139, .add (.elem (.arg 1761) (.int 0)) (.add (.int 90) (.arg 60033)), .int 100925505), true), zf98va_45, zf98va_46, zf98va_47, zf98va_48, zf98va_41, zf98va_0, zf98va_1, zf98va_2, zf98va_3, zf98va_4, zf98va_5], [zi98va_42, zi98va_43, zi98va_44])
theorem k_wv90in : cbody kR [(zWP, c_mapn)] (cpl1 zWP c_wn0 []) (cpl2 zWP c_wn0 []) (cleaf kR zWP c_wn0 []) 1500 true true q_wv90in.2.2.1 q_wv90in.2.2.2 (cst zWP c_wn0.2.2.1.1 q_wv90in.1) (cst zWP c_wn0.2.2.1.2 q_wv90in.2.1) = true := by decide +kernel
theorem t_wv90in {X : pX} {ρ0 : sR} (hv : vok X ρ0) : CUTOK X kR zWP c_wn0 8 ρ0 q_wv90in := CUT_run kR_x kR_0 (Cs := [(zWP, c_mapn)]) (fun C hC => by rw [List.mem_singleton.mp hC]; exact s_mapn) c_wn0_f (Q := []) hv (fun q hq => by cases hq) 1500 (b1 := true) (b2 := true) k_wv90in
noncomputable def q_wv90il : sCut := ((fr 0 5 0 [(0, tr 57), (1, .int 90), (2, .arg 60033)] [], [fBot], 8), (fr 0 277 60 [(0, tr 219), (1, .arg 1308), (2, .int 90), (4, .arg 60033)] [], [fBot], 8), [((139, .add (.elem (.arg 1761) (.int 0)) (.add (.int 90) (.arg 60033)), .int 100925506), true), zf98va_45, zf98va_46, zf98va_47, zf98va_48, zf98va_41, zf98va_0, zf98va_1, zf98va_2, zf98va_3, zf98va_4, zf98va_5], [zi98va_42, zi98va_43, zi98va_44])
theorem k_wv90il : cbody kR [(zWP, c_mapl)] (cpl1 zWP c_wn0 []) (cpl2 zWP c_wn0 []) (cleaf kR zWP c_wn0 []) 1500 true true q_wv90il.2.2.1 q_wv90il.2.2.2 (cst zWP c_wn0.2.2.1.1 q_wv90il.1) (cst zWP c_wn0.2.2.1.2 q_wv90il.2.1) = true := by decide +kernel
theorem t_wv90il {X : pX} {ρ0 : sR} (hv : vok X ρ0) : CUTOK X kR zWP c_wn0 8 ρ0 q_wv90il := CUT_run kR_x kR_0 (Cs := [(zWP, c_mapl)]) (fun C hC => by rw [List.mem_singleton.mp hC]; exact s_mapl) c_wn0_f (Q := []) hv (fun q hq => by cases hq) 1500 (b1 := true) (b2 := true) k_wv90il
theorem t_wv90i {X : pX} {ρ0 : sR} (hv : vok X ρ0) : CUTOK X kR zWP c_wn0 8 ρ0 q_wv90i := fun ρ k1 hF hI k4 => by
  have mm : sc X ρ (109, .add (.int 6656) (.int 1), .add (.int 90) (.int 1)) = true ∧ sc X ρ (109, .add (.int 6656) (.int 2), .add (.int 90) (.int 2)) = true ∧ sc X ρ (109, .add (.int 6656) (.int 3), .add (.int 90) (.int 3)) = true ∧ sc X ρ (109, .add (.int 6656) (.int 4), .add (.int 90) (.int 4)) = true := ⟨wn_9 (by decide +kernel), wn_9 (by decide +kernel), wn_9 (by decide +kernel), wn_9 (by decide +kernel)⟩
  rcases am_3 (g := ρ.2.2.2.1 1761) (m := 90) (n := (ρ.2.1 60033).toInt.toNat) with h | h | h
  · exact t_wv90io hv ρ k1 ⟨hF.1, fcn (decide_eq_true h.symm) (fcn (mm.1) (fcn (mm.2.1) (fcn (mm.2.2.1) (fcn (mm.2.2.2) (hF.2)))))⟩ hI k4
  · exact t_wv90in hv ρ k1 ⟨hF.1, fcn (decide_eq_true h.symm) (fcn (mm.1) (fcn (mm.2.1) (fcn (mm.2.2.1) (fcn (mm.2.2.2) (hF.2)))))⟩ hI k4
  · exact t_wv90il hv ρ k1 ⟨hF.1, fcn (decide_eq_true h.symm) (fcn (mm.1) (fcn (mm.2.1) (fcn (mm.2.2.1) (fcn (mm.2.2.2) (hF.2)))))⟩ hI k4
noncomputable def q_wv90 : sCut := ((fr 0 5 0 [(0, tr 57), (1, .int 90), (2, .arg 60033)] [], [fBot], 8), (fr 0 277 60 [(0, tr 219), (1, .arg 1308), (2, .int 90), (4, .arg 60033)] [], [fBot], 8), [zf98va_41, zf98va_0, zf98va_1, zf98va_2, zf98va_3, zf98va_4, zf98va_5], [])
theorem t_wv90 {X : pX} {ρ0 : sR} (hv : vok X ρ0) : CUTOK X kR zWP c_wn0 8 ρ0 q_wv90 := CUT_mono (t_wv90i hv) (fun ρ hF hI => by
  have b0 := rl_lf (x := ρ.2.1 60033) (y := 0) (hF.2 _ (List.mem_cons_of_mem _ (List.mem_cons_self)))
  have b1 := rl_lf (x := 255) (y := ρ.2.1 60033) (hF.2 _ (List.mem_cons_of_mem _ (List.mem_cons_of_mem _ (List.mem_cons_self))))
  have y0 : (0 : Int64).toInt = 0 := by decide +kernel
  have y1 : (255 : Int64).toInt = 255 := by decide +kernel
  rw [y0] at b0
  rw [y1] at b1
  exact ⟨hF, ik_c (fun hg => decide_eq_true (of_1 (x := ρ.2.2.2.1 1761 71) (of_decide_eq_false (hg _ List.mem_cons_self)))) (ik_c (fun hg => decide_eq_true (of_0 (x := ρ.2.2.2.1 1761 71) (of_decide_eq_true (hg _ List.mem_cons_self)))) (ik_c (fun hg => by
    have c1 := rl_lf (x := 4) (y := ρ.2.1 60033) (hg _ List.mem_cons_self)
    have z1 : (4 : Int64).toInt = 4 := rfl
    rw [z1] at c1
    exact wn_129 (p := 90) (q := 90) rfl et_90 b0 c1 rfl) (hI)))⟩)
noncomputable def q_wq90 : sCut := ((fr 0 5 0 [(0, tr 57), (1, .int 90), (2, .arg 60033)] [], [fBot], 8), (fr 0 277 35 [(0, tr 219), (1, .arg 1308), (2, .int 90)] [], [fBot], 8), [zf98va_15, zf98va_16, zf98va_0, zf98va_1, zf98va_2, zf98va_3, zf98va_4, zf98va_5], [])
noncomputable def q_wq90i : sCut := ((fr 0 5 0 [(0, tr 57), (1, .int 90), (2, .arg 60033)] [], [fBot], 8), (fr 0 277 35 [(0, tr 219), (1, .arg 1308), (2, .int 90)] [], [fBot], 8), [zf98va_15, zf98va_16, zf98va_0, zf98va_1, zf98va_2, zf98va_3, zf98va_4, zf98va_5], [zi98va_42, zi98va_43, zi98va_44])
noncomputable def q_wq90iy : sCut := ((fr 0 5 0 [(0, tr 57), (1, .int 90), (2, .arg 60033)] [], [fBot], 8), (fr 0 277 35 [(0, tr 219), (1, .arg 1308), (2, .int 90)] [], [fBot], 8), [((6, .op2 .land (.elem (.arg 1761) (.int 71)) (.long 2147483648), .long 0), true), zf98va_15, zf98va_16, zf98va_0, zf98va_1, zf98va_2, zf98va_3, zf98va_4, zf98va_5], [zi98va_42, zi98va_43, zi98va_44])
theorem k_wq90iy : cbody kR [] (cpl1 zWP c_wn0 []) (cpl2 zWP c_wn0 []) (cleaf kR zWP c_wn0 []) 1500 true true q_wq90iy.2.2.1 q_wq90iy.2.2.2 (cst zWP c_wn0.2.2.1.1 q_wq90iy.1) (cst zWP c_wn0.2.2.1.2 q_wq90iy.2.1) = true := by decide +kernel
theorem t_wq90iy {X : pX} {ρ0 : sR} (hv : vok X ρ0) : CUTOK X kR zWP c_wn0 8 ρ0 q_wq90iy := CUT_run kR_x kR_0 (Cs := []) (fun C hC => by cases hC) c_wn0_f (Q := []) hv (fun q hq => by cases hq) 1500 (b1 := true) (b2 := true) k_wq90iy
noncomputable def q_wq90in : sCut := ((fr 0 5 0 [(0, tr 57), (1, .int 90), (2, .arg 60033)] [], [fBot], 8), (fr 0 277 35 [(0, tr 219), (1, .arg 1308), (2, .int 90)] [], [fBot], 8), [((6, .op2 .land (.op2 .lshr (.elem (.arg 1761) (.int 71)) (.int 31)) (.long 1), .long 1), true), zf98va_41, zf98va_15, zf98va_16, zf98va_0, zf98va_1, zf98va_2, zf98va_3, zf98va_4, zf98va_5], [zi98va_42, zi98va_43, zi98va_44])
theorem k_wq90in : cbody kR [] (cpl1 zWP c_wn0 [q_wv90]) (cpl2 zWP c_wn0 [q_wv90]) (cleaf kR zWP c_wn0 [q_wv90]) 1500 false true q_wq90in.2.2.1 q_wq90in.2.2.2 (cst zWP c_wn0.2.2.1.1 q_wq90in.1) (cst zWP c_wn0.2.2.1.2 q_wq90in.2.1) = true := by decide +kernel
theorem t_wq90in {X : pX} {ρ0 : sR} (hv : vok X ρ0) : CUTOK X kR zWP c_wn0 8 ρ0 q_wq90in := CUT_run kR_x kR_0 (Cs := []) (fun C hC => by cases hC) c_wn0_f (Q := [q_wv90]) hv (fun q hq => by
    simp only [List.mem_cons, List.not_mem_nil, or_false] at hq
    rw [hq]; exact t_wv90 hv) 1500 (b1 := false) (b2 := true) k_wq90in
theorem t_wq90i {X : pX} {ρ0 : sR} (hv : vok X ρ0) : CUTOK X kR zWP c_wn0 8 ρ0 q_wq90i := CUT_split (6, .op2 .land (.elem (.arg 1761) (.int 71)) (.long 2147483648), .long 0) (t_wq90iy hv) (CUT_mono (t_wq90in hv) (fun ρ hF hI => ⟨⟨hF.1, by
    exact fcn (decide_eq_true (of_1 (x := ρ.2.2.2.1 1761 71) (of_decide_eq_false (hF.2 _ List.mem_cons_self)))) hF.2⟩, hI⟩))
theorem t_wq90 {X : pX} {ρ0 : sR} (hv : vok X ρ0) : CUTOK X kR zWP c_wn0 8 ρ0 q_wq90 := CUT_mono (t_wq90i hv) (fun ρ hF hI => by
  have b0 := rl_lf (x := ρ.2.1 60033) (y := 0) (hF.2 _ (List.mem_cons_of_mem _ (List.mem_cons_of_mem _ (List.mem_cons_self))))
  have b1 := rl_lf (x := 255) (y := ρ.2.1 60033) (hF.2 _ (List.mem_cons_of_mem _ (List.mem_cons_of_mem _ (List.mem_cons_of_mem _ (List.mem_cons_self)))))
  have y0 : (0 : Int64).toInt = 0 := by decide +kernel
  have y1 : (255 : Int64).toInt = 255 := by decide +kernel
  rw [y0] at b0
  rw [y1] at b1
  exact ⟨hF, ik_c (fun hg => decide_eq_true (of_1 (x := ρ.2.2.2.1 1761 71) (of_decide_eq_false (hg _ List.mem_cons_self)))) (ik_c (fun hg => decide_eq_true (of_0 (x := ρ.2.2.2.1 1761 71) (of_decide_eq_true (hg _ List.mem_cons_self)))) (ik_c (fun hg => by
    have c1 := rl_lf (x := 4) (y := ρ.2.1 60033) (hg _ List.mem_cons_self)
    have z1 : (4 : Int64).toInt = 4 := rfl
    rw [z1] at c1
    exact wn_129 (p := 90) (q := 90) rfl et_90 b0 c1 rfl) (hI)))⟩)
theorem e_wp90 : frun kR [] (cpl1 zWP (c_wp0 90) [q_wq90]) (cpl2 zWP (c_wp0 90) [q_wq90]) (cleaf kR zWP (c_wp0 90) [q_wq90]) 300 65536 (isatP ((c_wp0 90).2.2.2.1) (c_wp0 90).2.2.2.2.2.2.2.1) (c_wp0 90).2.2.2.2.2.2.2.1 (sin0 mt_all (c_wp0 90).1.1 8 (c_wp0 90).2.1.1 (foot zWP (c_wp0 90).2.2.1.1)) (sin0 mt_all (c_wp0 90).1.2.1 8 (c_wp0 90).2.1.2 (foot zWP (c_wp0 90).2.2.1.2)) = true := by decide +kernel
theorem s_wp90 {X : pX} : SREL X pF pdfl mt_all kR zWP (c_wp0 90) := SREL_QC kR_x kR_0 (Cs := []) (fun C hC => by cases hC) (d := 8) rfl (c_wp0_f 90) (Q := [q_wq90]) (fun ρ0 hv => fun q hq => by
    simp only [List.mem_cons, List.not_mem_nil, or_false] at hq
    rw [hq]; exact (t_wq90 hv : CUTOK X kR zWP c_wn0 8 ρ0 q_wq90)) (QC_run 300 e_wp90)
theorem et_95 : evt[95]? = some (0, 4, 0) := by decide +kernel
noncomputable def q_wR95 : sCut := ((fr 0 10 53 [] [], [fr 0 5 23 [(4, .int 0)] [], fBot], 7), (fr 0 281 150 [] [], [fr 0 277 91 [(3, .int 0)] [], fBot], 7), [((129, .int 95, .arg 60033), true)], [])
noncomputable def zf98va_49 : sQ × Bool := ((6, .op2 .land (.elem (.arg 1761) (.int 76)) (.long 2147483648), .long 0), false)
noncomputable def zi98va_50 : sFs × sQ × Bool := ([((6, .op2 .land (.elem (.arg 1761) (.int 76)) (.long 2147483648), .long 0), false)], (6, .op2 .land (.op2 .lshr (.elem (.arg 1761) (.int 76)) (.int 31)) (.long 1), .long 1), true)
noncomputable def zi98va_51 : sFs × sQ × Bool := ([((6, .op2 .land (.elem (.arg 1761) (.int 76)) (.long 2147483648), .long 0), true)], (6, .op2 .land (.op2 .lshr (.elem (.arg 1761) (.int 76)) (.int 31)) (.long 1), .long 0), true)
noncomputable def zi98va_52 : sFs × sQ × Bool := ([((8, .long 4, .arg 60033), false)], (129, .int 95, .arg 60033), true)
noncomputable def q_wv95i : sCut := ((fr 0 5 0 [(0, tr 57), (1, .int 95), (2, .arg 60033)] [], [fBot], 8), (fr 0 277 60 [(0, tr 219), (1, .arg 1308), (2, .int 95), (4, .arg 60033)] [], [fBot], 8), [zf98va_49, zf98va_0, zf98va_1, zf98va_2, zf98va_3, zf98va_4, zf98va_5], [zi98va_50, zi98va_51, zi98va_52])
noncomputable def zf98va_53 : sQ × Bool := ((109, .add (.int 6657) (.int 1), .add (.int 95) (.int 1)), true)
noncomputable def zf98va_54 : sQ × Bool := ((109, .add (.int 6657) (.int 2), .add (.int 95) (.int 2)), true)
noncomputable def zf98va_55 : sQ × Bool := ((109, .add (.int 6657) (.int 3), .add (.int 95) (.int 3)), true)
noncomputable def zf98va_56 : sQ × Bool := ((109, .add (.int 6657) (.int 4), .add (.int 95) (.int 4)), true)
noncomputable def q_wv95io : sCut := ((fr 0 5 0 [(0, tr 57), (1, .int 95), (2, .arg 60033)] [], [fBot], 8), (fr 0 277 60 [(0, tr 219), (1, .arg 1308), (2, .int 95), (4, .arg 60033)] [], [fBot], 8), [((139, .add (.elem (.arg 1761) (.int 0)) (.add (.int 95) (.arg 60033)), .int 0), true), zf98va_53, zf98va_54, zf98va_55, zf98va_56, zf98va_49, zf98va_0, zf98va_1, zf98va_2, zf98va_3, zf98va_4, zf98va_5], [zi98va_50, zi98va_51, zi98va_52])
noncomputable def w_wv95io : List (sCut × List (Nat × sT) × List (Nat × sT × List (sT × sT))) := [(q_wR95, [(60033, .arg 60033), (2848, .op2 .ior (.arg 2848) (.int 8192)), (6850, .arg 6850), (6882, .arg 6882), (6914, .arg 6914), (6946, .arg 6946), (7362, .arg 7362), (7394, .arg 7394), (7426, .arg 7426), (7458, .arg 7458), (7874, .arg 7874), (7906, .int 0), (7938, .arg 7938), (7970, .arg 7970), (21216, .arg 21216), (21248, .int 0), (21280, .arg 21280), (21312, .arg 21312), (6466, .arg 6466), (6498, .arg 6498)], [(1761, .arg 1761, [(.int 95, .arg 60033)])])]
theorem k_wv95io : cbody kR [(zWP, c_mapo)] (cpl1 zWP c_wn0 [q_wR95]) (cpl2 zWP c_wn0 [q_wR95]) (cleafB kR zWP c_wn0 w_wv95io) 1500 true true q_wv95io.2.2.1 q_wv95io.2.2.2 (cst zWP c_wn0.2.2.1.1 q_wv95io.1) (cst zWP c_wn0.2.2.1.2 q_wv95io.2.1) = true := by decide +kernel
theorem t_wv95io {X : pX} {ρ0 : sR} (hv : vok X ρ0) : CUTOK X kR zWP c_wn0 8 ρ0 q_wv95io := CUTOK_AT (fun ρ k1 hF hI k4 => AT_of (q := q_wv95io) rfl rfl (SEM_runB kR_x kR_0 (Cs := [(zWP, c_mapo)]) (fun C hC => by rw [List.mem_singleton.mp hC]; exact s_mapo) c_wn0_f (Q := w_wv95io) hv 1500 (b1 := true) (b2 := true) k_wv95io k1 hF hI k4 (fun p hp ρ3 m1 m2 m3 m4 m5 m6 => by
  rw [List.mem_singleton.mp hp] at m2 m3 m5 m6 ⊢
  have y3 : ρ3.2.1 60033 = ρ.2.1 60033 := congrArg Prod.snd (m5 (60033, .arg 60033) List.mem_cons_self)
  have hA : ∀ j, ρ3.2.2.2.1 1761 j = if 95 = j then ρ.2.1 60033 else ρ.2.2.2.1 1761 j := fun j => ad_l (X := X) (p := 95) (t := .arg 60033) rfl (m6 _ List.mem_cons_self) j
  have hk : evk 95 (ρ.2.1 60033).toInt = true := by
    have h := m2.2 _ List.mem_cons_self
    rw [← y3]
    exact h
  have hc : (0 : Int) = amcode (ρ.2.2.2.1 1761) 95 (ρ.2.1 60033).toInt.toNat := of_decide_eq_true (hF.2 _ (List.mem_cons_self))
  have ea : ρ3.1 2848 = (sd X ρ (.op2 .ior (.arg 2848) (.int 8192))).1 := congrArg Prod.fst (m5 (2848, .op2 .ior (.arg 2848) (.int 8192)) (List.mem_cons_of_mem _ List.mem_cons_self))
  have eL : ρ3.1 60578 = ρ.1 60578 := (m4.1 60578 (by decide) (by decide)).1.trans (k4.1 60578 (by decide) (by decide)).1.symm
  have mo : sc X ρ3 (2, .op2 .iand (.op2 .iushr (.arg 2848) (.int 4)) (.int 1), .arg 60578) = false := by
    show decide (((ρ3.1 2848).toUInt32 >>> ((4 : Int32).toUInt32 &&& (31 : Int32).toUInt32)).toInt32 &&& 1 < ρ3.1 60578) = false
    rw [ea, eL]
    have q := tbv_ok (X := X) (ρ := ρ) (F := []) (a := .op2 .iand (.op2 .iushr (.op2 .ior (.arg 2848) (.int 8192)) (.int 4)) (.int 1)) (b := .op2 .iand (.op2 .iushr (.arg 2848) (.int 4)) (.int 1)) ⟨hF.1, fun f hf => by cases hf⟩ (by decide +kernel)
    rw [sv_int rfl, sv_int rfl] at q
    exact mn_e (Value.int.inj q) (of_decide_eq_true (hF.2 _ (List.mem_cons_of_mem _ (List.mem_cons_of_mem _ (List.mem_cons_of_mem _ (List.mem_cons_of_mem _ (List.mem_cons_of_mem _ (List.mem_cons_of_mem _ (List.mem_cons_of_mem _ (List.mem_cons_of_mem _ (List.mem_cons_of_mem _ (List.mem_cons_of_mem _ (List.mem_cons_self)))))))))))))
  exact t_wE0 hv ρ3 m1 ⟨m2.1, fcn (ev_ct (g := ρ.2.2.2.1 1761) (m := 95) (hF.2 _ (List.mem_cons_of_mem _ (List.mem_cons_of_mem _ (List.mem_cons_of_mem _ (List.mem_cons_of_mem _ (List.mem_cons_of_mem _ (List.mem_cons_of_mem _ (List.mem_cons_of_mem _ (List.mem_cons_of_mem _ (List.mem_cons_self)))))))))) hk hA hc.symm (by decide +kernel)) (fcn (pd_up (X := X) (p := 95) (c := 8192) (z := [7906, 21248]) (hF.2 _ (List.mem_cons_of_mem _ (List.mem_cons_of_mem _ (List.mem_cons_of_mem _ (List.mem_cons_of_mem _ (List.mem_cons_of_mem _ (List.mem_cons_of_mem _ (List.mem_cons_of_mem _ (List.mem_cons_of_mem _ (List.mem_cons_of_mem _ (List.mem_cons_self))))))))))) hA (fun x hx => m5 x (List.mem_cons_of_mem _ hx)) k4 m4 wm_0 wb_0 (by decide +kernel)) (fcn (mo) (fnl)))⟩ m3 m4)))
noncomputable def q_wv95in : sCut := ((fr 0 5 0 [(0, tr 57), (1, .int 95), (2, .arg 60033)] [], [fBot], 8), (fr 0 277 60 [(0, tr 219), (1, .arg 1308), (2, .int 95), (4, .arg 60033)] [], [fBot], 8), [((139, .add (.elem (.arg 1761) (.int 0)) (.add (.int 95) (.arg 60033)), .int 100925505), true), zf98va_53, zf98va_54, zf98va_55, zf98va_56, zf98va_49, zf98va_0, zf98va_1, zf98va_2, zf98va_3, zf98va_4, zf98va_5], [zi98va_50, zi98va_51, zi98va_52])
theorem k_wv95in : cbody kR [(zWP, c_mapn)] (cpl1 zWP c_wn0 []) (cpl2 zWP c_wn0 []) (cleaf kR zWP c_wn0 []) 1500 true true q_wv95in.2.2.1 q_wv95in.2.2.2 (cst zWP c_wn0.2.2.1.1 q_wv95in.1) (cst zWP c_wn0.2.2.1.2 q_wv95in.2.1) = true := by decide +kernel
theorem t_wv95in {X : pX} {ρ0 : sR} (hv : vok X ρ0) : CUTOK X kR zWP c_wn0 8 ρ0 q_wv95in := CUT_run kR_x kR_0 (Cs := [(zWP, c_mapn)]) (fun C hC => by rw [List.mem_singleton.mp hC]; exact s_mapn) c_wn0_f (Q := []) hv (fun q hq => by cases hq) 1500 (b1 := true) (b2 := true) k_wv95in
noncomputable def q_wv95il : sCut := ((fr 0 5 0 [(0, tr 57), (1, .int 95), (2, .arg 60033)] [], [fBot], 8), (fr 0 277 60 [(0, tr 219), (1, .arg 1308), (2, .int 95), (4, .arg 60033)] [], [fBot], 8), [((139, .add (.elem (.arg 1761) (.int 0)) (.add (.int 95) (.arg 60033)), .int 100925506), true), zf98va_53, zf98va_54, zf98va_55, zf98va_56, zf98va_49, zf98va_0, zf98va_1, zf98va_2, zf98va_3, zf98va_4, zf98va_5], [zi98va_50, zi98va_51, zi98va_52])
theorem k_wv95il : cbody kR [(zWP, c_mapl)] (cpl1 zWP c_wn0 []) (cpl2 zWP c_wn0 []) (cleaf kR zWP c_wn0 []) 1500 true true q_wv95il.2.2.1 q_wv95il.2.2.2 (cst zWP c_wn0.2.2.1.1 q_wv95il.1) (cst zWP c_wn0.2.2.1.2 q_wv95il.2.1) = true := by decide +kernel
theorem t_wv95il {X : pX} {ρ0 : sR} (hv : vok X ρ0) : CUTOK X kR zWP c_wn0 8 ρ0 q_wv95il := CUT_run kR_x kR_0 (Cs := [(zWP, c_mapl)]) (fun C hC => by rw [List.mem_singleton.mp hC]; exact s_mapl) c_wn0_f (Q := []) hv (fun q hq => by cases hq) 1500 (b1 := true) (b2 := true) k_wv95il
theorem t_wv95i {X : pX} {ρ0 : sR} (hv : vok X ρ0) : CUTOK X kR zWP c_wn0 8 ρ0 q_wv95i := fun ρ k1 hF hI k4 => by
  have mm : sc X ρ (109, .add (.int 6657) (.int 1), .add (.int 95) (.int 1)) = true ∧ sc X ρ (109, .add (.int 6657) (.int 2), .add (.int 95) (.int 2)) = true ∧ sc X ρ (109, .add (.int 6657) (.int 3), .add (.int 95) (.int 3)) = true ∧ sc X ρ (109, .add (.int 6657) (.int 4), .add (.int 95) (.int 4)) = true := ⟨wn_9 (by decide +kernel), wn_9 (by decide +kernel), wn_9 (by decide +kernel), wn_9 (by decide +kernel)⟩
  rcases am_3 (g := ρ.2.2.2.1 1761) (m := 95) (n := (ρ.2.1 60033).toInt.toNat) with h | h | h
  · exact t_wv95io hv ρ k1 ⟨hF.1, fcn (decide_eq_true h.symm) (fcn (mm.1) (fcn (mm.2.1) (fcn (mm.2.2.1) (fcn (mm.2.2.2) (hF.2)))))⟩ hI k4
  · exact t_wv95in hv ρ k1 ⟨hF.1, fcn (decide_eq_true h.symm) (fcn (mm.1) (fcn (mm.2.1) (fcn (mm.2.2.1) (fcn (mm.2.2.2) (hF.2)))))⟩ hI k4
  · exact t_wv95il hv ρ k1 ⟨hF.1, fcn (decide_eq_true h.symm) (fcn (mm.1) (fcn (mm.2.1) (fcn (mm.2.2.1) (fcn (mm.2.2.2) (hF.2)))))⟩ hI k4
noncomputable def q_wv95 : sCut := ((fr 0 5 0 [(0, tr 57), (1, .int 95), (2, .arg 60033)] [], [fBot], 8), (fr 0 277 60 [(0, tr 219), (1, .arg 1308), (2, .int 95), (4, .arg 60033)] [], [fBot], 8), [zf98va_49, zf98va_0, zf98va_1, zf98va_2, zf98va_3, zf98va_4, zf98va_5], [])
theorem t_wv95 {X : pX} {ρ0 : sR} (hv : vok X ρ0) : CUTOK X kR zWP c_wn0 8 ρ0 q_wv95 := CUT_mono (t_wv95i hv) (fun ρ hF hI => by
  have b0 := rl_lf (x := ρ.2.1 60033) (y := 0) (hF.2 _ (List.mem_cons_of_mem _ (List.mem_cons_self)))
  have b1 := rl_lf (x := 255) (y := ρ.2.1 60033) (hF.2 _ (List.mem_cons_of_mem _ (List.mem_cons_of_mem _ (List.mem_cons_self))))
  have y0 : (0 : Int64).toInt = 0 := by decide +kernel
  have y1 : (255 : Int64).toInt = 255 := by decide +kernel
  rw [y0] at b0
  rw [y1] at b1
  exact ⟨hF, ik_c (fun hg => decide_eq_true (of_1 (x := ρ.2.2.2.1 1761 76) (of_decide_eq_false (hg _ List.mem_cons_self)))) (ik_c (fun hg => decide_eq_true (of_0 (x := ρ.2.2.2.1 1761 76) (of_decide_eq_true (hg _ List.mem_cons_self)))) (ik_c (fun hg => by
    have c1 := rl_lf (x := 4) (y := ρ.2.1 60033) (hg _ List.mem_cons_self)
    have z1 : (4 : Int64).toInt = 4 := rfl
    rw [z1] at c1
    exact wn_129 (p := 95) (q := 95) rfl et_95 b0 c1 rfl) (hI)))⟩)
noncomputable def q_wq95 : sCut := ((fr 0 5 0 [(0, tr 57), (1, .int 95), (2, .arg 60033)] [], [fBot], 8), (fr 0 277 35 [(0, tr 219), (1, .arg 1308), (2, .int 95)] [], [fBot], 8), [zf98va_15, zf98va_16, zf98va_0, zf98va_1, zf98va_2, zf98va_3, zf98va_4, zf98va_5], [])
noncomputable def q_wq95i : sCut := ((fr 0 5 0 [(0, tr 57), (1, .int 95), (2, .arg 60033)] [], [fBot], 8), (fr 0 277 35 [(0, tr 219), (1, .arg 1308), (2, .int 95)] [], [fBot], 8), [zf98va_15, zf98va_16, zf98va_0, zf98va_1, zf98va_2, zf98va_3, zf98va_4, zf98va_5], [zi98va_50, zi98va_51, zi98va_52])
noncomputable def q_wq95iy : sCut := ((fr 0 5 0 [(0, tr 57), (1, .int 95), (2, .arg 60033)] [], [fBot], 8), (fr 0 277 35 [(0, tr 219), (1, .arg 1308), (2, .int 95)] [], [fBot], 8), [((6, .op2 .land (.elem (.arg 1761) (.int 76)) (.long 2147483648), .long 0), true), zf98va_15, zf98va_16, zf98va_0, zf98va_1, zf98va_2, zf98va_3, zf98va_4, zf98va_5], [zi98va_50, zi98va_51, zi98va_52])
theorem k_wq95iy : cbody kR [] (cpl1 zWP c_wn0 []) (cpl2 zWP c_wn0 []) (cleaf kR zWP c_wn0 []) 1500 true true q_wq95iy.2.2.1 q_wq95iy.2.2.2 (cst zWP c_wn0.2.2.1.1 q_wq95iy.1) (cst zWP c_wn0.2.2.1.2 q_wq95iy.2.1) = true := by decide +kernel
theorem t_wq95iy {X : pX} {ρ0 : sR} (hv : vok X ρ0) : CUTOK X kR zWP c_wn0 8 ρ0 q_wq95iy := CUT_run kR_x kR_0 (Cs := []) (fun C hC => by cases hC) c_wn0_f (Q := []) hv (fun q hq => by cases hq) 1500 (b1 := true) (b2 := true) k_wq95iy
noncomputable def q_wq95in : sCut := ((fr 0 5 0 [(0, tr 57), (1, .int 95), (2, .arg 60033)] [], [fBot], 8), (fr 0 277 35 [(0, tr 219), (1, .arg 1308), (2, .int 95)] [], [fBot], 8), [((6, .op2 .land (.op2 .lshr (.elem (.arg 1761) (.int 76)) (.int 31)) (.long 1), .long 1), true), zf98va_49, zf98va_15, zf98va_16, zf98va_0, zf98va_1, zf98va_2, zf98va_3, zf98va_4, zf98va_5], [zi98va_50, zi98va_51, zi98va_52])
theorem k_wq95in : cbody kR [] (cpl1 zWP c_wn0 [q_wv95]) (cpl2 zWP c_wn0 [q_wv95]) (cleaf kR zWP c_wn0 [q_wv95]) 1500 false true q_wq95in.2.2.1 q_wq95in.2.2.2 (cst zWP c_wn0.2.2.1.1 q_wq95in.1) (cst zWP c_wn0.2.2.1.2 q_wq95in.2.1) = true := by decide +kernel
theorem t_wq95in {X : pX} {ρ0 : sR} (hv : vok X ρ0) : CUTOK X kR zWP c_wn0 8 ρ0 q_wq95in := CUT_run kR_x kR_0 (Cs := []) (fun C hC => by cases hC) c_wn0_f (Q := [q_wv95]) hv (fun q hq => by
    simp only [List.mem_cons, List.not_mem_nil, or_false] at hq
    rw [hq]; exact t_wv95 hv) 1500 (b1 := false) (b2 := true) k_wq95in
theorem t_wq95i {X : pX} {ρ0 : sR} (hv : vok X ρ0) : CUTOK X kR zWP c_wn0 8 ρ0 q_wq95i := CUT_split (6, .op2 .land (.elem (.arg 1761) (.int 76)) (.long 2147483648), .long 0) (t_wq95iy hv) (CUT_mono (t_wq95in hv) (fun ρ hF hI => ⟨⟨hF.1, by
    exact fcn (decide_eq_true (of_1 (x := ρ.2.2.2.1 1761 76) (of_decide_eq_false (hF.2 _ List.mem_cons_self)))) hF.2⟩, hI⟩))
theorem t_wq95 {X : pX} {ρ0 : sR} (hv : vok X ρ0) : CUTOK X kR zWP c_wn0 8 ρ0 q_wq95 := CUT_mono (t_wq95i hv) (fun ρ hF hI => by
  have b0 := rl_lf (x := ρ.2.1 60033) (y := 0) (hF.2 _ (List.mem_cons_of_mem _ (List.mem_cons_of_mem _ (List.mem_cons_self))))
  have b1 := rl_lf (x := 255) (y := ρ.2.1 60033) (hF.2 _ (List.mem_cons_of_mem _ (List.mem_cons_of_mem _ (List.mem_cons_of_mem _ (List.mem_cons_self)))))
  have y0 : (0 : Int64).toInt = 0 := by decide +kernel
  have y1 : (255 : Int64).toInt = 255 := by decide +kernel
  rw [y0] at b0
  rw [y1] at b1
  exact ⟨hF, ik_c (fun hg => decide_eq_true (of_1 (x := ρ.2.2.2.1 1761 76) (of_decide_eq_false (hg _ List.mem_cons_self)))) (ik_c (fun hg => decide_eq_true (of_0 (x := ρ.2.2.2.1 1761 76) (of_decide_eq_true (hg _ List.mem_cons_self)))) (ik_c (fun hg => by
    have c1 := rl_lf (x := 4) (y := ρ.2.1 60033) (hg _ List.mem_cons_self)
    have z1 : (4 : Int64).toInt = 4 := rfl
    rw [z1] at c1
    exact wn_129 (p := 95) (q := 95) rfl et_95 b0 c1 rfl) (hI)))⟩)
theorem e_wp95 : frun kR [] (cpl1 zWP (c_wp0 95) [q_wq95]) (cpl2 zWP (c_wp0 95) [q_wq95]) (cleaf kR zWP (c_wp0 95) [q_wq95]) 300 65536 (isatP ((c_wp0 95).2.2.2.1) (c_wp0 95).2.2.2.2.2.2.2.1) (c_wp0 95).2.2.2.2.2.2.2.1 (sin0 mt_all (c_wp0 95).1.1 8 (c_wp0 95).2.1.1 (foot zWP (c_wp0 95).2.2.1.1)) (sin0 mt_all (c_wp0 95).1.2.1 8 (c_wp0 95).2.1.2 (foot zWP (c_wp0 95).2.2.1.2)) = true := by decide +kernel
theorem s_wp95 {X : pX} : SREL X pF pdfl mt_all kR zWP (c_wp0 95) := SREL_QC kR_x kR_0 (Cs := []) (fun C hC => by cases hC) (d := 8) rfl (c_wp0_f 95) (Q := [q_wq95]) (fun ρ0 hv => fun q hq => by
    simp only [List.mem_cons, List.not_mem_nil, or_false] at hq
    rw [hq]; exact (t_wq95 hv : CUTOK X kR zWP c_wn0 8 ρ0 q_wq95)) (QC_run 300 e_wp95)
theorem et_100 : evt[100]? = some (0, 4, 0) := by decide +kernel
noncomputable def q_wR100 : sCut := ((fr 0 10 53 [] [], [fr 0 5 23 [(4, .int 0)] [], fBot], 7), (fr 0 281 150 [] [], [fr 0 277 91 [(3, .int 0)] [], fBot], 7), [((129, .int 100, .arg 60033), true)], [])
noncomputable def zf98va_57 : sQ × Bool := ((6, .op2 .land (.elem (.arg 1761) (.int 81)) (.long 2147483648), .long 0), false)
noncomputable def zi98va_58 : sFs × sQ × Bool := ([((6, .op2 .land (.elem (.arg 1761) (.int 81)) (.long 2147483648), .long 0), false)], (6, .op2 .land (.op2 .lshr (.elem (.arg 1761) (.int 81)) (.int 31)) (.long 1), .long 1), true)
noncomputable def zi98va_59 : sFs × sQ × Bool := ([((6, .op2 .land (.elem (.arg 1761) (.int 81)) (.long 2147483648), .long 0), true)], (6, .op2 .land (.op2 .lshr (.elem (.arg 1761) (.int 81)) (.int 31)) (.long 1), .long 0), true)
noncomputable def zi98va_60 : sFs × sQ × Bool := ([((8, .long 4, .arg 60033), false)], (129, .int 100, .arg 60033), true)
noncomputable def q_wv100i : sCut := ((fr 0 5 0 [(0, tr 57), (1, .int 100), (2, .arg 60033)] [], [fBot], 8), (fr 0 277 60 [(0, tr 219), (1, .arg 1308), (2, .int 100), (4, .arg 60033)] [], [fBot], 8), [zf98va_57, zf98va_0, zf98va_1, zf98va_2, zf98va_3, zf98va_4, zf98va_5], [zi98va_58, zi98va_59, zi98va_60])
noncomputable def zf98va_61 : sQ × Bool := ((109, .add (.int 6658) (.int 1), .add (.int 100) (.int 1)), true)
noncomputable def zf98va_62 : sQ × Bool := ((109, .add (.int 6658) (.int 2), .add (.int 100) (.int 2)), true)
noncomputable def zf98va_63 : sQ × Bool := ((109, .add (.int 6658) (.int 3), .add (.int 100) (.int 3)), true)
noncomputable def zf98va_64 : sQ × Bool := ((109, .add (.int 6658) (.int 4), .add (.int 100) (.int 4)), true)
noncomputable def q_wv100io : sCut := ((fr 0 5 0 [(0, tr 57), (1, .int 100), (2, .arg 60033)] [], [fBot], 8), (fr 0 277 60 [(0, tr 219), (1, .arg 1308), (2, .int 100), (4, .arg 60033)] [], [fBot], 8), [((139, .add (.elem (.arg 1761) (.int 0)) (.add (.int 100) (.arg 60033)), .int 0), true), zf98va_61, zf98va_62, zf98va_63, zf98va_64, zf98va_57, zf98va_0, zf98va_1, zf98va_2, zf98va_3, zf98va_4, zf98va_5], [zi98va_58, zi98va_59, zi98va_60])
noncomputable def w_wv100io : List (sCut × List (Nat × sT) × List (Nat × sT × List (sT × sT))) := [(q_wR100, [(60033, .arg 60033), (2848, .op2 .ior (.arg 2848) (.int 16384)), (6850, .arg 6850), (6882, .arg 6882), (6914, .arg 6914), (6946, .arg 6946), (7362, .arg 7362), (7394, .arg 7394), (7426, .arg 7426), (7458, .arg 7458), (7874, .arg 7874), (7906, .arg 7906), (7938, .int 0), (7970, .arg 7970), (21216, .arg 21216), (21248, .arg 21248), (21280, .int 0), (21312, .arg 21312), (6466, .arg 6466), (6498, .arg 6498)], [(1761, .arg 1761, [(.int 100, .arg 60033)])])]
theorem k_wv100io : cbody kR [(zWP, c_mapo)] (cpl1 zWP c_wn0 [q_wR100]) (cpl2 zWP c_wn0 [q_wR100]) (cleafB kR zWP c_wn0 w_wv100io) 1500 true true q_wv100io.2.2.1 q_wv100io.2.2.2 (cst zWP c_wn0.2.2.1.1 q_wv100io.1) (cst zWP c_wn0.2.2.1.2 q_wv100io.2.1) = true := by decide +kernel
theorem t_wv100io {X : pX} {ρ0 : sR} (hv : vok X ρ0) : CUTOK X kR zWP c_wn0 8 ρ0 q_wv100io := CUTOK_AT (fun ρ k1 hF hI k4 => AT_of (q := q_wv100io) rfl rfl (SEM_runB kR_x kR_0 (Cs := [(zWP, c_mapo)]) (fun C hC => by rw [List.mem_singleton.mp hC]; exact s_mapo) c_wn0_f (Q := w_wv100io) hv 1500 (b1 := true) (b2 := true) k_wv100io k1 hF hI k4 (fun p hp ρ3 m1 m2 m3 m4 m5 m6 => by
  rw [List.mem_singleton.mp hp] at m2 m3 m5 m6 ⊢
  have y3 : ρ3.2.1 60033 = ρ.2.1 60033 := congrArg Prod.snd (m5 (60033, .arg 60033) List.mem_cons_self)
  have hA : ∀ j, ρ3.2.2.2.1 1761 j = if 100 = j then ρ.2.1 60033 else ρ.2.2.2.1 1761 j := fun j => ad_l (X := X) (p := 100) (t := .arg 60033) rfl (m6 _ List.mem_cons_self) j
  have hk : evk 100 (ρ.2.1 60033).toInt = true := by
    have h := m2.2 _ List.mem_cons_self
    rw [← y3]
    exact h
  have hc : (0 : Int) = amcode (ρ.2.2.2.1 1761) 100 (ρ.2.1 60033).toInt.toNat := of_decide_eq_true (hF.2 _ (List.mem_cons_self))
  have ea : ρ3.1 2848 = (sd X ρ (.op2 .ior (.arg 2848) (.int 16384))).1 := congrArg Prod.fst (m5 (2848, .op2 .ior (.arg 2848) (.int 16384)) (List.mem_cons_of_mem _ List.mem_cons_self))
  have eL : ρ3.1 60578 = ρ.1 60578 := (m4.1 60578 (by decide) (by decide)).1.trans (k4.1 60578 (by decide) (by decide)).1.symm
  have mo : sc X ρ3 (2, .op2 .iand (.op2 .iushr (.arg 2848) (.int 4)) (.int 1), .arg 60578) = false := by
    show decide (((ρ3.1 2848).toUInt32 >>> ((4 : Int32).toUInt32 &&& (31 : Int32).toUInt32)).toInt32 &&& 1 < ρ3.1 60578) = false
    rw [ea, eL]
    have q := tbv_ok (X := X) (ρ := ρ) (F := []) (a := .op2 .iand (.op2 .iushr (.op2 .ior (.arg 2848) (.int 16384)) (.int 4)) (.int 1)) (b := .op2 .iand (.op2 .iushr (.arg 2848) (.int 4)) (.int 1)) ⟨hF.1, fun f hf => by cases hf⟩ (by decide +kernel)
    rw [sv_int rfl, sv_int rfl] at q
    exact mn_e (Value.int.inj q) (of_decide_eq_true (hF.2 _ (List.mem_cons_of_mem _ (List.mem_cons_of_mem _ (List.mem_cons_of_mem _ (List.mem_cons_of_mem _ (List.mem_cons_of_mem _ (List.mem_cons_of_mem _ (List.mem_cons_of_mem _ (List.mem_cons_of_mem _ (List.mem_cons_of_mem _ (List.mem_cons_of_mem _ (List.mem_cons_self)))))))))))))
  exact t_wE0 hv ρ3 m1 ⟨m2.1, fcn (ev_ct (g := ρ.2.2.2.1 1761) (m := 100) (hF.2 _ (List.mem_cons_of_mem _ (List.mem_cons_of_mem _ (List.mem_cons_of_mem _ (List.mem_cons_of_mem _ (List.mem_cons_of_mem _ (List.mem_cons_of_mem _ (List.mem_cons_of_mem _ (List.mem_cons_of_mem _ (List.mem_cons_self)))))))))) hk hA hc.symm (by decide +kernel)) (fcn (pd_up (X := X) (p := 100) (c := 16384) (z := [7938, 21280]) (hF.2 _ (List.mem_cons_of_mem _ (List.mem_cons_of_mem _ (List.mem_cons_of_mem _ (List.mem_cons_of_mem _ (List.mem_cons_of_mem _ (List.mem_cons_of_mem _ (List.mem_cons_of_mem _ (List.mem_cons_of_mem _ (List.mem_cons_of_mem _ (List.mem_cons_self))))))))))) hA (fun x hx => m5 x (List.mem_cons_of_mem _ hx)) k4 m4 wm_0 wb_0 (by decide +kernel)) (fcn (mo) (fnl)))⟩ m3 m4)))
noncomputable def q_wv100in : sCut := ((fr 0 5 0 [(0, tr 57), (1, .int 100), (2, .arg 60033)] [], [fBot], 8), (fr 0 277 60 [(0, tr 219), (1, .arg 1308), (2, .int 100), (4, .arg 60033)] [], [fBot], 8), [((139, .add (.elem (.arg 1761) (.int 0)) (.add (.int 100) (.arg 60033)), .int 100925505), true), zf98va_61, zf98va_62, zf98va_63, zf98va_64, zf98va_57, zf98va_0, zf98va_1, zf98va_2, zf98va_3, zf98va_4, zf98va_5], [zi98va_58, zi98va_59, zi98va_60])
theorem k_wv100in : cbody kR [(zWP, c_mapn)] (cpl1 zWP c_wn0 []) (cpl2 zWP c_wn0 []) (cleaf kR zWP c_wn0 []) 1500 true true q_wv100in.2.2.1 q_wv100in.2.2.2 (cst zWP c_wn0.2.2.1.1 q_wv100in.1) (cst zWP c_wn0.2.2.1.2 q_wv100in.2.1) = true := by decide +kernel
theorem t_wv100in {X : pX} {ρ0 : sR} (hv : vok X ρ0) : CUTOK X kR zWP c_wn0 8 ρ0 q_wv100in := CUT_run kR_x kR_0 (Cs := [(zWP, c_mapn)]) (fun C hC => by rw [List.mem_singleton.mp hC]; exact s_mapn) c_wn0_f (Q := []) hv (fun q hq => by cases hq) 1500 (b1 := true) (b2 := true) k_wv100in
noncomputable def q_wv100il : sCut := ((fr 0 5 0 [(0, tr 57), (1, .int 100), (2, .arg 60033)] [], [fBot], 8), (fr 0 277 60 [(0, tr 219), (1, .arg 1308), (2, .int 100), (4, .arg 60033)] [], [fBot], 8), [((139, .add (.elem (.arg 1761) (.int 0)) (.add (.int 100) (.arg 60033)), .int 100925506), true), zf98va_61, zf98va_62, zf98va_63, zf98va_64, zf98va_57, zf98va_0, zf98va_1, zf98va_2, zf98va_3, zf98va_4, zf98va_5], [zi98va_58, zi98va_59, zi98va_60])
theorem k_wv100il : cbody kR [(zWP, c_mapl)] (cpl1 zWP c_wn0 []) (cpl2 zWP c_wn0 []) (cleaf kR zWP c_wn0 []) 1500 true true q_wv100il.2.2.1 q_wv100il.2.2.2 (cst zWP c_wn0.2.2.1.1 q_wv100il.1) (cst zWP c_wn0.2.2.1.2 q_wv100il.2.1) = true := by decide +kernel
theorem t_wv100il {X : pX} {ρ0 : sR} (hv : vok X ρ0) : CUTOK X kR zWP c_wn0 8 ρ0 q_wv100il := CUT_run kR_x kR_0 (Cs := [(zWP, c_mapl)]) (fun C hC => by rw [List.mem_singleton.mp hC]; exact s_mapl) c_wn0_f (Q := []) hv (fun q hq => by cases hq) 1500 (b1 := true) (b2 := true) k_wv100il
theorem t_wv100i {X : pX} {ρ0 : sR} (hv : vok X ρ0) : CUTOK X kR zWP c_wn0 8 ρ0 q_wv100i := fun ρ k1 hF hI k4 => by
  have mm : sc X ρ (109, .add (.int 6658) (.int 1), .add (.int 100) (.int 1)) = true ∧ sc X ρ (109, .add (.int 6658) (.int 2), .add (.int 100) (.int 2)) = true ∧ sc X ρ (109, .add (.int 6658) (.int 3), .add (.int 100) (.int 3)) = true ∧ sc X ρ (109, .add (.int 6658) (.int 4), .add (.int 100) (.int 4)) = true := ⟨wn_9 (by decide +kernel), wn_9 (by decide +kernel), wn_9 (by decide +kernel), wn_9 (by decide +kernel)⟩
  rcases am_3 (g := ρ.2.2.2.1 1761) (m := 100) (n := (ρ.2.1 60033).toInt.toNat) with h | h | h
  · exact t_wv100io hv ρ k1 ⟨hF.1, fcn (decide_eq_true h.symm) (fcn (mm.1) (fcn (mm.2.1) (fcn (mm.2.2.1) (fcn (mm.2.2.2) (hF.2)))))⟩ hI k4
  · exact t_wv100in hv ρ k1 ⟨hF.1, fcn (decide_eq_true h.symm) (fcn (mm.1) (fcn (mm.2.1) (fcn (mm.2.2.1) (fcn (mm.2.2.2) (hF.2)))))⟩ hI k4
  · exact t_wv100il hv ρ k1 ⟨hF.1, fcn (decide_eq_true h.symm) (fcn (mm.1) (fcn (mm.2.1) (fcn (mm.2.2.1) (fcn (mm.2.2.2) (hF.2)))))⟩ hI k4
noncomputable def q_wv100 : sCut := ((fr 0 5 0 [(0, tr 57), (1, .int 100), (2, .arg 60033)] [], [fBot], 8), (fr 0 277 60 [(0, tr 219), (1, .arg 1308), (2, .int 100), (4, .arg 60033)] [], [fBot], 8), [zf98va_57, zf98va_0, zf98va_1, zf98va_2, zf98va_3, zf98va_4, zf98va_5], [])
theorem t_wv100 {X : pX} {ρ0 : sR} (hv : vok X ρ0) : CUTOK X kR zWP c_wn0 8 ρ0 q_wv100 := CUT_mono (t_wv100i hv) (fun ρ hF hI => by
  have b0 := rl_lf (x := ρ.2.1 60033) (y := 0) (hF.2 _ (List.mem_cons_of_mem _ (List.mem_cons_self)))
  have b1 := rl_lf (x := 255) (y := ρ.2.1 60033) (hF.2 _ (List.mem_cons_of_mem _ (List.mem_cons_of_mem _ (List.mem_cons_self))))
  have y0 : (0 : Int64).toInt = 0 := by decide +kernel
  have y1 : (255 : Int64).toInt = 255 := by decide +kernel
  rw [y0] at b0
  rw [y1] at b1
  exact ⟨hF, ik_c (fun hg => decide_eq_true (of_1 (x := ρ.2.2.2.1 1761 81) (of_decide_eq_false (hg _ List.mem_cons_self)))) (ik_c (fun hg => decide_eq_true (of_0 (x := ρ.2.2.2.1 1761 81) (of_decide_eq_true (hg _ List.mem_cons_self)))) (ik_c (fun hg => by
    have c1 := rl_lf (x := 4) (y := ρ.2.1 60033) (hg _ List.mem_cons_self)
    have z1 : (4 : Int64).toInt = 4 := rfl
    rw [z1] at c1
    exact wn_129 (p := 100) (q := 100) rfl et_100 b0 c1 rfl) (hI)))⟩)
noncomputable def q_wq100 : sCut := ((fr 0 5 0 [(0, tr 57), (1, .int 100), (2, .arg 60033)] [], [fBot], 8), (fr 0 277 35 [(0, tr 219), (1, .arg 1308), (2, .int 100)] [], [fBot], 8), [zf98va_15, zf98va_16, zf98va_0, zf98va_1, zf98va_2, zf98va_3, zf98va_4, zf98va_5], [])
noncomputable def q_wq100i : sCut := ((fr 0 5 0 [(0, tr 57), (1, .int 100), (2, .arg 60033)] [], [fBot], 8), (fr 0 277 35 [(0, tr 219), (1, .arg 1308), (2, .int 100)] [], [fBot], 8), [zf98va_15, zf98va_16, zf98va_0, zf98va_1, zf98va_2, zf98va_3, zf98va_4, zf98va_5], [zi98va_58, zi98va_59, zi98va_60])
noncomputable def q_wq100iy : sCut := ((fr 0 5 0 [(0, tr 57), (1, .int 100), (2, .arg 60033)] [], [fBot], 8), (fr 0 277 35 [(0, tr 219), (1, .arg 1308), (2, .int 100)] [], [fBot], 8), [((6, .op2 .land (.elem (.arg 1761) (.int 81)) (.long 2147483648), .long 0), true), zf98va_15, zf98va_16, zf98va_0, zf98va_1, zf98va_2, zf98va_3, zf98va_4, zf98va_5], [zi98va_58, zi98va_59, zi98va_60])
theorem k_wq100iy : cbody kR [] (cpl1 zWP c_wn0 []) (cpl2 zWP c_wn0 []) (cleaf kR zWP c_wn0 []) 1500 true true q_wq100iy.2.2.1 q_wq100iy.2.2.2 (cst zWP c_wn0.2.2.1.1 q_wq100iy.1) (cst zWP c_wn0.2.2.1.2 q_wq100iy.2.1) = true := by decide +kernel
theorem t_wq100iy {X : pX} {ρ0 : sR} (hv : vok X ρ0) : CUTOK X kR zWP c_wn0 8 ρ0 q_wq100iy := CUT_run kR_x kR_0 (Cs := []) (fun C hC => by cases hC) c_wn0_f (Q := []) hv (fun q hq => by cases hq) 1500 (b1 := true) (b2 := true) k_wq100iy
noncomputable def q_wq100in : sCut := ((fr 0 5 0 [(0, tr 57), (1, .int 100), (2, .arg 60033)] [], [fBot], 8), (fr 0 277 35 [(0, tr 219), (1, .arg 1308), (2, .int 100)] [], [fBot], 8), [((6, .op2 .land (.op2 .lshr (.elem (.arg 1761) (.int 81)) (.int 31)) (.long 1), .long 1), true), zf98va_57, zf98va_15, zf98va_16, zf98va_0, zf98va_1, zf98va_2, zf98va_3, zf98va_4, zf98va_5], [zi98va_58, zi98va_59, zi98va_60])
theorem k_wq100in : cbody kR [] (cpl1 zWP c_wn0 [q_wv100]) (cpl2 zWP c_wn0 [q_wv100]) (cleaf kR zWP c_wn0 [q_wv100]) 1500 false true q_wq100in.2.2.1 q_wq100in.2.2.2 (cst zWP c_wn0.2.2.1.1 q_wq100in.1) (cst zWP c_wn0.2.2.1.2 q_wq100in.2.1) = true := by decide +kernel
theorem t_wq100in {X : pX} {ρ0 : sR} (hv : vok X ρ0) : CUTOK X kR zWP c_wn0 8 ρ0 q_wq100in := CUT_run kR_x kR_0 (Cs := []) (fun C hC => by cases hC) c_wn0_f (Q := [q_wv100]) hv (fun q hq => by
    simp only [List.mem_cons, List.not_mem_nil, or_false] at hq
    rw [hq]; exact t_wv100 hv) 1500 (b1 := false) (b2 := true) k_wq100in
theorem t_wq100i {X : pX} {ρ0 : sR} (hv : vok X ρ0) : CUTOK X kR zWP c_wn0 8 ρ0 q_wq100i := CUT_split (6, .op2 .land (.elem (.arg 1761) (.int 81)) (.long 2147483648), .long 0) (t_wq100iy hv) (CUT_mono (t_wq100in hv) (fun ρ hF hI => ⟨⟨hF.1, by
    exact fcn (decide_eq_true (of_1 (x := ρ.2.2.2.1 1761 81) (of_decide_eq_false (hF.2 _ List.mem_cons_self)))) hF.2⟩, hI⟩))
theorem t_wq100 {X : pX} {ρ0 : sR} (hv : vok X ρ0) : CUTOK X kR zWP c_wn0 8 ρ0 q_wq100 := CUT_mono (t_wq100i hv) (fun ρ hF hI => by
  have b0 := rl_lf (x := ρ.2.1 60033) (y := 0) (hF.2 _ (List.mem_cons_of_mem _ (List.mem_cons_of_mem _ (List.mem_cons_self))))
  have b1 := rl_lf (x := 255) (y := ρ.2.1 60033) (hF.2 _ (List.mem_cons_of_mem _ (List.mem_cons_of_mem _ (List.mem_cons_of_mem _ (List.mem_cons_self)))))
  have y0 : (0 : Int64).toInt = 0 := by decide +kernel
  have y1 : (255 : Int64).toInt = 255 := by decide +kernel
  rw [y0] at b0
  rw [y1] at b1
  exact ⟨hF, ik_c (fun hg => decide_eq_true (of_1 (x := ρ.2.2.2.1 1761 81) (of_decide_eq_false (hg _ List.mem_cons_self)))) (ik_c (fun hg => decide_eq_true (of_0 (x := ρ.2.2.2.1 1761 81) (of_decide_eq_true (hg _ List.mem_cons_self)))) (ik_c (fun hg => by
    have c1 := rl_lf (x := 4) (y := ρ.2.1 60033) (hg _ List.mem_cons_self)
    have z1 : (4 : Int64).toInt = 4 := rfl
    rw [z1] at c1
    exact wn_129 (p := 100) (q := 100) rfl et_100 b0 c1 rfl) (hI)))⟩)
theorem e_wp100 : frun kR [] (cpl1 zWP (c_wp0 100) [q_wq100]) (cpl2 zWP (c_wp0 100) [q_wq100]) (cleaf kR zWP (c_wp0 100) [q_wq100]) 300 65536 (isatP ((c_wp0 100).2.2.2.1) (c_wp0 100).2.2.2.2.2.2.2.1) (c_wp0 100).2.2.2.2.2.2.2.1 (sin0 mt_all (c_wp0 100).1.1 8 (c_wp0 100).2.1.1 (foot zWP (c_wp0 100).2.2.1.1)) (sin0 mt_all (c_wp0 100).1.2.1 8 (c_wp0 100).2.1.2 (foot zWP (c_wp0 100).2.2.1.2)) = true := by decide +kernel
theorem s_wp100 {X : pX} : SREL X pF pdfl mt_all kR zWP (c_wp0 100) := SREL_QC kR_x kR_0 (Cs := []) (fun C hC => by cases hC) (d := 8) rfl (c_wp0_f 100) (Q := [q_wq100]) (fun ρ0 hv => fun q hq => by
    simp only [List.mem_cons, List.not_mem_nil, or_false] at hq
    rw [hq]; exact (t_wq100 hv : CUTOK X kR zWP c_wn0 8 ρ0 q_wq100)) (QC_run 300 e_wp100)
theorem et_105 : evt[105]? = some (0, 4, 0) := by decide +kernel
noncomputable def q_wR105 : sCut := ((fr 0 10 53 [] [], [fr 0 5 23 [(4, .int 0)] [], fBot], 7), (fr 0 281 150 [] [], [fr 0 277 91 [(3, .int 0)] [], fBot], 7), [((129, .int 105, .arg 60033), true)], [])
noncomputable def zf98va_65 : sQ × Bool := ((6, .op2 .land (.elem (.arg 1761) (.int 86)) (.long 2147483648), .long 0), false)
noncomputable def zi98va_66 : sFs × sQ × Bool := ([((6, .op2 .land (.elem (.arg 1761) (.int 86)) (.long 2147483648), .long 0), false)], (6, .op2 .land (.op2 .lshr (.elem (.arg 1761) (.int 86)) (.int 31)) (.long 1), .long 1), true)
noncomputable def zi98va_67 : sFs × sQ × Bool := ([((6, .op2 .land (.elem (.arg 1761) (.int 86)) (.long 2147483648), .long 0), true)], (6, .op2 .land (.op2 .lshr (.elem (.arg 1761) (.int 86)) (.int 31)) (.long 1), .long 0), true)
noncomputable def zi98va_68 : sFs × sQ × Bool := ([((8, .long 4, .arg 60033), false)], (129, .int 105, .arg 60033), true)
noncomputable def q_wv105i : sCut := ((fr 0 5 0 [(0, tr 57), (1, .int 105), (2, .arg 60033)] [], [fBot], 8), (fr 0 277 60 [(0, tr 219), (1, .arg 1308), (2, .int 105), (4, .arg 60033)] [], [fBot], 8), [zf98va_65, zf98va_0, zf98va_1, zf98va_2, zf98va_3, zf98va_4, zf98va_5], [zi98va_66, zi98va_67, zi98va_68])
noncomputable def zf98va_69 : sQ × Bool := ((109, .add (.int 6659) (.int 1), .add (.int 105) (.int 1)), true)
noncomputable def zf98va_70 : sQ × Bool := ((109, .add (.int 6659) (.int 2), .add (.int 105) (.int 2)), true)
noncomputable def zf98va_71 : sQ × Bool := ((109, .add (.int 6659) (.int 3), .add (.int 105) (.int 3)), true)
noncomputable def zf98va_72 : sQ × Bool := ((109, .add (.int 6659) (.int 4), .add (.int 105) (.int 4)), true)
noncomputable def q_wv105io : sCut := ((fr 0 5 0 [(0, tr 57), (1, .int 105), (2, .arg 60033)] [], [fBot], 8), (fr 0 277 60 [(0, tr 219), (1, .arg 1308), (2, .int 105), (4, .arg 60033)] [], [fBot], 8), [((139, .add (.elem (.arg 1761) (.int 0)) (.add (.int 105) (.arg 60033)), .int 0), true), zf98va_69, zf98va_70, zf98va_71, zf98va_72, zf98va_65, zf98va_0, zf98va_1, zf98va_2, zf98va_3, zf98va_4, zf98va_5], [zi98va_66, zi98va_67, zi98va_68])
noncomputable def w_wv105io : List (sCut × List (Nat × sT) × List (Nat × sT × List (sT × sT))) := [(q_wR105, [(60033, .arg 60033), (2848, .op2 .ior (.arg 2848) (.int 32768)), (6850, .arg 6850), (6882, .arg 6882), (6914, .arg 6914), (6946, .arg 6946), (7362, .arg 7362), (7394, .arg 7394), (7426, .arg 7426), (7458, .arg 7458), (7874, .arg 7874), (7906, .arg 7906), (7938, .arg 7938), (7970, .int 0), (21216, .arg 21216), (21248, .arg 21248), (21280, .arg 21280), (21312, .int 0), (6466, .arg 6466), (6498, .arg 6498)], [(1761, .arg 1761, [(.int 105, .arg 60033)])])]
theorem k_wv105io : cbody kR [(zWP, c_mapo)] (cpl1 zWP c_wn0 [q_wR105]) (cpl2 zWP c_wn0 [q_wR105]) (cleafB kR zWP c_wn0 w_wv105io) 1500 true true q_wv105io.2.2.1 q_wv105io.2.2.2 (cst zWP c_wn0.2.2.1.1 q_wv105io.1) (cst zWP c_wn0.2.2.1.2 q_wv105io.2.1) = true := by decide +kernel
theorem t_wv105io {X : pX} {ρ0 : sR} (hv : vok X ρ0) : CUTOK X kR zWP c_wn0 8 ρ0 q_wv105io := CUTOK_AT (fun ρ k1 hF hI k4 => AT_of (q := q_wv105io) rfl rfl (SEM_runB kR_x kR_0 (Cs := [(zWP, c_mapo)]) (fun C hC => by rw [List.mem_singleton.mp hC]; exact s_mapo) c_wn0_f (Q := w_wv105io) hv 1500 (b1 := true) (b2 := true) k_wv105io k1 hF hI k4 (fun p hp ρ3 m1 m2 m3 m4 m5 m6 => by
  rw [List.mem_singleton.mp hp] at m2 m3 m5 m6 ⊢
  have y3 : ρ3.2.1 60033 = ρ.2.1 60033 := congrArg Prod.snd (m5 (60033, .arg 60033) List.mem_cons_self)
  have hA : ∀ j, ρ3.2.2.2.1 1761 j = if 105 = j then ρ.2.1 60033 else ρ.2.2.2.1 1761 j := fun j => ad_l (X := X) (p := 105) (t := .arg 60033) rfl (m6 _ List.mem_cons_self) j
  have hk : evk 105 (ρ.2.1 60033).toInt = true := by
    have h := m2.2 _ List.mem_cons_self
    rw [← y3]
    exact h
  have hc : (0 : Int) = amcode (ρ.2.2.2.1 1761) 105 (ρ.2.1 60033).toInt.toNat := of_decide_eq_true (hF.2 _ (List.mem_cons_self))
  have ea : ρ3.1 2848 = (sd X ρ (.op2 .ior (.arg 2848) (.int 32768))).1 := congrArg Prod.fst (m5 (2848, .op2 .ior (.arg 2848) (.int 32768)) (List.mem_cons_of_mem _ List.mem_cons_self))
  have eL : ρ3.1 60578 = ρ.1 60578 := (m4.1 60578 (by decide) (by decide)).1.trans (k4.1 60578 (by decide) (by decide)).1.symm
  have mo : sc X ρ3 (2, .op2 .iand (.op2 .iushr (.arg 2848) (.int 4)) (.int 1), .arg 60578) = false := by
    show decide (((ρ3.1 2848).toUInt32 >>> ((4 : Int32).toUInt32 &&& (31 : Int32).toUInt32)).toInt32 &&& 1 < ρ3.1 60578) = false
    rw [ea, eL]
    have q := tbv_ok (X := X) (ρ := ρ) (F := []) (a := .op2 .iand (.op2 .iushr (.op2 .ior (.arg 2848) (.int 32768)) (.int 4)) (.int 1)) (b := .op2 .iand (.op2 .iushr (.arg 2848) (.int 4)) (.int 1)) ⟨hF.1, fun f hf => by cases hf⟩ (by decide +kernel)
    rw [sv_int rfl, sv_int rfl] at q
    exact mn_e (Value.int.inj q) (of_decide_eq_true (hF.2 _ (List.mem_cons_of_mem _ (List.mem_cons_of_mem _ (List.mem_cons_of_mem _ (List.mem_cons_of_mem _ (List.mem_cons_of_mem _ (List.mem_cons_of_mem _ (List.mem_cons_of_mem _ (List.mem_cons_of_mem _ (List.mem_cons_of_mem _ (List.mem_cons_of_mem _ (List.mem_cons_self)))))))))))))
  exact t_wE0 hv ρ3 m1 ⟨m2.1, fcn (ev_ct (g := ρ.2.2.2.1 1761) (m := 105) (hF.2 _ (List.mem_cons_of_mem _ (List.mem_cons_of_mem _ (List.mem_cons_of_mem _ (List.mem_cons_of_mem _ (List.mem_cons_of_mem _ (List.mem_cons_of_mem _ (List.mem_cons_of_mem _ (List.mem_cons_of_mem _ (List.mem_cons_self)))))))))) hk hA hc.symm (by decide +kernel)) (fcn (pd_up (X := X) (p := 105) (c := 32768) (z := [7970, 21312]) (hF.2 _ (List.mem_cons_of_mem _ (List.mem_cons_of_mem _ (List.mem_cons_of_mem _ (List.mem_cons_of_mem _ (List.mem_cons_of_mem _ (List.mem_cons_of_mem _ (List.mem_cons_of_mem _ (List.mem_cons_of_mem _ (List.mem_cons_of_mem _ (List.mem_cons_self))))))))))) hA (fun x hx => m5 x (List.mem_cons_of_mem _ hx)) k4 m4 wm_0 wb_0 (by decide +kernel)) (fcn (mo) (fnl)))⟩ m3 m4)))
noncomputable def q_wv105in : sCut := ((fr 0 5 0 [(0, tr 57), (1, .int 105), (2, .arg 60033)] [], [fBot], 8), (fr 0 277 60 [(0, tr 219), (1, .arg 1308), (2, .int 105), (4, .arg 60033)] [], [fBot], 8), [((139, .add (.elem (.arg 1761) (.int 0)) (.add (.int 105) (.arg 60033)), .int 100925505), true), zf98va_69, zf98va_70, zf98va_71, zf98va_72, zf98va_65, zf98va_0, zf98va_1, zf98va_2, zf98va_3, zf98va_4, zf98va_5], [zi98va_66, zi98va_67, zi98va_68])
theorem k_wv105in : cbody kR [(zWP, c_mapn)] (cpl1 zWP c_wn0 []) (cpl2 zWP c_wn0 []) (cleaf kR zWP c_wn0 []) 1500 true true q_wv105in.2.2.1 q_wv105in.2.2.2 (cst zWP c_wn0.2.2.1.1 q_wv105in.1) (cst zWP c_wn0.2.2.1.2 q_wv105in.2.1) = true := by decide +kernel
theorem t_wv105in {X : pX} {ρ0 : sR} (hv : vok X ρ0) : CUTOK X kR zWP c_wn0 8 ρ0 q_wv105in := CUT_run kR_x kR_0 (Cs := [(zWP, c_mapn)]) (fun C hC => by rw [List.mem_singleton.mp hC]; exact s_mapn) c_wn0_f (Q := []) hv (fun q hq => by cases hq) 1500 (b1 := true) (b2 := true) k_wv105in
noncomputable def q_wv105il : sCut := ((fr 0 5 0 [(0, tr 57), (1, .int 105), (2, .arg 60033)] [], [fBot], 8), (fr 0 277 60 [(0, tr 219), (1, .arg 1308), (2, .int 105), (4, .arg 60033)] [], [fBot], 8), [((139, .add (.elem (.arg 1761) (.int 0)) (.add (.int 105) (.arg 60033)), .int 100925506), true), zf98va_69, zf98va_70, zf98va_71, zf98va_72, zf98va_65, zf98va_0, zf98va_1, zf98va_2, zf98va_3, zf98va_4, zf98va_5], [zi98va_66, zi98va_67, zi98va_68])
theorem k_wv105il : cbody kR [(zWP, c_mapl)] (cpl1 zWP c_wn0 []) (cpl2 zWP c_wn0 []) (cleaf kR zWP c_wn0 []) 1500 true true q_wv105il.2.2.1 q_wv105il.2.2.2 (cst zWP c_wn0.2.2.1.1 q_wv105il.1) (cst zWP c_wn0.2.2.1.2 q_wv105il.2.1) = true := by decide +kernel
theorem t_wv105il {X : pX} {ρ0 : sR} (hv : vok X ρ0) : CUTOK X kR zWP c_wn0 8 ρ0 q_wv105il := CUT_run kR_x kR_0 (Cs := [(zWP, c_mapl)]) (fun C hC => by rw [List.mem_singleton.mp hC]; exact s_mapl) c_wn0_f (Q := []) hv (fun q hq => by cases hq) 1500 (b1 := true) (b2 := true) k_wv105il
theorem t_wv105i {X : pX} {ρ0 : sR} (hv : vok X ρ0) : CUTOK X kR zWP c_wn0 8 ρ0 q_wv105i := fun ρ k1 hF hI k4 => by
  have mm : sc X ρ (109, .add (.int 6659) (.int 1), .add (.int 105) (.int 1)) = true ∧ sc X ρ (109, .add (.int 6659) (.int 2), .add (.int 105) (.int 2)) = true ∧ sc X ρ (109, .add (.int 6659) (.int 3), .add (.int 105) (.int 3)) = true ∧ sc X ρ (109, .add (.int 6659) (.int 4), .add (.int 105) (.int 4)) = true := ⟨wn_9 (by decide +kernel), wn_9 (by decide +kernel), wn_9 (by decide +kernel), wn_9 (by decide +kernel)⟩
  rcases am_3 (g := ρ.2.2.2.1 1761) (m := 105) (n := (ρ.2.1 60033).toInt.toNat) with h | h | h
  · exact t_wv105io hv ρ k1 ⟨hF.1, fcn (decide_eq_true h.symm) (fcn (mm.1) (fcn (mm.2.1) (fcn (mm.2.2.1) (fcn (mm.2.2.2) (hF.2)))))⟩ hI k4
  · exact t_wv105in hv ρ k1 ⟨hF.1, fcn (decide_eq_true h.symm) (fcn (mm.1) (fcn (mm.2.1) (fcn (mm.2.2.1) (fcn (mm.2.2.2) (hF.2)))))⟩ hI k4
  · exact t_wv105il hv ρ k1 ⟨hF.1, fcn (decide_eq_true h.symm) (fcn (mm.1) (fcn (mm.2.1) (fcn (mm.2.2.1) (fcn (mm.2.2.2) (hF.2)))))⟩ hI k4
noncomputable def q_wv105 : sCut := ((fr 0 5 0 [(0, tr 57), (1, .int 105), (2, .arg 60033)] [], [fBot], 8), (fr 0 277 60 [(0, tr 219), (1, .arg 1308), (2, .int 105), (4, .arg 60033)] [], [fBot], 8), [zf98va_65, zf98va_0, zf98va_1, zf98va_2, zf98va_3, zf98va_4, zf98va_5], [])
theorem t_wv105 {X : pX} {ρ0 : sR} (hv : vok X ρ0) : CUTOK X kR zWP c_wn0 8 ρ0 q_wv105 := CUT_mono (t_wv105i hv) (fun ρ hF hI => by
  have b0 := rl_lf (x := ρ.2.1 60033) (y := 0) (hF.2 _ (List.mem_cons_of_mem _ (List.mem_cons_self)))
  have b1 := rl_lf (x := 255) (y := ρ.2.1 60033) (hF.2 _ (List.mem_cons_of_mem _ (List.mem_cons_of_mem _ (List.mem_cons_self))))
  have y0 : (0 : Int64).toInt = 0 := by decide +kernel
  have y1 : (255 : Int64).toInt = 255 := by decide +kernel
  rw [y0] at b0
  rw [y1] at b1
  exact ⟨hF, ik_c (fun hg => decide_eq_true (of_1 (x := ρ.2.2.2.1 1761 86) (of_decide_eq_false (hg _ List.mem_cons_self)))) (ik_c (fun hg => decide_eq_true (of_0 (x := ρ.2.2.2.1 1761 86) (of_decide_eq_true (hg _ List.mem_cons_self)))) (ik_c (fun hg => by
    have c1 := rl_lf (x := 4) (y := ρ.2.1 60033) (hg _ List.mem_cons_self)
    have z1 : (4 : Int64).toInt = 4 := rfl
    rw [z1] at c1
    exact wn_129 (p := 105) (q := 105) rfl et_105 b0 c1 rfl) (hI)))⟩)
noncomputable def q_wq105 : sCut := ((fr 0 5 0 [(0, tr 57), (1, .int 105), (2, .arg 60033)] [], [fBot], 8), (fr 0 277 35 [(0, tr 219), (1, .arg 1308), (2, .int 105)] [], [fBot], 8), [zf98va_15, zf98va_16, zf98va_0, zf98va_1, zf98va_2, zf98va_3, zf98va_4, zf98va_5], [])
noncomputable def q_wq105i : sCut := ((fr 0 5 0 [(0, tr 57), (1, .int 105), (2, .arg 60033)] [], [fBot], 8), (fr 0 277 35 [(0, tr 219), (1, .arg 1308), (2, .int 105)] [], [fBot], 8), [zf98va_15, zf98va_16, zf98va_0, zf98va_1, zf98va_2, zf98va_3, zf98va_4, zf98va_5], [zi98va_66, zi98va_67, zi98va_68])
noncomputable def q_wq105iy : sCut := ((fr 0 5 0 [(0, tr 57), (1, .int 105), (2, .arg 60033)] [], [fBot], 8), (fr 0 277 35 [(0, tr 219), (1, .arg 1308), (2, .int 105)] [], [fBot], 8), [((6, .op2 .land (.elem (.arg 1761) (.int 86)) (.long 2147483648), .long 0), true), zf98va_15, zf98va_16, zf98va_0, zf98va_1, zf98va_2, zf98va_3, zf98va_4, zf98va_5], [zi98va_66, zi98va_67, zi98va_68])
theorem k_wq105iy : cbody kR [] (cpl1 zWP c_wn0 []) (cpl2 zWP c_wn0 []) (cleaf kR zWP c_wn0 []) 1500 true true q_wq105iy.2.2.1 q_wq105iy.2.2.2 (cst zWP c_wn0.2.2.1.1 q_wq105iy.1) (cst zWP c_wn0.2.2.1.2 q_wq105iy.2.1) = true := by decide +kernel
theorem t_wq105iy {X : pX} {ρ0 : sR} (hv : vok X ρ0) : CUTOK X kR zWP c_wn0 8 ρ0 q_wq105iy := CUT_run kR_x kR_0 (Cs := []) (fun C hC => by cases hC) c_wn0_f (Q := []) hv (fun q hq => by cases hq) 1500 (b1 := true) (b2 := true) k_wq105iy
noncomputable def q_wq105in : sCut := ((fr 0 5 0 [(0, tr 57), (1, .int 105), (2, .arg 60033)] [], [fBot], 8), (fr 0 277 35 [(0, tr 219), (1, .arg 1308), (2, .int 105)] [], [fBot], 8), [((6, .op2 .land (.op2 .lshr (.elem (.arg 1761) (.int 86)) (.int 31)) (.long 1), .long 1), true), zf98va_65, zf98va_15, zf98va_16, zf98va_0, zf98va_1, zf98va_2, zf98va_3, zf98va_4, zf98va_5], [zi98va_66, zi98va_67, zi98va_68])
theorem k_wq105in : cbody kR [] (cpl1 zWP c_wn0 [q_wv105]) (cpl2 zWP c_wn0 [q_wv105]) (cleaf kR zWP c_wn0 [q_wv105]) 1500 false true q_wq105in.2.2.1 q_wq105in.2.2.2 (cst zWP c_wn0.2.2.1.1 q_wq105in.1) (cst zWP c_wn0.2.2.1.2 q_wq105in.2.1) = true := by decide +kernel
theorem t_wq105in {X : pX} {ρ0 : sR} (hv : vok X ρ0) : CUTOK X kR zWP c_wn0 8 ρ0 q_wq105in := CUT_run kR_x kR_0 (Cs := []) (fun C hC => by cases hC) c_wn0_f (Q := [q_wv105]) hv (fun q hq => by
    simp only [List.mem_cons, List.not_mem_nil, or_false] at hq
    rw [hq]; exact t_wv105 hv) 1500 (b1 := false) (b2 := true) k_wq105in
theorem t_wq105i {X : pX} {ρ0 : sR} (hv : vok X ρ0) : CUTOK X kR zWP c_wn0 8 ρ0 q_wq105i := CUT_split (6, .op2 .land (.elem (.arg 1761) (.int 86)) (.long 2147483648), .long 0) (t_wq105iy hv) (CUT_mono (t_wq105in hv) (fun ρ hF hI => ⟨⟨hF.1, by
    exact fcn (decide_eq_true (of_1 (x := ρ.2.2.2.1 1761 86) (of_decide_eq_false (hF.2 _ List.mem_cons_self)))) hF.2⟩, hI⟩))
theorem t_wq105 {X : pX} {ρ0 : sR} (hv : vok X ρ0) : CUTOK X kR zWP c_wn0 8 ρ0 q_wq105 := CUT_mono (t_wq105i hv) (fun ρ hF hI => by
  have b0 := rl_lf (x := ρ.2.1 60033) (y := 0) (hF.2 _ (List.mem_cons_of_mem _ (List.mem_cons_of_mem _ (List.mem_cons_self))))
  have b1 := rl_lf (x := 255) (y := ρ.2.1 60033) (hF.2 _ (List.mem_cons_of_mem _ (List.mem_cons_of_mem _ (List.mem_cons_of_mem _ (List.mem_cons_self)))))
  have y0 : (0 : Int64).toInt = 0 := by decide +kernel
  have y1 : (255 : Int64).toInt = 255 := by decide +kernel
  rw [y0] at b0
  rw [y1] at b1
  exact ⟨hF, ik_c (fun hg => decide_eq_true (of_1 (x := ρ.2.2.2.1 1761 86) (of_decide_eq_false (hg _ List.mem_cons_self)))) (ik_c (fun hg => decide_eq_true (of_0 (x := ρ.2.2.2.1 1761 86) (of_decide_eq_true (hg _ List.mem_cons_self)))) (ik_c (fun hg => by
    have c1 := rl_lf (x := 4) (y := ρ.2.1 60033) (hg _ List.mem_cons_self)
    have z1 : (4 : Int64).toInt = 4 := rfl
    rw [z1] at c1
    exact wn_129 (p := 105) (q := 105) rfl et_105 b0 c1 rfl) (hI)))⟩)
theorem e_wp105 : frun kR [] (cpl1 zWP (c_wp0 105) [q_wq105]) (cpl2 zWP (c_wp0 105) [q_wq105]) (cleaf kR zWP (c_wp0 105) [q_wq105]) 300 65536 (isatP ((c_wp0 105).2.2.2.1) (c_wp0 105).2.2.2.2.2.2.2.1) (c_wp0 105).2.2.2.2.2.2.2.1 (sin0 mt_all (c_wp0 105).1.1 8 (c_wp0 105).2.1.1 (foot zWP (c_wp0 105).2.2.1.1)) (sin0 mt_all (c_wp0 105).1.2.1 8 (c_wp0 105).2.1.2 (foot zWP (c_wp0 105).2.2.1.2)) = true := by decide +kernel
theorem s_wp105 {X : pX} : SREL X pF pdfl mt_all kR zWP (c_wp0 105) := SREL_QC kR_x kR_0 (Cs := []) (fun C hC => by cases hC) (d := 8) rfl (c_wp0_f 105) (Q := [q_wq105]) (fun ρ0 hv => fun q hq => by
    simp only [List.mem_cons, List.not_mem_nil, or_false] at hq
    rw [hq]; exact (t_wq105 hv : CUTOK X kR zWP c_wn0 8 ρ0 q_wq105)) (QC_run 300 e_wp105)
theorem et_113 : evt[113]? = some (1, 100, 0) := by decide +kernel
noncomputable def q_wR113 : sCut := ((fr 0 10 53 [] [], [fr 0 5 23 [(4, .int 0)] [], fBot], 7), (fr 0 281 150 [] [], [fr 0 277 91 [(3, .int 0)] [], fBot], 7), [((129, .int 113, .arg 60033), true)], [])
noncomputable def q_wq113 : sCut := ((fr 0 5 0 [(0, tr 57), (1, .int 113), (2, .arg 60033)] [], [fBot], 8), (fr 0 277 60 [(0, tr 219), (1, .arg 1308), (2, .int 113), (4, .arg 60033)] [], [fBot], 8), [zf98va_0, zf98va_1, zf98va_2, zf98va_3, zf98va_4, zf98va_5], [])
noncomputable def q_wq113i : sCut := ((fr 0 5 0 [(0, tr 57), (1, .int 113), (2, .arg 60033)] [], [fBot], 8), (fr 0 277 60 [(0, tr 219), (1, .arg 1308), (2, .int 113), (4, .arg 60033)] [], [fBot], 8), [zf98va_0, zf98va_1, zf98va_2, zf98va_3, zf98va_4, zf98va_5], [([((8, .arg 60033, .long 1), false), ((8, .long 100, .arg 60033), false)], (129, .int 113, .arg 60033), true)])
noncomputable def w_wq113i : List (sCut × List (Nat × sT) × List (Nat × sT × List (sT × sT))) := [(q_wR113, [(60033, .arg 60033), (2848, .op2 .ior (.arg 2848) (.int 16)), (6850, .arg 6850), (6882, .arg 6882), (6914, .arg 6914), (6946, .arg 6946), (7362, .arg 7362), (7394, .arg 7394), (7426, .arg 7426), (7458, .arg 7458), (7874, .arg 7874), (7906, .arg 7906), (7938, .arg 7938), (7970, .arg 7970), (21216, .arg 21216), (21248, .arg 21248), (21280, .arg 21280), (21312, .arg 21312), (6466, .arg 6466), (6498, .arg 6498)], [(1761, .arg 1761, [(.int 113, .arg 60033)])])]
theorem k_wq113i : cbody kR [] (cpl1 zWP c_wn0 [q_wR113]) (cpl2 zWP c_wn0 [q_wR113]) (cleafB kR zWP c_wn0 w_wq113i) 1500 true true q_wq113i.2.2.1 q_wq113i.2.2.2 (cst zWP c_wn0.2.2.1.1 q_wq113i.1) (cst zWP c_wn0.2.2.1.2 q_wq113i.2.1) = true := by decide +kernel
theorem t_wq113i {X : pX} {ρ0 : sR} (hv : vok X ρ0) : CUTOK X kR zWP c_wn0 8 ρ0 q_wq113i := CUTOK_AT (fun ρ k1 hF hI k4 => AT_of (q := q_wq113i) rfl rfl (SEM_runB kR_x kR_0 (Cs := []) (fun C hC => by cases hC) c_wn0_f (Q := w_wq113i) hv 1500 (b1 := true) (b2 := true) k_wq113i k1 hF hI k4 (fun p hp ρ3 m1 m2 m3 m4 m5 m6 => by
  rw [List.mem_singleton.mp hp] at m2 m3 m5 m6 ⊢
  have y3 : ρ3.2.1 60033 = ρ.2.1 60033 := congrArg Prod.snd (m5 (60033, .arg 60033) List.mem_cons_self)
  have hA : ∀ j, ρ3.2.2.2.1 1761 j = if 113 = j then ρ.2.1 60033 else ρ.2.2.2.1 1761 j := fun j => ad_l (X := X) (p := 113) (t := .arg 60033) rfl (m6 _ List.mem_cons_self) j
  have hk : evk 113 (ρ.2.1 60033).toInt = true := by
    have h := m2.2 _ List.mem_cons_self
    rw [← y3]
    exact h
  have ea : ρ3.1 2848 = (sd X ρ (.op2 .ior (.arg 2848) (.int 16))).1 := congrArg Prod.fst (m5 (2848, .op2 .ior (.arg 2848) (.int 16)) (List.mem_cons_of_mem _ List.mem_cons_self))
  have eL : ρ3.1 60578 = ρ.1 60578 := (m4.1 60578 (by decide) (by decide)).1.trans (k4.1 60578 (by decide) (by decide)).1.symm
  have mo : sc X ρ3 (2, .op2 .iand (.op2 .iushr (.arg 2848) (.int 4)) (.int 1), .arg 60578) = false := by
    show decide (((ρ3.1 2848).toUInt32 >>> ((4 : Int32).toUInt32 &&& (31 : Int32).toUInt32)).toInt32 &&& 1 < ρ3.1 60578) = false
    rw [ea, eL]
    have q := tbv_ok (X := X) (ρ := ρ) (F := []) (a := .op2 .iand (.op2 .iushr (.op2 .ior (.arg 2848) (.int 16)) (.int 4)) (.int 1)) (b := .int 1) ⟨hF.1, fun f hf => by cases hf⟩ (by decide +kernel)
    rw [sv_int rfl, sv_int rfl] at q
    exact mn_1 (Value.int.inj q) (kp_b (hF.1.1 60578 (0, 1) rfl))
  exact t_wE0 hv ρ3 m1 ⟨m2.1, fcn (ev_nm (g := ρ.2.2.2.1 1761) (p := 113) (hF.2 _ (List.mem_cons_of_mem _ (List.mem_cons_of_mem _ (List.mem_cons_self)))) hk hA (by decide +kernel)) (fcn (pd_up (X := X) (p := 113) (c := 16) (z := []) (hF.2 _ (List.mem_cons_of_mem _ (List.mem_cons_of_mem _ (List.mem_cons_of_mem _ (List.mem_cons_self))))) hA (fun x hx => m5 x (List.mem_cons_of_mem _ hx)) k4 m4 wm_0 wb_0 (by decide +kernel)) (fcn (mo) (fnl)))⟩ m3 m4)))
theorem t_wq113 {X : pX} {ρ0 : sR} (hv : vok X ρ0) : CUTOK X kR zWP c_wn0 8 ρ0 q_wq113 := CUT_mono (t_wq113i hv) (fun ρ hF hI => by
  have b0 := rl_lf (x := ρ.2.1 60033) (y := 0) (hF.2 _ (List.mem_cons_self))
  have b1 := rl_lf (x := 255) (y := ρ.2.1 60033) (hF.2 _ (List.mem_cons_of_mem _ (List.mem_cons_self)))
  have y0 : (0 : Int64).toInt = 0 := by decide +kernel
  have y1 : (255 : Int64).toInt = 255 := by decide +kernel
  rw [y0] at b0
  rw [y1] at b1
  exact ⟨hF, ik_c (fun hg => by
    have c0 := rl_lf (x := ρ.2.1 60033) (y := 1) (hg _ List.mem_cons_self)
    have c1 := rl_lf (x := 100) (y := ρ.2.1 60033) (hg _ (List.mem_cons_of_mem _ List.mem_cons_self))
    have z0 : (1 : Int64).toInt = 1 := by decide +kernel
    have z1 : (100 : Int64).toInt = 100 := by decide +kernel
    rw [z0] at c0
    rw [z1] at c1
    exact wn_129 (p := 113) (q := 113) rfl et_113 c0 c1 rfl) (hI)⟩)
theorem e_wp113 : frun kR [] (cpl1 zWP (c_wp0 113) [q_wq113]) (cpl2 zWP (c_wp0 113) [q_wq113]) (cleaf kR zWP (c_wp0 113) [q_wq113]) 300 65536 (isatP ((c_wp0 113).2.2.2.1) (c_wp0 113).2.2.2.2.2.2.2.1) (c_wp0 113).2.2.2.2.2.2.2.1 (sin0 mt_all (c_wp0 113).1.1 8 (c_wp0 113).2.1.1 (foot zWP (c_wp0 113).2.2.1.1)) (sin0 mt_all (c_wp0 113).1.2.1 8 (c_wp0 113).2.1.2 (foot zWP (c_wp0 113).2.2.1.2)) = true := by decide +kernel
theorem s_wp113 {X : pX} : SREL X pF pdfl mt_all kR zWP (c_wp0 113) := SREL_QC kR_x kR_0 (Cs := []) (fun C hC => by cases hC) (d := 8) rfl (c_wp0_f 113) (Q := [q_wq113]) (fun ρ0 hv => fun q hq => by
    simp only [List.mem_cons, List.not_mem_nil, or_false] at hq
    rw [hq]; exact (t_wq113 hv : CUTOK X kR zWP c_wn0 8 ρ0 q_wq113)) (QC_run 300 e_wp113)
