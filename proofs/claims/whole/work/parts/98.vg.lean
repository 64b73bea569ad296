set_option maxRecDepth 20000
theorem et_117 : evt[117]? = some (-32768, 32767, 1) := by decide +kernel
noncomputable def zf98vg_0 : sQ × Bool := ((129, .int 117, .arg 60033), true)
noncomputable def q_wR117 : sCut := ((fr 0 5 23 [(4, .int 0)] [], [fBot], 8), (fr 0 277 91 [(3, .int 0)] [], [fBot], 8), [zf98vg_0], [])
noncomputable def zf98vg_1 : sQ × Bool := ((8, .arg 60033, .long (-32768)), false)
noncomputable def zf98vg_2 : sQ × Bool := ((8, .long 32767, .arg 60033), false)
noncomputable def zf98vg_3 : sQ × Bool := ((101, .elem (.arg 1761) (.int 0), .int 0), true)
noncomputable def zf98vg_4 : sQ × Bool := ((137, .add (.elem (.arg 1761) (.int 0)) (.add (.arg 2848) (.add (.elem (.arg 24512) (.int 0)) (.add (.elem (.arg 2404) (.int 0)) (.add (.elem (.arg 24544) (.int 0)) (.add (.elem (.arg 2436) (.int 0)) (.add (.arg 5728) (.add (.arg 5760) (.add (.arg 5792) (.add (.arg 5824) (.add (.arg 5856) (.add (.arg 5888) (.add (.arg 5920) (.add (.arg 5952) (.add (.arg 2082) (.add (.arg 2114) (.add (.arg 2146) (.add (.arg 2178) (.add (.arg 6850) (.add (.arg 6882) (.add (.arg 6914) (.add (.arg 6946) (.add (.arg 2210) (.add (.arg 2242) (.add (.arg 2274) (.add (.arg 2306) (.add (.arg 7362) (.add (.arg 7394) (.add (.arg 7426) (.add (.arg 7458) (.add (.arg 2338) (.add (.arg 2370) (.add (.arg 2402) (.add (.arg 2434) (.add (.arg 7874) (.add (.arg 7906) (.add (.arg 7938) (.add (.arg 7970) (.add (.arg 6240) (.add (.arg 6272) (.add (.arg 6304) (.add (.arg 6336) (.add (.arg 21216) (.add (.arg 21248) (.add (.arg 21280) (.add (.arg 21312) (.add (.arg 1570) (.add (.arg 1602) (.add (.arg 6466) (.arg 6498))))))))))))))))))))))))))))))))))))))))))))))))), .int 0), true)
noncomputable def zf98vg_5 : sQ × Bool := ((0, .op2 .iand (.op2 .iushr (.arg 2848) (.int 4)) (.int 1), .arg 60578), true)
noncomputable def zf98vg_6 : sQ × Bool := ((2, .op2 .iand (.op2 .iushr (.arg 2848) (.int 4)) (.int 1), .arg 60578), false)
noncomputable def q_wq117 : sCut := ((fr 0 5 0 [(0, tr 57), (1, .int 117), (2, .arg 60033)] [], [fBot], 8), (fr 0 277 60 [(0, tr 219), (1, .arg 1308), (2, .int 117), (4, .arg 60033)] [], [fBot], 8), [zf98vg_1, zf98vg_2, zf98vg_3, zf98vg_4, zf98vg_5, zf98vg_6], [])
noncomputable def q_wq117i : sCut := ((fr 0 5 0 [(0, tr 57), (1, .int 117), (2, .arg 60033)] [], [fBot], 8), (fr 0 277 60 [(0, tr 219), (1, .arg 1308), (2, .int 117), (4, .arg 60033)] [], [fBot], 8), [zf98vg_1, zf98vg_2, zf98vg_3, zf98vg_4, zf98vg_5, zf98vg_6], [])
noncomputable def zf98vg_7 : sQ × Bool := ((6, .arg 60033, .long 0), true)
noncomputable def zf98vg_8 : sQ × Bool := ((6, .long 0, .arg 60033), true)
noncomputable def zf98vg_9 : sQ × Bool := ((6, .arg 60033, .long 1), false)
noncomputable def zf98vg_10 : sQ × Bool := ((6, .long 1, .arg 60033), false)
noncomputable def zf98vg_11 : sQ × Bool := ((6, .arg 60033, .long 2), false)
noncomputable def zf98vg_12 : sQ × Bool := ((6, .long 2, .arg 60033), false)
noncomputable def zf98vg_13 : sQ × Bool := ((6, .arg 60033, .long 5), false)
noncomputable def zf98vg_14 : sQ × Bool := ((6, .long 5, .arg 60033), false)
noncomputable def zf98vg_15 : sQ × Bool := ((6, .arg 60033, .long 6), false)
noncomputable def zf98vg_16 : sQ × Bool := ((6, .long 6, .arg 60033), false)
noncomputable def q_wq117im0 : sCut := ((fr 0 5 0 [(0, tr 57), (1, .int 117), (2, .arg 60033)] [], [fBot], 8), (fr 0 277 60 [(0, tr 219), (1, .arg 1308), (2, .int 117), (4, .arg 60033)] [], [fBot], 8), [zf98vg_0, zf98vg_7, zf98vg_8, zf98vg_9, zf98vg_10, zf98vg_11, zf98vg_12, zf98vg_13, zf98vg_14, zf98vg_15, zf98vg_16, zf98vg_1, zf98vg_2, zf98vg_3, zf98vg_4, zf98vg_5, zf98vg_6], [])
noncomputable def w_wq117im0 : List (sCut × List (Nat × sT) × List (Nat × sT × List (sT × sT))) := [(q_wR117, [(60033, .arg 60033), (2848, .op2 .ior (.arg 2848) (.int 0)), (6850, .arg 6850), (6882, .arg 6882), (6914, .arg 6914), (6946, .arg 6946), (7362, .arg 7362), (7394, .arg 7394), (7426, .arg 7426), (7458, .arg 7458), (7874, .arg 7874), (7906, .arg 7906), (7938, .arg 7938), (7970, .arg 7970), (21216, .arg 21216), (21248, .arg 21248), (21280, .arg 21280), (21312, .arg 21312), (6466, .arg 6466), (6498, .arg 6498)], [(1761, .arg 1761, [(.int 117, .arg 60033)])])]
theorem k_wq117im0 : cbody kR [] (cpl1 zWP c_wn4 [q_wR117]) (cpl2 zWP c_wn4 [q_wR117]) (cleafB kR zWP c_wn4 w_wq117im0) 1500 true true q_wq117im0.2.2.1 q_wq117im0.2.2.2 (cst zWP c_wn4.2.2.1.1 q_wq117im0.1) (cst zWP c_wn4.2.2.1.2 q_wq117im0.2.1) = true := by decide +kernel
theorem t_wq117im0 {X : pX} {ρ0 : sR} (hv : vok X ρ0) : CUTOK X kR zWP c_wn4 8 ρ0 q_wq117im0 := CUTOK_AT (fun ρ k1 hF hI k4 => AT_of (q := q_wq117im0) rfl rfl (SEM_runB kR_x kR_0 (Cs := []) (fun C hC => by cases hC) c_wn4_f (Q := w_wq117im0) hv 1500 (b1 := true) (b2 := true) k_wq117im0 k1 hF hI k4 (fun p hp ρ3 m1 m2 m3 m4 m5 m6 => by
  rw [List.mem_singleton.mp hp] at m2 m3 m5 m6 ⊢
  have y3 : ρ3.2.1 60033 = ρ.2.1 60033 := congrArg Prod.snd (m5 (60033, .arg 60033) List.mem_cons_self)
  have hA : ∀ j, ρ3.2.2.2.1 1761 j = if 117 = j then ρ.2.1 60033 else ρ.2.2.2.1 1761 j := fun j => ad_l (X := X) (p := 117) (t := .arg 60033) rfl (m6 _ List.mem_cons_self) j
  have hk : evk 117 (ρ.2.1 60033).toInt = true := by
    have h := m2.2 _ List.mem_cons_self
    rw [← y3]
    exact h
  have ea : ρ3.1 2848 = (sd X ρ (.op2 .ior (.arg 2848) (.int 0))).1 := congrArg Prod.fst (m5 (2848, .op2 .ior (.arg 2848) (.int 0)) (List.mem_cons_of_mem _ List.mem_cons_self))
  have eL : ρ3.1 60578 = ρ.1 60578 := (m4.1 60578 (by decide) (by decide)).1.trans (k4.1 60578 (by decide) (by decide)).1.symm
  have mo : sc X ρ3 (2, .op2 .iand (.op2 .iushr (.arg 2848) (.int 4)) (.int 1), .arg 60578) = false := by
    show decide (((ρ3.1 2848).toUInt32 >>> ((4 : Int32).toUInt32 &&& (31 : Int32).toUInt32)).toInt32 &&& 1 < ρ3.1 60578) = false
    rw [ea, eL]
    have q := tbv_ok (X := X) (ρ := ρ) (F := []) (a := .op2 .iand (.op2 .iushr (.op2 .ior (.arg 2848) (.int 0)) (.int 4)) (.int 1)) (b := .op2 .iand (.op2 .iushr (.arg 2848) (.int 4)) (.int 1)) ⟨hF.1, fun f hf => by cases hf⟩ (by decide +kernel)
    rw [sv_int rfl, sv_int rfl] at q
    exact mn_e (Value.int.inj q) (of_decide_eq_true (hF.2 _ (List.mem_cons_of_mem _ (List.mem_cons_of_mem _ (List.mem_cons_of_mem _ (List.mem_cons_of_mem _ (List.mem_cons_of_mem _ (List.mem_cons_of_mem _ (List.mem_cons_of_mem _ (List.mem_cons_of_mem _ (List.mem_cons_of_mem _ (List.mem_cons_of_mem _ (List.mem_cons_of_mem _ (List.mem_cons_of_mem _ (List.mem_cons_of_mem _ (List.mem_cons_of_mem _ (List.mem_cons_of_mem _ (List.mem_cons_self))))))))))))))))))
  exact t_wG4 hv ρ3 m1 ⟨m2.1, fcn (ev_nm (g := ρ.2.2.2.1 1761) (p := 117) (hF.2 _ (List.mem_cons_of_mem _ (List.mem_cons_of_mem _ (List.mem_cons_of_mem _ (List.mem_cons_of_mem _ (List.mem_cons_of_mem _ (List.mem_cons_of_mem _ (List.mem_cons_of_mem _ (List.mem_cons_of_mem _ (List.mem_cons_of_mem _ (List.mem_cons_of_mem _ (List.mem_cons_of_mem _ (List.mem_cons_of_mem _ (List.mem_cons_of_mem _ (List.mem_cons_self))))))))))))))) hk hA (by decide +kernel)) (fcn (pd_up (X := X) (p := 117) (c := 0) (z := []) (hF.2 _ (List.mem_cons_of_mem _ (List.mem_cons_of_mem _ (List.mem_cons_of_mem _ (List.mem_cons_of_mem _ (List.mem_cons_of_mem _ (List.mem_cons_of_mem _ (List.mem_cons_of_mem _ (List.mem_cons_of_mem _ (List.mem_cons_of_mem _ (List.mem_cons_of_mem _ (List.mem_cons_of_mem _ (List.mem_cons_of_mem _ (List.mem_cons_of_mem _ (List.mem_cons_of_mem _ (List.mem_cons_self)))))))))))))))) hA (fun x hx => m5 x (List.mem_cons_of_mem _ hx)) k4 m4 wm_4 wb_4 (by decide +kernel)) (fcn (mo) (fnl)))⟩ m3 m4)))
noncomputable def zf98vg_17 : sQ × Bool := ((6, .arg 60033, .long 0), false)
noncomputable def zf98vg_18 : sQ × Bool := ((6, .long 0, .arg 60033), false)
noncomputable def zf98vg_19 : sQ × Bool := ((6, .arg 60033, .long 1), true)
noncomputable def zf98vg_20 : sQ × Bool := ((6, .long 1, .arg 60033), true)
noncomputable def q_wq117im1 : sCut := ((fr 0 5 0 [(0, tr 57), (1, .int 117), (2, .arg 60033)] [], [fBot], 8), (fr 0 277 60 [(0, tr 219), (1, .arg 1308), (2, .int 117), (4, .arg 60033)] [], [fBot], 8), [zf98vg_0, zf98vg_17, zf98vg_18, zf98vg_19, zf98vg_20, zf98vg_11, zf98vg_12, zf98vg_13, zf98vg_14, zf98vg_15, zf98vg_16, zf98vg_1, zf98vg_2, zf98vg_3, zf98vg_4, zf98vg_5, zf98vg_6], [])
noncomputable def w_wq117im1 : List (sCut × List (Nat × sT) × List (Nat × sT × List (sT × sT))) := [(q_wR117, [(60033, .arg 60033), (2848, .op2 .ior (.arg 2848) (.int 0)), (6850, .arg 6850), (6882, .arg 6882), (6914, .arg 6914), (6946, .arg 6946), (7362, .arg 7362), (7394, .arg 7394), (7426, .arg 7426), (7458, .arg 7458), (7874, .arg 7874), (7906, .arg 7906), (7938, .arg 7938), (7970, .arg 7970), (21216, .arg 21216), (21248, .arg 21248), (21280, .arg 21280), (21312, .arg 21312), (6466, .arg 6466), (6498, .arg 6498)], [(1761, .arg 1761, [(.int 117, .arg 60033)])])]
theorem k_wq117im1 : cbody kR [] (cpl1 zWP c_wn4 [q_wR117]) (cpl2 zWP c_wn4 [q_wR117]) (cleafB kR zWP c_wn4 w_wq117im1) 1500 true true q_wq117im1.2.2.1 q_wq117im1.2.2.2 (cst zWP c_wn4.2.2.1.1 q_wq117im1.1) (cst zWP c_wn4.2.2.1.2 q_wq117im1.2.1) = true := by decide +kernel
theorem t_wq117im1 {X : pX} {ρ0 : sR} (hv : vok X ρ0) : CUTOK X kR zWP c_wn4 8 ρ0 q_wq117im1 := CUTOK_AT (fun ρ k1 hF hI k4 => AT_of (q := q_wq117im1) rfl rfl (SEM_runB kR_x kR_0 (Cs := []) (fun C hC => by cases hC) c_wn4_f (Q := w_wq117im1) hv 1500 (b1 := true) (b2 := true) k_wq117im1 k1 hF hI k4 (fun p hp ρ3 m1 m2 m3 m4 m5 m6 => by
  rw [List.mem_singleton.mp hp] at m2 m3 m5 m6 ⊢
  have y3 : ρ3.2.1 60033 = ρ.2.1 60033 := congrArg Prod.snd (m5 (60033, .arg 60033) List.mem_cons_self)
  have hA : ∀ j, ρ3.2.2.2.1 1761 j = if 117 = j then ρ.2.1 60033 else ρ.2.2.2.1 1761 j := fun j => ad_l (X := X) (p := 117) (t := .arg 60033) rfl (m6 _ List.mem_cons_self) j
  have hk : evk 117 (ρ.2.1 60033).toInt = true := by
    have h := m2.2 _ List.mem_cons_self
    rw [← y3]
    exact h
  have ea : ρ3.1 2848 = (sd X ρ (.op2 .ior (.arg 2848) (.int 0))).1 := congrArg Prod.fst (m5 (2848, .op2 .ior (.arg 2848) (.int 0)) (List.mem_cons_of_mem _ List.mem_cons_self))
  have eL : ρ3.1 60578 = ρ.1 60578 := (m4.1 60578 (by decide) (by decide)).1.trans (k4.1 60578 (by decide) (by decide)).1.symm
  have mo : sc X ρ3 (2, .op2 .iand (.op2 .iushr (.arg 2848) (.int 4)) (.int 1), .arg 60578) = false := by
    show decide (((ρ3.1 2848).toUInt32 >>> ((4 : Int32).toUInt32 &&& (31 : Int32).toUInt32)).toInt32 &&& 1 < ρ3.1 60578) = false
    rw [ea, eL]
    have q := tbv_ok (X := X) (ρ := ρ) (F := []) (a := .op2 .iand (.op2 .iushr (.op2 .ior (.arg 2848) (.int 0)) (.int 4)) (.int 1)) (b := .op2 .iand (.op2 .iushr (.arg 2848) (.int 4)) (.int 1)) ⟨hF.1, fun f hf => by cases hf⟩ (by decide +kernel)
    rw [sv_int rfl, sv_int rfl] at q
    exact mn_e (Value.int.inj q) (of_decide_eq_true (hF.2 _ (List.mem_cons_of_mem _ (List.mem_cons_of_mem _ (List.mem_cons_of_mem _ (List.mem_cons_of_mem _ (List.mem_cons_of_mem _ (List.mem_cons_of_mem _ (List.mem_cons_of_mem _ (List.mem_cons_of_mem _ (List.mem_cons_of_mem _ (List.mem_cons_of_mem _ (List.mem_cons_of_mem _ (List.mem_cons_of_mem _ (List.mem_cons_of_mem _ (List.mem_cons_of_mem _ (List.mem_cons_of_mem _ (List.mem_cons_self))))))))))))))))))
  exact t_wG4 hv ρ3 m1 ⟨m2.1, fcn (ev_nm (g := ρ.2.2.2.1 1761) (p := 117) (hF.2 _ (List.mem_cons_of_mem _ (List.mem_cons_of_mem _ (List.mem_cons_of_mem _ (List.mem_cons_of_mem _ (List.mem_cons_of_mem _ (List.mem_cons_of_mem _ (List.mem_cons_of_mem _ (List.mem_cons_of_mem _ (List.mem_cons_of_mem _ (List.mem_cons_of_mem _ (List.mem_cons_of_mem _ (List.mem_cons_of_mem _ (List.mem_cons_of_mem _ (List.mem_cons_self))))))))))))))) hk hA (by decide +kernel)) (fcn (pd_up (X := X) (p := 117) (c := 0) (z := []) (hF.2 _ (List.mem_cons_of_mem _ (List.mem_cons_of_mem _ (List.mem_cons_of_mem _ (List.mem_cons_of_mem _ (List.mem_cons_of_mem _ (List.mem_cons_of_mem _ (List.mem_cons_of_mem _ (List.mem_cons_of_mem _ (List.mem_cons_of_mem _ (List.mem_cons_of_mem _ (List.mem_cons_of_mem _ (List.mem_cons_of_mem _ (List.mem_cons_of_mem _ (List.mem_cons_of_mem _ (List.mem_cons_self)))))))))))))))) hA (fun x hx => m5 x (List.mem_cons_of_mem _ hx)) k4 m4 wm_4 wb_4 (by decide +kernel)) (fcn (mo) (fnl)))⟩ m3 m4)))
noncomputable def zf98vg_21 : sQ × Bool := ((6, .arg 60033, .long 2), true)
noncomputable def zf98vg_22 : sQ × Bool := ((6, .long 2, .arg 60033), true)
noncomputable def q_wq117im2 : sCut := ((fr 0 5 0 [(0, tr 57), (1, .int 117), (2, .arg 60033)] [], [fBot], 8), (fr 0 277 60 [(0, tr 219), (1, .arg 1308), (2, .int 117), (4, .arg 60033)] [], [fBot], 8), [zf98vg_0, zf98vg_17, zf98vg_18, zf98vg_9, zf98vg_10, zf98vg_21, zf98vg_22, zf98vg_13, zf98vg_14, zf98vg_15, zf98vg_16, zf98vg_1, zf98vg_2, zf98vg_3, zf98vg_4, zf98vg_5, zf98vg_6], [])
noncomputable def w_wq117im2 : List (sCut × List (Nat × sT) × List (Nat × sT × List (sT × sT))) := [(q_wR117, [(60033, .arg 60033), (2848, .op2 .ior (.arg 2848) (.int 0)), (6850, .arg 6850), (6882, .arg 6882), (6914, .arg 6914), (6946, .arg 6946), (7362, .arg 7362), (7394, .arg 7394), (7426, .arg 7426), (7458, .arg 7458), (7874, .arg 7874), (7906, .arg 7906), (7938, .arg 7938), (7970, .arg 7970), (21216, .arg 21216), (21248, .arg 21248), (21280, .arg 21280), (21312, .arg 21312), (6466, .arg 6466), (6498, .arg 6498)], [(1761, .arg 1761, [(.int 117, .arg 60033)])])]
theorem k_wq117im2 : cbody kR [] (cpl1 zWP c_wn4 [q_wR117]) (cpl2 zWP c_wn4 [q_wR117]) (cleafB kR zWP c_wn4 w_wq117im2) 1500 true true q_wq117im2.2.2.1 q_wq117im2.2.2.2 (cst zWP c_wn4.2.2.1.1 q_wq117im2.1) (cst zWP c_wn4.2.2.1.2 q_wq117im2.2.1) = true := by decide +kernel
theorem t_wq117im2 {X : pX} {ρ0 : sR} (hv : vok X ρ0) : CUTOK X kR zWP c_wn4 8 ρ0 q_wq117im2 := CUTOK_AT (fun ρ k1 hF hI k4 => AT_of (q := q_wq117im2) rfl rfl (SEM_runB kR_x kR_0 (Cs := []) (fun C hC => by cases hC) c_wn4_f (Q := w_wq117im2) hv 1500 (b1 := true) (b2 := true) k_wq117im2 k1 hF hI k4 (fun p hp ρ3 m1 m2 m3 m4 m5 m6 => by
  rw [List.mem_singleton.mp hp] at m2 m3 m5 m6 ⊢
  have y3 : ρ3.2.1 60033 = ρ.2.1 60033 := congrArg Prod.snd (m5 (60033, .arg 60033) List.mem_cons_self)
  have hA : ∀ j, ρ3.2.2.2.1 1761 j = if 117 = j then ρ.2.1 60033 else ρ.2.2.2.1 1761 j := fun j => ad_l (X := X) (p := 117) (t := .arg 60033) rfl (m6 _ List.mem_cons_self) j
  have hk : evk 117 (ρ.2.1 60033).toInt = true := by
    have h := m2.2 _ List.mem_cons_self
    rw [← y3]
    exact h
  have ea : ρ3.1 2848 = (sd X ρ (.op2 .ior (.arg 2848) (.int 0))).1 := congrArg Prod.fst (m5 (2848, .op2 .ior (.arg 2848) (.int 0)) (List.mem_cons_of_mem _ List.mem_cons_self))
  have eL : ρ3.1 60578 = ρ.1 60578 := (m4.1 60578 (by decide) (by decide)).1.trans (k4.1 60578 (by decide) (by decide)).1.symm
  have mo : sc X ρ3 (2, .op2 .iand (.op2 .iushr (.arg 2848) (.int 4)) (.int 1), .arg 60578) = false := by
    show decide (((ρ3.1 2848).toUInt32 >>> ((4 : Int32).toUInt32 &&& (31 : Int32).toUInt32)).toInt32 &&& 1 < ρ3.1 60578) = false
    rw [ea, eL]
    have q := tbv_ok (X := X) (ρ := ρ) (F := []) (a := .op2 .iand (.op2 .iushr (.op2 .ior (.arg 2848) (.int 0)) (.int 4)) (.int 1)) (b := .op2 .iand (.op2 .iushr (.arg 2848) (.int 4)) (.int 1)) ⟨hF.1, fun f hf => by cases hf⟩ (by decide +kernel)
    rw [sv_int rfl, sv_int rfl] at q
    exact mn_e (Value.int.inj q) (of_decide_eq_true (hF.2 _ (List.mem_cons_of_mem _ (List.mem_cons_of_mem _ (List.mem_cons_of_mem _ (List.mem_cons_of_mem _ (List.mem_cons_of_mem _ (List.mem_cons_of_mem _ (List.mem_cons_of_mem _ (List.mem_cons_of_mem _ (List.mem_cons_of_mem _ (List.mem_cons_of_mem _ (List.mem_cons_of_mem _ (List.mem_cons_of_mem _ (List.mem_cons_of_mem _ (List.mem_cons_of_mem _ (List.mem_cons_of_mem _ (List.mem_cons_self))))))))))))))))))
  exact t_wG4 hv ρ3 m1 ⟨m2.1, fcn (ev_nm (g := ρ.2.2.2.1 1761) (p := 117) (hF.2 _ (List.mem_cons_of_mem _ (List.mem_cons_of_mem _ (List.mem_cons_of_mem _ (List.mem_cons_of_mem _ (List.mem_cons_of_mem _ (List.mem_cons_of_mem _ (List.mem_cons_of_mem _ (List.mem_cons_of_mem _ (List.mem_cons_of_mem _ (List.mem_cons_of_mem _ (List.mem_cons_of_mem _ (List.mem_cons_of_mem _ (List.mem_cons_of_mem _ (List.mem_cons_self))))))))))))))) hk hA (by decide +kernel)) (fcn (pd_up (X := X) (p := 117) (c := 0) (z := []) (hF.2 _ (List.mem_cons_of_mem _ (List.mem_cons_of_mem _ (List.mem_cons_of_mem _ (List.mem_cons_of_mem _ (List.mem_cons_of_mem _ (List.mem_cons_of_mem _ (List.mem_cons_of_mem _ (List.mem_cons_of_mem _ (List.mem_cons_of_mem _ (List.mem_cons_of_mem _ (List.mem_cons_of_mem _ (List.mem_cons_of_mem _ (List.mem_cons_of_mem _ (List.mem_cons_of_mem _ (List.mem_cons_self)))))))))))))))) hA (fun x hx => m5 x (List.mem_cons_of_mem _ hx)) k4 m4 wm_4 wb_4 (by decide +kernel)) (fcn (mo) (fnl)))⟩ m3 m4)))
noncomputable def q_wq117im3 : sCut := ((fr 0 5 0 [(0, tr 57), (1, .int 117), (2, .arg 60033)] [], [fBot], 8), (fr 0 277 60 [(0, tr 219), (1, .arg 1308), (2, .int 117), (4, .arg 60033)] [], [fBot], 8), [zf98vg_0, zf98vg_17, zf98vg_18, zf98vg_9, zf98vg_10, zf98vg_11, zf98vg_12, ((6, .arg 60033, .long 5), true), ((6, .long 5, .arg 60033), true), zf98vg_15, zf98vg_16, zf98vg_1, zf98vg_2, zf98vg_3, zf98vg_4, zf98vg_5, zf98vg_6], [])
noncomputable def w_wq117im3 : List (sCut × List (Nat × sT) × List (Nat × sT × List (sT × sT))) := [(q_wR117, [(60033, .arg 60033), (2848, .op2 .ior (.arg 2848) (.int 0)), (6850, .arg 6850), (6882, .arg 6882), (6914, .arg 6914), (6946, .arg 6946), (7362, .arg 7362), (7394, .arg 7394), (7426, .arg 7426), (7458, .arg 7458), (7874, .arg 7874), (7906, .arg 7906), (7938, .arg 7938), (7970, .arg 7970), (21216, .arg 21216), (21248, .arg 21248), (21280, .arg 21280), (21312, .arg 21312), (6466, .arg 6466), (6498, .arg 6498)], [(1761, .arg 1761, [(.int 117, .arg 60033)])])]
theorem k_wq117im3 : cbody kR [] (cpl1 zWP c_wn4 [q_wR117]) (cpl2 zWP c_wn4 [q_wR117]) (cleafB kR zWP c_wn4 w_wq117im3) 1500 true true q_wq117im3.2.2.1 q_wq117im3.2.2.2 (cst zWP c_wn4.2.2.1.1 q_wq117im3.1) (cst zWP c_wn4.2.2.1.2 q_wq117im3.2.1) = true := by decide +kernel
theorem t_wq117im3 {X : pX} {ρ0 : sR} (hv : vok X ρ0) : CUTOK X kR zWP c_wn4 8 ρ0 q_wq117im3 := CUTOK_AT (fun ρ k1 hF hI k4 => AT_of (q := q_wq117im3) rfl rfl (SEM_runB kR_x kR_0 (Cs := []) (fun C hC => by cases hC) c_wn4_f (Q := w_wq117im3) hv 1500 (b1 := true) (b2 := true) k_wq117im3 k1 hF hI k4 (fun p hp ρ3 m1 m2 m3 m4 m5 m6 => by
  rw [List.mem_singleton.mp hp] at m2 m3 m5 m6 ⊢
  have y3 : ρ3.2.1 60033 = ρ.2.1 60033 := congrArg Prod.snd (m5 (60033, .arg 60033) List.mem_cons_self)
  have hA : ∀ j, ρ3.2.2.2.1 1761 j = if 117 = j then ρ.2.1 60033 else ρ.2.2.2.1 1761 j := fun j => ad_l (X := X) (p := 117) (t := .arg 60033) rfl (m6 _ List.mem_cons_self) j
  have hk : evk 117 (ρ.2.1 60033).toInt = true := by
    have h := m2.2 _ List.mem_cons_self
    rw [← y3]
    exact h
  have ea : ρ3.1 2848 = (sd X ρ (.op2 .ior (.arg 2848) (.int 0))).1 := congrArg Prod.fst (m5 (2848, .op2 .ior (.arg 2848) (.int 0)) (List.mem_cons_of_mem _ List.mem_cons_self))
  have eL : ρ3.1 60578 = ρ.1 60578 := (m4.1 60578 (by decide) (by decide)).1.trans (k4.1 60578 (by decide) (by decide)).1.symm
  have mo : sc X ρ3 (2, .op2 .iand (.op2 .iushr (.arg 2848) (.int 4)) (.int 1), .arg 60578) = false := by
    show decide (((ρ3.1 2848).toUInt32 >>> ((4 : Int32).toUInt32 &&& (31 : Int32).toUInt32)).toInt32 &&& 1 < ρ3.1 60578) = false
    rw [ea, eL]
    have q := tbv_ok (X := X) (ρ := ρ) (F := []) (a := .op2 .iand (.op2 .iushr (.op2 .ior (.arg 2848) (.int 0)) (.int 4)) (.int 1)) (b := .op2 .iand (.op2 .iushr (.arg 2848) (.int 4)) (.int 1)) ⟨hF.1, fun f hf => by cases hf⟩ (by decide +kernel)
    rw [sv_int rfl, sv_int rfl] at q
    exact mn_e (Value.int.inj q) (of_decide_eq_true (hF.2 _ (List.mem_cons_of_mem _ (List.mem_cons_of_mem _ (List.mem_cons_of_mem _ (List.mem_cons_of_mem _ (List.mem_cons_of_mem _ (List.mem_cons_of_mem _ (List.mem_cons_of_mem _ (List.mem_cons_of_mem _ (List.mem_cons_of_mem _ (List.mem_cons_of_mem _ (List.mem_cons_of_mem _ (List.mem_cons_of_mem _ (List.mem_cons_of_mem _ (List.mem_cons_of_mem _ (List.mem_cons_of_mem _ (List.mem_cons_self))))))))))))))))))
  exact t_wG4 hv ρ3 m1 ⟨m2.1, fcn (ev_nm (g := ρ.2.2.2.1 1761) (p := 117) (hF.2 _ (List.mem_cons_of_mem _ (List.mem_cons_of_mem _ (List.mem_cons_of_mem _ (List.mem_cons_of_mem _ (List.mem_cons_of_mem _ (List.mem_cons_of_mem _ (List.mem_cons_of_mem _ (List.mem_cons_of_mem _ (List.mem_cons_of_mem _ (List.mem_cons_of_mem _ (List.mem_cons_of_mem _ (List.mem_cons_of_mem _ (List.mem_cons_of_mem _ (List.mem_cons_self))))))))))))))) hk hA (by decide +kernel)) (fcn (pd_up (X := X) (p := 117) (c := 0) (z := []) (hF.2 _ (List.mem_cons_of_mem _ (List.mem_cons_of_mem _ (List.mem_cons_of_mem _ (List.mem_cons_of_mem _ (List.mem_cons_of_mem _ (List.mem_cons_of_mem _ (List.mem_cons_of_mem _ (List.mem_cons_of_mem _ (List.mem_cons_of_mem _ (List.mem_cons_of_mem _ (List.mem_cons_of_mem _ (List.mem_cons_of_mem _ (List.mem_cons_of_mem _ (List.mem_cons_of_mem _ (List.mem_cons_self)))))))))))))))) hA (fun x hx => m5 x (List.mem_cons_of_mem _ hx)) k4 m4 wm_4 wb_4 (by decide +kernel)) (fcn (mo) (fnl)))⟩ m3 m4)))
noncomputable def q_wq117im4 : sCut := ((fr 0 5 0 [(0, tr 57), (1, .int 117), (2, .arg 60033)] [], [fBot], 8), (fr 0 277 60 [(0, tr 219), (1, .arg 1308), (2, .int 117), (4, .arg 60033)] [], [fBot], 8), [zf98vg_0, zf98vg_17, zf98vg_18, zf98vg_9, zf98vg_10, zf98vg_11, zf98vg_12, zf98vg_13, zf98vg_14, ((6, .arg 60033, .long 6), true), ((6, .long 6, .arg 60033), true), zf98vg_1, zf98vg_2, zf98vg_3, zf98vg_4, zf98vg_5, zf98vg_6], [])
noncomputable def w_wq117im4 : List (sCut × List (Nat × sT) × List (Nat × sT × List (sT × sT))) := [(q_wR117, [(60033, .arg 60033), (2848, .op2 .ior (.arg 2848) (.int 0)), (6850, .arg 6850), (6882, .arg 6882), (6914, .arg 6914), (6946, .arg 6946), (7362, .arg 7362), (7394, .arg 7394), (7426, .arg 7426), (7458, .arg 7458), (7874, .arg 7874), (7906, .arg 7906), (7938, .arg 7938), (7970, .arg 7970), (21216, .arg 21216), (21248, .arg 21248), (21280, .arg 21280), (21312, .arg 21312), (6466, .arg 6466), (6498, .arg 6498)], [(1761, .arg 1761, [(.int 117, .arg 60033)])])]
theorem k_wq117im4 : cbody kR [] (cpl1 zWP c_wn4 [q_wR117]) (cpl2 zWP c_wn4 [q_wR117]) (cleafB kR zWP c_wn4 w_wq117im4) 1500 true true q_wq117im4.2.2.1 q_wq117im4.2.2.2 (cst zWP c_wn4.2.2.1.1 q_wq117im4.1) (cst zWP c_wn4.2.2.1.2 q_wq117im4.2.1) = true := by decide +kernel
theorem t_wq117im4 {X : pX} {ρ0 : sR} (hv : vok X ρ0) : CUTOK X kR zWP c_wn4 8 ρ0 q_wq117im4 := CUTOK_AT (fun ρ k1 hF hI k4 => AT_of (q := q_wq117im4) rfl rfl (SEM_runB kR_x kR_0 (Cs := []) (fun C hC => by cases hC) c_wn4_f (Q := w_wq117im4) hv 1500 (b1 := true) (b2 := true) k_wq117im4 k1 hF hI k4 (fun p hp ρ3 m1 m2 m3 m4 m5 m6 => by
  rw [List.mem_singleton.mp hp] at m2 m3 m5 m6 ⊢
  have y3 : ρ3.2.1 60033 = ρ.2.1 60033 := congrArg Prod.snd (m5 (60033, .arg 60033) List.mem_cons_self)
  have hA : ∀ j, ρ3.2.2.2.1 1761 j = if 117 = j then ρ.2.1 60033 else ρ.2.2.2.1 1761 j := fun j => ad_l (X := X) (p := 117) (t := .arg 60033) rfl (m6 _ List.mem_cons_self) j
  have hk : evk 117 (ρ.2.1 60033).toInt = true := by
    have h := m2.2 _ List.mem_cons_self
    rw [← y3]
    exact h
  have ea : ρ3.1 2848 = (sd X ρ (.op2 .ior (.arg 2848) (.int 0))).1 := congrArg Prod.fst (m5 (2848, .op2 .ior (.arg 2848) (.int 0)) (List.mem_cons_of_mem _ List.mem_cons_self))
  have eL : ρ3.1 60578 = ρ.1 60578 := (m4.1 60578 (by decide) (by decide)).1.trans (k4.1 60578 (by decide) (by decide)).1.symm
  have mo : sc X ρ3 (2, .op2 .iand (.op2 .iushr (.arg 2848) (.int 4)) (.int 1), .arg 60578) = false := by
    show decide (((ρ3.1 2848).toUInt32 >>> ((4 : Int32).toUInt32 &&& (31 : Int32).toUInt32)).toInt32 &&& 1 < ρ3.1 60578) = false
    rw [ea, eL]
    have q := tbv_ok (X := X) (ρ := ρ) (F := []) (a := .op2 .iand (.op2 .iushr (.op2 .ior (.arg 2848) (.int 0)) (.int 4)) (.int 1)) (b := .op2 .iand (.op2 .iushr (.arg 2848) (.int 4)) (.int 1)) ⟨hF.1, fun f hf => by cases hf⟩ (by decide +kernel)
    rw [sv_int rfl, sv_int rfl] at q
    exact mn_e (Value.int.inj q) (of_decide_eq_true (hF.2 _ (List.mem_cons_of_mem _ (List.mem_cons_of_mem _ (List.mem_cons_of_mem _ (List.mem_cons_of_mem _ (List.mem_cons_of_mem _ (List.mem_cons_of_mem _ (List.mem_cons_of_mem _ (List.mem_cons_of_mem _ (List.mem_cons_of_mem _ (List.mem_cons_of_mem _ (List.mem_cons_of_mem _ (List.mem_cons_of_mem _ (List.mem_cons_of_mem _ (List.mem_cons_of_mem _ (List.mem_cons_of_mem _ (List.mem_cons_self))))))))))))))))))
  exact t_wG4 hv ρ3 m1 ⟨m2.1, fcn (ev_nm (g := ρ.2.2.2.1 1761) (p := 117) (hF.2 _ (List.mem_cons_of_mem _ (List.mem_cons_of_mem _ (List.mem_cons_of_mem _ (List.mem_cons_of_mem _ (List.mem_cons_of_mem _ (List.mem_cons_of_mem _ (List.mem_cons_of_mem _ (List.mem_cons_of_mem _ (List.mem_cons_of_mem _ (List.mem_cons_of_mem _ (List.mem_cons_of_mem _ (List.mem_cons_of_mem _ (List.mem_cons_of_mem _ (List.mem_cons_self))))))))))))))) hk hA (by decide +kernel)) (fcn (pd_up (X := X) (p := 117) (c := 0) (z := []) (hF.2 _ (List.mem_cons_of_mem _ (List.mem_cons_of_mem _ (List.mem_cons_of_mem _ (List.mem_cons_of_mem _ (List.mem_cons_of_mem _ (List.mem_cons_of_mem _ (List.mem_cons_of_mem _ (List.mem_cons_of_mem _ (List.mem_cons_of_mem _ (List.mem_cons_of_mem _ (List.mem_cons_of_mem _ (List.mem_cons_of_mem _ (List.mem_cons_of_mem _ (List.mem_cons_of_mem _ (List.mem_cons_self)))))))))))))))) hA (fun x hx => m5 x (List.mem_cons_of_mem _ hx)) k4 m4 wm_4 wb_4 (by decide +kernel)) (fcn (mo) (fnl)))⟩ m3 m4)))
noncomputable def q_wq117in : sCut := ((fr 0 5 0 [(0, tr 57), (1, .int 117), (2, .arg 60033)] [], [fBot], 8), (fr 0 277 60 [(0, tr 219), (1, .arg 1308), (2, .int 117), (4, .arg 60033)] [], [fBot], 8), [zf98vg_17, zf98vg_18, zf98vg_9, zf98vg_10, zf98vg_11, zf98vg_12, zf98vg_13, zf98vg_14, zf98vg_15, zf98vg_16, zf98vg_1, zf98vg_2, zf98vg_3, zf98vg_4, zf98vg_5, zf98vg_6], [])
theorem k_wq117in : cbody kR [] (cpl1 zWP c_wn4 []) (cpl2 zWP c_wn4 []) (cleaf kR zWP c_wn4 []) 1500 true true q_wq117in.2.2.1 q_wq117in.2.2.2 (cst zWP c_wn4.2.2.1.1 q_wq117in.1) (cst zWP c_wn4.2.2.1.2 q_wq117in.2.1) = true := by decide +kernel
theorem t_wq117in {X : pX} {ρ0 : sR} (hv : vok X ρ0) : CUTOK X kR zWP c_wn4 8 ρ0 q_wq117in := CUT_run kR_x kR_0 (Cs := []) (fun C hC => by cases hC) c_wn4_f (Q := []) hv (fun q hq => by cases hq) 1500 (b1 := true) (b2 := true) k_wq117in
theorem t_wq117i {X : pX} {ρ0 : sR} (hv : vok X ρ0) : CUTOK X kR zWP c_wn4 8 ρ0 q_wq117i := fun ρ k1 hF hI k4 => by
  have b0 := rl_lf (x := ρ.2.1 60033) (y := -32768) (hF.2 _ (List.mem_cons_self))
  have b1 := rl_lf (x := 32767) (y := ρ.2.1 60033) (hF.2 _ (List.mem_cons_of_mem _ (List.mem_cons_self)))
  have y0 : (-32768 : Int64).toInt = -32768 := by decide +kernel
  have y1 : (32767 : Int64).toInt = 32767 := by decide +kernel
  rw [y0] at b0
  rw [y1] at b1
  by_cases h : ρ.2.1 60033 = 0
  · exact t_wq117im0 hv ρ k1 ⟨hF.1, fcn (wn_129 (p := 117) (q := 117) rfl et_117 b0 b1 (by rw [h]; decide +kernel)) (fcn (decide_eq_true h) (fcn (decide_eq_true h.symm) (fcn (decide_eq_false (show ¬ ρ.2.1 60033 = 1 by rw [h]; decide)) (fcn (decide_eq_false (show ¬ (1 : Int64) = ρ.2.1 60033 by rw [h]; decide)) (fcn (decide_eq_false (show ¬ ρ.2.1 60033 = 2 by rw [h]; decide)) (fcn (decide_eq_false (show ¬ (2 : Int64) = ρ.2.1 60033 by rw [h]; decide)) (fcn (decide_eq_false (show ¬ ρ.2.1 60033 = 5 by rw [h]; decide)) (fcn (decide_eq_false (show ¬ (5 : Int64) = ρ.2.1 60033 by rw [h]; decide)) (fcn (decide_eq_false (show ¬ ρ.2.1 60033 = 6 by rw [h]; decide)) (fcn (decide_eq_false (show ¬ (6 : Int64) = ρ.2.1 60033 by rw [h]; decide)) (hF.2)))))))))))⟩ hI k4
  have n0 := h
  clear h
  by_cases h : ρ.2.1 60033 = 1
  · exact t_wq117im1 hv ρ k1 ⟨hF.1, fcn (wn_129 (p := 117) (q := 117) rfl et_117 b0 b1 (by rw [h]; decide +kernel)) (fcn (decide_eq_false (show ¬ ρ.2.1 60033 = 0 by rw [h]; decide)) (fcn (decide_eq_false (show ¬ (0 : Int64) = ρ.2.1 60033 by rw [h]; decide)) (fcn (decide_eq_true h) (fcn (decide_eq_true h.symm) (fcn (decide_eq_false (show ¬ ρ.2.1 60033 = 2 by rw [h]; decide)) (fcn (decide_eq_false (show ¬ (2 : Int64) = ρ.2.1 60033 by rw [h]; decide)) (fcn (decide_eq_false (show ¬ ρ.2.1 60033 = 5 by rw [h]; decide)) (fcn (decide_eq_false (show ¬ (5 : Int64) = ρ.2.1 60033 by rw [h]; decide)) (fcn (decide_eq_false (show ¬ ρ.2.1 60033 = 6 by rw [h]; decide)) (fcn (decide_eq_false (show ¬ (6 : Int64) = ρ.2.1 60033 by rw [h]; decide)) (hF.2)))))))))))⟩ hI k4
  have n1 := h
  clear h
  by_cases h : ρ.2.1 60033 = 2
  · exact t_wq117im2 hv ρ k1 ⟨hF.1, fcn (wn_129 (p := 117) (q := 117) rfl et_117 b0 b1 (by rw [h]; decide +kernel)) (fcn (decide_eq_false (show ¬ ρ.2.1 60033 = 0 by rw [h]; decide)) (fcn (decide_eq_false (show ¬ (0 : Int64) = ρ.2.1 60033 by rw [h]; decide)) (fcn (decide_eq_false (show ¬ ρ.2.1 60033 = 1 by rw [h]; decide)) (fcn (decide_eq_false (show ¬ (1 : Int64) = ρ.2.1 60033 by rw [h]; decide)) (fcn (decide_eq_true h) (fcn (decide_eq_true h.symm) (fcn (decide_eq_false (show ¬ ρ.2.1 60033 = 5 by rw [h]; decide)) (fcn (decide_eq_false (show ¬ (5 : Int64) = ρ.2.1 60033 by rw [h]; decide)) (fcn (decide_eq_false (show ¬ ρ.2.1 60033 = 6 by rw [h]; decide)) (fcn (decide_eq_false (show ¬ (6 : Int64) = ρ.2.1 60033 by rw [h]; decide)) (hF.2)))))))))))⟩ hI k4
  have n2 := h
  clear h
  by_cases h : ρ.2.1 60033 = 5
  · exact t_wq117im3 hv ρ k1 ⟨hF.1, fcn (wn_129 (p := 117) (q := 117) rfl et_117 b0 b1 (by rw [h]; decide +kernel)) (fcn (decide_eq_false (show ¬ ρ.2.1 60033 = 0 by rw [h]; decide)) (fcn (decide_eq_false (show ¬ (0 : Int64) = ρ.2.1 60033 by rw [h]; decide)) (fcn (decide_eq_false (show ¬ ρ.2.1 60033 = 1 by rw [h]; decide)) (fcn (decide_eq_false (show ¬ (1 : Int64) = ρ.2.1 60033 by rw [h]; decide)) (fcn (decide_eq_false (show ¬ ρ.2.1 60033 = 2 by rw [h]; decide)) (fcn (decide_eq_false (show ¬ (2 : Int64) = ρ.2.1 60033 by rw [h]; decide)) (fcn (decide_eq_true h) (fcn (decide_eq_true h.symm) (fcn (decide_eq_false (show ¬ ρ.2.1 60033 = 6 by rw [h]; decide)) (fcn (decide_eq_false (show ¬ (6 : Int64) = ρ.2.1 60033 by rw [h]; decide)) (hF.2)))))))))))⟩ hI k4
  have n3 := h
  clear h
  by_cases h : ρ.2.1 60033 = 6
  · exact t_wq117im4 hv ρ k1 ⟨hF.1, fcn (wn_129 (p := 117) (q := 117) rfl et_117 b0 b1 (by rw [h]; decide +kernel)) (fcn (decide_eq_false (show ¬ ρ.2.1 60033 = 0 by rw [h]; decide)) (fcn (decide_eq_false (show ¬ (0 : Int64) = ρ.2.1 60033 by rw [h]; decide)) (fcn (decide_eq_false (show ¬ ρ.2.1 60033 = 1 by rw [h]; decide)) (fcn (decide_eq_false (show ¬ (1 : Int64) = ρ.2.1 60033 by rw [h]; decide)) (fcn (decide_eq_false (show ¬ ρ.2.1 60033 = 2 by rw [h]; decide)) (fcn (decide_eq_false (show ¬ (2 : Int64) = ρ.2.1 60033 by rw [h]; decide)) (fcn (decide_eq_false (show ¬ ρ.2.1 60033 = 5 by rw [h]; decide)) (fcn (decide_eq_false (show ¬ (5 : Int64) = ρ.2.1 60033 by rw [h]; decide)) (fcn (decide_eq_true h) (fcn (decide_eq_true h.symm) (hF.2)))))))))))⟩ hI k4
  have n4 := h
  clear h
  exact t_wq117in hv ρ k1 ⟨hF.1, fcn (decide_eq_false n0) (fcn (decide_eq_false (fun q => n0 q.symm)) (fcn (decide_eq_false n1) (fcn (decide_eq_false (fun q => n1 q.symm)) (fcn (decide_eq_false n2) (fcn (decide_eq_false (fun q => n2 q.symm)) (fcn (decide_eq_false n3) (fcn (decide_eq_false (fun q => n3 q.symm)) (fcn (decide_eq_false n4) (fcn (decide_eq_false (fun q => n4 q.symm)) (hF.2))))))))))⟩ hI k4
theorem t_wq117 {X : pX} {ρ0 : sR} (hv : vok X ρ0) : CUTOK X kR zWP c_wn4 8 ρ0 q_wq117 := t_wq117i hv
theorem e_wp117 : frun kR [] (cpl1 zWP (c_wp4 117) [q_wq117]) (cpl2 zWP (c_wp4 117) [q_wq117]) (cleaf kR zWP (c_wp4 117) [q_wq117]) 300 65536 (isatP ((c_wp4 117).2.2.2.1) (c_wp4 117).2.2.2.2.2.2.2.1) (c_wp4 117).2.2.2.2.2.2.2.1 (sin0 mt_all (c_wp4 117).1.1 8 (c_wp4 117).2.1.1 (foot zWP (c_wp4 117).2.2.1.1)) (sin0 mt_all (c_wp4 117).1.2.1 8 (c_wp4 117).2.1.2 (foot zWP (c_wp4 117).2.2.1.2)) = true := by decide +kernel
theorem s_wp117 {X : pX} : SREL X pF pdfl mt_all kR zWP (c_wp4 117) := SREL_QC kR_x kR_0 (Cs := []) (fun C hC => by cases hC) (d := 8) rfl (c_wp4_f 117) (Q := [q_wq117]) (fun ρ0 hv => fun q hq => by
    simp only [List.mem_cons, List.not_mem_nil, or_false] at hq
    rw [hq]; exact (t_wq117 hv : CUTOK X kR zWP c_wn4 8 ρ0 q_wq117)) (QC_run 300 e_wp117)
theorem et_118 : evt[118]? = some (-32768, 32767, 2) := by decide +kernel
noncomputable def zf98vg_23 : sQ × Bool := ((129, .int 118, .arg 60033), true)
noncomputable def q_wR118 : sCut := ((fr 0 5 23 [(4, .int 0)] [], [fBot], 8), (fr 0 277 91 [(3, .int 0)] [], [fBot], 8), [zf98vg_23], [])
noncomputable def q_wq118 : sCut := ((fr 0 5 0 [(0, tr 57), (1, .int 118), (2, .arg 60033)] [], [fBot], 8), (fr 0 277 60 [(0, tr 219), (1, .arg 1308), (2, .int 118), (4, .arg 60033)] [], [fBot], 8), [zf98vg_1, zf98vg_2, zf98vg_3, zf98vg_4, zf98vg_5, zf98vg_6], [])
noncomputable def q_wq118i : sCut := ((fr 0 5 0 [(0, tr 57), (1, .int 118), (2, .arg 60033)] [], [fBot], 8), (fr 0 277 60 [(0, tr 219), (1, .arg 1308), (2, .int 118), (4, .arg 60033)] [], [fBot], 8), [zf98vg_1, zf98vg_2, zf98vg_3, zf98vg_4, zf98vg_5, zf98vg_6], [])
noncomputable def q_wq118im0 : sCut := ((fr 0 5 0 [(0, tr 57), (1, .int 118), (2, .arg 60033)] [], [fBot], 8), (fr 0 277 60 [(0, tr 219), (1, .arg 1308), (2, .int 118), (4, .arg 60033)] [], [fBot], 8), [zf98vg_23, zf98vg_7, zf98vg_8, zf98vg_9, zf98vg_10, zf98vg_1, zf98vg_2, zf98vg_3, zf98vg_4, zf98vg_5, zf98vg_6], [])
noncomputable def w_wq118im0 : List (sCut × List (Nat × sT) × List (Nat × sT × List (sT × sT))) := [(q_wR118, [(60033, .arg 60033), (2848, .op2 .ior (.arg 2848) (.int 0)), (6850, .arg 6850), (6882, .arg 6882), (6914, .arg 6914), (6946, .arg 6946), (7362, .arg 7362), (7394, .arg 7394), (7426, .arg 7426), (7458, .arg 7458), (7874, .arg 7874), (7906, .arg 7906), (7938, .arg 7938), (7970, .arg 7970), (21216, .arg 21216), (21248, .arg 21248), (21280, .arg 21280), (21312, .arg 21312), (6466, .arg 6466), (6498, .arg 6498)], [(1761, .arg 1761, [(.int 118, .arg 60033)])])]
theorem k_wq118im0 : cbody kR [] (cpl1 zWP c_wn4 [q_wR118]) (cpl2 zWP c_wn4 [q_wR118]) (cleafB kR zWP c_wn4 w_wq118im0) 1500 true true q_wq118im0.2.2.1 q_wq118im0.2.2.2 (cst zWP c_wn4.2.2.1.1 q_wq118im0.1) (cst zWP c_wn4.2.2.1.2 q_wq118im0.2.1) = true := by decide +kernel
theorem t_wq118im0 {X : pX} {ρ0 : sR} (hv : vok X ρ0) : CUTOK X kR zWP c_wn4 8 ρ0 q_wq118im0 := CUTOK_AT (fun ρ k1 hF hI k4 => AT_of (q := q_wq118im0) rfl rfl (SEM_runB kR_x kR_0 (Cs := []) (fun C hC => by cases hC) c_wn4_f (Q := w_wq118im0) hv 1500 (b1 := true) (b2 := true) k_wq118im0 k1 hF hI k4 (fun p hp ρ3 m1 m2 m3 m4 m5 m6 => by
  rw [List.mem_singleton.mp hp] at m2 m3 m5 m6 ⊢
  have y3 : ρ3.2.1 60033 = ρ.2.1 60033 := congrArg Prod.snd (m5 (60033, .arg 60033) List.mem_cons_self)
  have hA : ∀ j, ρ3.2.2.2.1 1761 j = if 118 = j then ρ.2.1 60033 else ρ.2.2.2.1 1761 j := fun j => ad_l (X := X) (p := 118) (t := .arg 60033) rfl (m6 _ List.mem_cons_self) j
  have hk : evk 118 (ρ.2.1 60033).toInt = true := by
    have h := m2.2 _ List.mem_cons_self
    rw [← y3]
    exact h
  have ea : ρ3.1 2848 = (sd X ρ (.op2 .ior (.arg 2848) (.int 0))).1 := congrArg Prod.fst (m5 (2848, .op2 .ior (.arg 2848) (.int 0)) (List.mem_cons_of_mem _ List.mem_cons_self))
  have eL : ρ3.1 60578 = ρ.1 60578 := (m4.1 60578 (by decide) (by decide)).1.trans (k4.1 60578 (by decide) (by decide)).1.symm
  have mo : sc X ρ3 (2, .op2 .iand (.op2 .iushr (.arg 2848) (.int 4)) (.int 1), .arg 60578) = false := by
    show decide (((ρ3.1 2848).toUInt32 >>> ((4 : Int32).toUInt32 &&& (31 : Int32).toUInt32)).toInt32 &&& 1 < ρ3.1 60578) = false
    rw [ea, eL]
    have q := tbv_ok (X := X) (ρ := ρ) (F := []) (a := .op2 .iand (.op2 .iushr (.op2 .ior (.arg 2848) (.int 0)) (.int 4)) (.int 1)) (b := .op2 .iand (.op2 .iushr (.arg 2848) (.int 4)) (.int 1)) ⟨hF.1, fun f hf => by cases hf⟩ (by decide +kernel)
    rw [sv_int rfl, sv_int rfl] at q
    exact mn_e (Value.int.inj q) (of_decide_eq_true (hF.2 _ (List.mem_cons_of_mem _ (List.mem_cons_of_mem _ (List.mem_cons_of_mem _ (List.mem_cons_of_mem _ (List.mem_cons_of_mem _ (List.mem_cons_of_mem _ (List.mem_cons_of_mem _ (List.mem_cons_of_mem _ (List.mem_cons_of_mem _ (List.mem_cons_self))))))))))))
  exact t_wG4 hv ρ3 m1 ⟨m2.1, fcn (ev_nm (g := ρ.2.2.2.1 1761) (p := 118) (hF.2 _ (List.mem_cons_of_mem _ (List.mem_cons_of_mem _ (List.mem_cons_of_mem _ (List.mem_cons_of_mem _ (List.mem_cons_of_mem _ (List.mem_cons_of_mem _ (List.mem_cons_of_mem _ (List.mem_cons_self))))))))) hk hA (by decide +kernel)) (fcn (pd_up (X := X) (p := 118) (c := 0) (z := []) (hF.2 _ (List.mem_cons_of_mem _ (List.mem_cons_of_mem _ (List.mem_cons_of_mem _ (List.mem_cons_of_mem _ (List.mem_cons_of_mem _ (List.mem_cons_of_mem _ (List.mem_cons_of_mem _ (List.mem_cons_of_mem _ (List.mem_cons_self)))))))))) hA (fun x hx => m5 x (List.mem_cons_of_mem _ hx)) k4 m4 wm_4 wb_4 (by decide +kernel)) (fcn (mo) (fnl)))⟩ m3 m4)))
noncomputable def q_wq118im1 : sCut := ((fr 0 5 0 [(0, tr 57), (1, .int 118), (2, .arg 60033)] [], [fBot], 8), (fr 0 277 60 [(0, tr 219), (1, .arg 1308), (2, .int 118), (4, .arg 60033)] [], [fBot], 8), [zf98vg_23, zf98vg_17, zf98vg_18, zf98vg_19, zf98vg_20, zf98vg_1, zf98vg_2, zf98vg_3, zf98vg_4, zf98vg_5, zf98vg_6], [])
noncomputable def w_wq118im1 : List (sCut × List (Nat × sT) × List (Nat × sT × List (sT × sT))) := [(q_wR118, [(60033, .arg 60033), (2848, .op2 .ior (.arg 2848) (.int 0)), (6850, .arg 6850), (6882, .arg 6882), (6914, .arg 6914), (6946, .arg 6946), (7362, .arg 7362), (7394, .arg 7394), (7426, .arg 7426), (7458, .arg 7458), (7874, .arg 7874), (7906, .arg 7906), (7938, .arg 7938), (7970, .arg 7970), (21216, .arg 21216), (21248, .arg 21248), (21280, .arg 21280), (21312, .arg 21312), (6466, .arg 6466), (6498, .arg 6498)], [(1761, .arg 1761, [(.int 118, .arg 60033)])])]
theorem k_wq118im1 : cbody kR [] (cpl1 zWP c_wn4 [q_wR118]) (cpl2 zWP c_wn4 [q_wR118]) (cleafB kR zWP c_wn4 w_wq118im1) 1500 true true q_wq118im1.2.2.1 q_wq118im1.2.2.2 (cst zWP c_wn4.2.2.1.1 q_wq118im1.1) (cst zWP c_wn4.2.2.1.2 q_wq118im1.2.1) = true := by decide +kernel
theorem t_wq118im1 {X : pX} {ρ0 : sR} (hv : vok X ρ0) : CUTOK X kR zWP c_wn4 8 ρ0 q_wq118im1 := CUTOK_AT (fun ρ k1 hF hI k4 => AT_of (q := q_wq118im1) rfl rfl (SEM_runB kR_x kR_0 (Cs := []) (fun C hC => by cases hC) c_wn4_f (Q := w_wq118im1) hv 1500 (b1 := true) (b2 := true) k_wq118im1 k1 hF hI k4 (fun p hp ρ3 m1 m2 m3 m4 m5 m6 => by
  rw [List.mem_singleton.mp hp] at m2 m3 m5 m6 ⊢
  have y3 : ρ3.2.1 60033 = ρ.2.1 60033 := congrArg Prod.snd (m5 (60033, .arg 60033) List.mem_cons_self)
  have hA : ∀ j, ρ3.2.2.2.1 1761 j = if 118 = j then ρ.2.1 60033 else ρ.2.2.2.1 1761 j := fun j => ad_l (X := X) (p := 118) (t := .arg 60033) rfl (m6 _ List.mem_cons_self) j
  have hk : evk 118 (ρ.2.1 60033).toInt = true := by
    have h := m2.2 _ List.mem_cons_self
    rw [← y3]
    exact h
  have ea : ρ3.1 2848 = (sd X ρ (.op2 .ior (.arg 2848) (.int 0))).1 := congrArg Prod.fst (m5 (2848, .op2 .ior (.arg 2848) (.int 0)) (List.mem_cons_of_mem _ List.mem_cons_self))
  have eL : ρ3.1 60578 = ρ.1 60578 := (m4.1 60578 (by decide) (by decide)).1.trans (k4.1 60578 (by decide) (by decide)).1.symm
  have mo : sc X ρ3 (2, .op2 .iand (.op2 .iushr (.arg 2848) (.int 4)) (.int 1), .arg 60578) = false := by
    show decide (((ρ3.1 2848).toUInt32 >>> ((4 : Int32).toUInt32 &&& (31 : Int32).toUInt32)).toInt32 &&& 1 < ρ3.1 60578) = false
    rw [ea, eL]
    have q := tbv_ok (X := X) (ρ := ρ) (F := []) (a := .op2 .iand (.op2 .iushr (.op2 .ior (.arg 2848) (.int 0)) (.int 4)) (.int 1)) (b := .op2 .iand (.op2 .iushr (.arg 2848) (.int 4)) (.int 1)) ⟨hF.1, fun f hf => by cases hf⟩ (by decide +kernel)
    rw [sv_int rfl, sv_int rfl] at q
    exact mn_e (Value.int.inj q) (of_decide_eq_true (hF.2 _ (List.mem_cons_of_mem _ (List.mem_cons_of_mem _ (List.mem_cons_of_mem _ (List.mem_cons_of_mem _ (List.mem_cons_of_mem _ (List.mem_cons_of_mem _ (List.mem_cons_of_mem _ (List.mem_cons_of_mem _ (List.mem_cons_of_mem _ (List.mem_cons_self))))))))))))
  exact t_wG4 hv ρ3 m1 ⟨m2.1, fcn (ev_nm (g := ρ.2.2.2.1 1761) (p := 118) (hF.2 _ (List.mem_cons_of_mem _ (List.mem_cons_of_mem _ (List.mem_cons_of_mem _ (List.mem_cons_of_mem _ (List.mem_cons_of_mem _ (List.mem_cons_of_mem _ (List.mem_cons_of_mem _ (List.mem_cons_self))))))))) hk hA (by decide +kernel)) (fcn (pd_up (X := X) (p := 118) (c := 0) (z := []) (hF.2 _ (List.mem_cons_of_mem _ (List.mem_cons_of_mem _ (List.mem_cons_of_mem _ (List.mem_cons_of_mem _ (List.mem_cons_of_mem _ (List.mem_cons_of_mem _ (List.mem_cons_of_mem _ (List.mem_cons_of_mem _ (List.mem_cons_self)))))))))) hA (fun x hx => m5 x (List.mem_cons_of_mem _ hx)) k4 m4 wm_4 wb_4 (by decide +kernel)) (fcn (mo) (fnl)))⟩ m3 m4)))
noncomputable def q_wq118in : sCut := ((fr 0 5 0 [(0, tr 57), (1, .int 118), (2, .arg 60033)] [], [fBot], 8), (fr 0 277 60 [(0, tr 219), (1, .arg 1308), (2, .int 118), (4, .arg 60033)] [], [fBot], 8), [zf98vg_17, zf98vg_18, zf98vg_9, zf98vg_10, zf98vg_1, zf98vg_2, zf98vg_3, zf98vg_4, zf98vg_5, zf98vg_6], [])
theorem k_wq118in : cbody kR [] (cpl1 zWP c_wn4 []) (cpl2 zWP c_wn4 []) (cleaf kR zWP c_wn4 []) 1500 true true q_wq118in.2.2.1 q_wq118in.2.2.2 (cst zWP c_wn4.2.2.1.1 q_wq118in.1) (cst zWP c_wn4.2.2.1.2 q_wq118in.2.1) = true := by decide +kernel
theorem t_wq118in {X : pX} {ρ0 : sR} (hv : vok X ρ0) : CUTOK X kR zWP c_wn4 8 ρ0 q_wq118in := CUT_run kR_x kR_0 (Cs := []) (fun C hC => by cases hC) c_wn4_f (Q := []) hv (fun q hq => by cases hq) 1500 (b1 := true) (b2 := true) k_wq118in
theorem t_wq118i {X : pX} {ρ0 : sR} (hv : vok X ρ0) : CUTOK X kR zWP c_wn4 8 ρ0 q_wq118i := fun ρ k1 hF hI k4 => by
  have b0 := rl_lf (x := ρ.2.1 60033) (y := -32768) (hF.2 _ (List.mem_cons_self))
  have b1 := rl_lf (x := 32767) (y := ρ.2.1 60033) (hF.2 _ (List.mem_cons_of_mem _ (List.mem_cons_self)))
  have y0 : (-32768 : Int64).toInt = -32768 := by decide +kernel
  have y1 : (32767 : Int64).toInt = 32767 := by decide +kernel
  rw [y0] at b0
  rw [y1] at b1
  by_cases h : ρ.2.1 60033 = 0
  · exact t_wq118im0 hv ρ k1 ⟨hF.1, fcn (wn_129 (p := 118) (q := 118) rfl et_118 b0 b1 (by rw [h]; decide +kernel)) (fcn (decide_eq_true h) (fcn (decide_eq_true h.symm) (fcn (decide_eq_false (show ¬ ρ.2.1 60033 = 1 by rw [h]; decide)) (fcn (decide_eq_false (show ¬ (1 : Int64) = ρ.2.1 60033 by rw [h]; decide)) (hF.2)))))⟩ hI k4
  have n0 := h
  clear h
  by_cases h : ρ.2.1 60033 = 1
  · exact t_wq118im1 hv ρ k1 ⟨hF.1, fcn (wn_129 (p := 118) (q := 118) rfl et_118 b0 b1 (by rw [h]; decide +kernel)) (fcn (decide_eq_false (show ¬ ρ.2.1 60033 = 0 by rw [h]; decide)) (fcn (decide_eq_false (show ¬ (0 : Int64) = ρ.2.1 60033 by rw [h]; decide)) (fcn (decide_eq_true h) (fcn (decide_eq_true h.symm) (hF.2)))))⟩ hI k4
  have n1 := h
  clear h
  exact t_wq118in hv ρ k1 ⟨hF.1, fcn (decide_eq_false n0) (fcn (decide_eq_false (fun q => n0 q.symm)) (fcn (decide_eq_false n1) (fcn (decide_eq_false (fun q => n1 q.symm)) (hF.2))))⟩ hI k4
theorem t_wq118 {X : pX} {ρ0 : sR} (hv : vok X ρ0) : CUTOK X kR zWP c_wn4 8 ρ0 q_wq118 := t_wq118i hv
theorem e_wp118 : frun kR [] (cpl1 zWP (c_wp4 118) [q_wq118]) (cpl2 zWP (c_wp4 118) [q_wq118]) (cleaf kR zWP (c_wp4 118) [q_wq118]) 300 65536 (isatP ((c_wp4 118).2.2.2.1) (c_wp4 118).2.2.2.2.2.2.2.1) (c_wp4 118).2.2.2.2.2.2.2.1 (sin0 mt_all (c_wp4 118).1.1 8 (c_wp4 118).2.1.1 (foot zWP (c_wp4 118).2.2.1.1)) (sin0 mt_all (c_wp4 118).1.2.1 8 (c_wp4 118).2.1.2 (foot zWP (c_wp4 118).2.2.1.2)) = true := by decide +kernel
theorem s_wp118 {X : pX} : SREL X pF pdfl mt_all kR zWP (c_wp4 118) := SREL_QC kR_x kR_0 (Cs := []) (fun C hC => by cases hC) (d := 8) rfl (c_wp4_f 118) (Q := [q_wq118]) (fun ρ0 hv => fun q hq => by
    simp only [List.mem_cons, List.not_mem_nil, or_false] at hq
    rw [hq]; exact (t_wq118 hv : CUTOK X kR zWP c_wn4 8 ρ0 q_wq118)) (QC_run 300 e_wp118)
theorem et_119 : evt[119]? = some (-32768, 32767, 2) := by decide +kernel
noncomputable def zf98vg_24 : sQ × Bool := ((129, .int 119, .arg 60033), true)
noncomputable def q_wR119 : sCut := ((fr 0 5 23 [(4, .int 0)] [], [fBot], 8), (fr 0 277 91 [(3, .int 0)] [], [fBot], 8), [zf98vg_24], [])
noncomputable def q_wq119 : sCut := ((fr 0 5 0 [(0, tr 57), (1, .int 119), (2, .arg 60033)] [], [fBot], 8), (fr 0 277 60 [(0, tr 219), (1, .arg 1308), (2, .int 119), (4, .arg 60033)] [], [fBot], 8), [zf98vg_1, zf98vg_2, zf98vg_3, zf98vg_4, zf98vg_5, zf98vg_6], [])
noncomputable def q_wq119i : sCut := ((fr 0 5 0 [(0, tr 57), (1, .int 119), (2, .arg 60033)] [], [fBot], 8), (fr 0 277 60 [(0, tr 219), (1, .arg 1308), (2, .int 119), (4, .arg 60033)] [], [fBot], 8), [zf98vg_1, zf98vg_2, zf98vg_3, zf98vg_4, zf98vg_5, zf98vg_6], [])
noncomputable def q_wq119im0 : sCut := ((fr 0 5 0 [(0, tr 57), (1, .int 119), (2, .arg 60033)] [], [fBot], 8), (fr 0 277 60 [(0, tr 219), (1, .arg 1308), (2, .int 119), (4, .arg 60033)] [], [fBot], 8), [zf98vg_24, zf98vg_7, zf98vg_8, zf98vg_9, zf98vg_10, zf98vg_1, zf98vg_2, zf98vg_3, zf98vg_4, zf98vg_5, zf98vg_6], [])
noncomputable def w_wq119im0 : List (sCut × List (Nat × sT) × List (Nat × sT × List (sT × sT))) := [(q_wR119, [(60033, .arg 60033), (2848, .op2 .ior (.arg 2848) (.int 0)), (6850, .arg 6850), (6882, .arg 6882), (6914, .arg 6914), (6946, .arg 6946), (7362, .arg 7362), (7394, .arg 7394), (7426, .arg 7426), (7458, .arg 7458), (7874, .arg 7874), (7906, .arg 7906), (7938, .arg 7938), (7970, .arg 7970), (21216, .arg 21216), (21248, .arg 21248), (21280, .arg 21280), (21312, .arg 21312), (6466, .arg 6466), (6498, .arg 6498)], [(1761, .arg 1761, [(.int 119, .arg 60033)])])]
theorem k_wq119im0 : cbody kR [] (cpl1 zWP c_wn4 [q_wR119]) (cpl2 zWP c_wn4 [q_wR119]) (cleafB kR zWP c_wn4 w_wq119im0) 1500 true true q_wq119im0.2.2.1 q_wq119im0.2.2.2 (cst zWP c_wn4.2.2.1.1 q_wq119im0.1) (cst zWP c_wn4.2.2.1.2 q_wq119im0.2.1) = true := by decide +kernel
theorem t_wq119im0 {X : pX} {ρ0 : sR} (hv : vok X ρ0) : CUTOK X kR zWP c_wn4 8 ρ0 q_wq119im0 := CUTOK_AT (fun ρ k1 hF hI k4 => AT_of (q := q_wq119im0) rfl rfl (SEM_runB kR_x kR_0 (Cs := []) (fun C hC => by cases hC) c_wn4_f (Q := w_wq119im0) hv 1500 (b1 := true) (b2 := true) k_wq119im0 k1 hF hI k4 (fun p hp ρ3 m1 m2 m3 m4 m5 m6 => by
  rw [List.mem_singleton.mp hp] at m2 m3 m5 m6 ⊢
  have y3 : ρ3.2.1 60033 = ρ.2.1 60033 := congrArg Prod.snd (m5 (60033, .arg 60033) List.mem_cons_self)
  have hA : ∀ j, ρ3.2.2.2.1 1761 j = if 119 = j then ρ.2.1 60033 else ρ.2.2.2.1 1761 j := fun j => ad_l (X := X) (p := 119) (t := .arg 60033) rfl (m6 _ List.mem_cons_self) j
  have hk : evk 119 (ρ.2.1 60033).toInt = true := by
    have h := m2.2 _ List.mem_cons_self
    rw [← y3]
    exact h
  have ea : ρ3.1 2848 = (sd X ρ (.op2 .ior (.arg 2848) (.int 0))).1 := congrArg Prod.fst (m5 (2848, .op2 .ior (.arg 2848) (.int 0)) (List.mem_cons_of_mem _ List.mem_cons_self))
  have eL : ρ3.1 60578 = ρ.1 60578 := (m4.1 60578 (by decide) (by decide)).1.trans (k4.1 60578 (by decide) (by decide)).1.symm
  have mo : sc X ρ3 (2, .op2 .iand (.op2 .iushr (.arg 2848) (.int 4)) (.int 1), .arg 60578) = false := by
    show decide (((ρ3.1 2848).toUInt32 >>> ((4 : Int32).toUInt32 &&& (31 : Int32).toUInt32)).toInt32 &&& 1 < ρ3.1 60578) = false
    rw [ea, eL]
    have q := tbv_ok (X := X) (ρ := ρ) (F := []) (a := .op2 .iand (.op2 .iushr (.op2 .ior (.arg 2848) (.int 0)) (.int 4)) (.int 1)) (b := .op2 .iand (.op2 .iushr (.arg 2848) (.int 4)) (.int 1)) ⟨hF.1, fun f hf => by cases hf⟩ (by decide +kernel)
    rw [sv_int rfl, sv_int rfl] at q
    exact mn_e (Value.int.inj q) (of_decide_eq_true (hF.2 _ (List.mem_cons_of_mem _ (List.mem_cons_of_mem _ (List.mem_cons_of_mem _ (List.mem_cons_of_mem _ (List.mem_cons_of_mem _ (List.mem_cons_of_mem _ (List.mem_cons_of_mem _ (List.mem_cons_of_mem _ (List.mem_cons_of_mem _ (List.mem_cons_self))))))))))))
  exact t_wG4 hv ρ3 m1 ⟨m2.1, fcn (ev_nm (g := ρ.2.2.2.1 1761) (p := 119) (hF.2 _ (List.mem_cons_of_mem _ (List.mem_cons_of_mem _ (List.mem_cons_of_mem _ (List.mem_cons_of_mem _ (List.mem_cons_of_mem _ (List.mem_cons_of_mem _ (List.mem_cons_of_mem _ (List.mem_cons_self))))))))) hk hA (by decide +kernel)) (fcn (pd_up (X := X) (p := 119) (c := 0) (z := []) (hF.2 _ (List.mem_cons_of_mem _ (List.mem_cons_of_mem _ (List.mem_cons_of_mem _ (List.mem_cons_of_mem _ (List.mem_cons_of_mem _ (List.mem_cons_of_mem _ (List.mem_cons_of_mem _ (List.mem_cons_of_mem _ (List.mem_cons_self)))))))))) hA (fun x hx => m5 x (List.mem_cons_of_mem _ hx)) k4 m4 wm_4 wb_4 (by decide +kernel)) (fcn (mo) (fnl)))⟩ m3 m4)))
noncomputable def q_wq119im1 : sCut := ((fr 0 5 0 [(0, tr 57), (1, .int 119), (2, .arg 60033)] [], [fBot], 8), (fr 0 277 60 [(0, tr 219), (1, .arg 1308), (2, .int 119), (4, .arg 60033)] [], [fBot], 8), [zf98vg_24, zf98vg_17, zf98vg_18, zf98vg_19, zf98vg_20, zf98vg_1, zf98vg_2, zf98vg_3, zf98vg_4, zf98vg_5, zf98vg_6], [])
noncomputable def w_wq119im1 : List (sCut × List (Nat × sT) × List (Nat × sT × List (sT × sT))) := [(q_wR119, [(60033, .arg 60033), (2848, .op2 .ior (.arg 2848) (.int 0)), (6850, .arg 6850), (6882, .arg 6882), (6914, .arg 6914), (6946, .arg 6946), (7362, .arg 7362), (7394, .arg 7394), (7426, .arg 7426), (7458, .arg 7458), (7874, .arg 7874), (7906, .arg 7906), (7938, .arg 7938), (7970, .arg 7970), (21216, .arg 21216), (21248, .arg 21248), (21280, .arg 21280), (21312, .arg 21312), (6466, .arg 6466), (6498, .arg 6498)], [(1761, .arg 1761, [(.int 119, .arg 60033)])])]
theorem k_wq119im1 : cbody kR [] (cpl1 zWP c_wn4 [q_wR119]) (cpl2 zWP c_wn4 [q_wR119]) (cleafB kR zWP c_wn4 w_wq119im1) 1500 true true q_wq119im1.2.2.1 q_wq119im1.2.2.2 (cst zWP c_wn4.2.2.1.1 q_wq119im1.1) (cst zWP c_wn4.2.2.1.2 q_wq119im1.2.1) = true := by decide +kernel
theorem t_wq119im1 {X : pX} {ρ0 : sR} (hv : vok X ρ0) : CUTOK X kR zWP c_wn4 8 ρ0 q_wq119im1 := CUTOK_AT (fun ρ k1 hF hI k4 => AT_of (q := q_wq119im1) rfl rfl (SEM_runB kR_x kR_0 (Cs := []) (fun C hC => by cases hC) c_wn4_f (Q := w_wq119im1) hv 1500 (b1 := true) (b2 := true) k_wq119im1 k1 hF hI k4 (fun p hp ρ3 m1 m2 m3 m4 m5 m6 => by
  rw [List.mem_singleton.mp hp] at m2 m3 m5 m6 ⊢
  have y3 : ρ3.2.1 60033 = ρ.2.1 60033 := congrArg Prod.snd (m5 (60033, .arg 60033) List.mem_cons_self)
  have hA : ∀ j, ρ3.2.2.2.1 1761 j = if 119 = j then ρ.2.1 60033 else ρ.2.2.2.1 1761 j := fun j => ad_l (X := X) (p := 119) (t := .arg 60033) rfl (m6 _ List.mem_cons_self) j
  have hk : evk 119 (ρ.2.1 60033).toInt = true := by
    have h := m2.2 _ List.mem_cons_self
    rw [← y3]
    exact h
  have ea : ρ3.1 2848 = (sd X ρ (.op2 .ior (.arg 2848) (.int 0))).1 := congrArg Prod.fst (m5 (2848, .op2 .ior (.arg 2848) (.int 0)) (List.mem_cons_of_mem _ List.mem_cons_self))
  have eL : ρ3.1 60578 = ρ.1 60578 := (m4.1 60578 (by decide) (by decide)).1.trans (k4.1 60578 (by decide) (by decide)).1.symm
  have mo : sc X ρ3 (2, .op2 .iand (.op2 .iushr (.arg 2848) (.int 4)) (.int 1), .arg 60578) = false := by
    show decide (((ρ3.1 2848).toUInt32 >>> ((4 : Int32).toUInt32 &&& (31 : Int32).toUInt32)).toInt32 &&& 1 < ρ3.1 60578) = false
    rw [ea, eL]
    have q := tbv_ok (X := X) (ρ := ρ) (F := []) (a := .op2 .iand (.op2 .iushr (.op2 .ior (.arg 2848) (.int 0)) (.int 4)) (.int 1)) (b := .op2 .iand (.op2 .iushr (.arg 2848) (.int 4)) (.int 1)) ⟨hF.1, fun f hf => by cases hf⟩ (by decide +kernel)
    rw [sv_int rfl, sv_int rfl] at q
    exact mn_e (Value.int.inj q) (of_decide_eq_true (hF.2 _ (List.mem_cons_of_mem _ (List.mem_cons_of_mem _ (List.mem_cons_of_mem _ (List.mem_cons_of_mem _ (List.mem_cons_of_mem _ (List.mem_cons_of_mem _ (List.mem_cons_of_mem _ (List.mem_cons_of_mem _ (List.mem_cons_of_mem _ (List.mem_cons_self))))))))))))
  exact t_wG4 hv ρ3 m1 ⟨m2.1, fcn (ev_nm (g := ρ.2.2.2.1 1761) (p := 119) (hF.2 _ (List.mem_cons_of_mem _ (List.mem_cons_of_mem _ (List.mem_cons_of_mem _ (List.mem_cons_of_mem _ (List.mem_cons_of_mem _ (List.mem_cons_of_mem _ (List.mem_cons_of_mem _ (List.mem_cons_self))))))))) hk hA (by decide +kernel)) (fcn (pd_up (X := X) (p := 119) (c := 0) (z := []) (hF.2 _ (List.mem_cons_of_mem _ (List.mem_cons_of_mem _ (List.mem_cons_of_mem _ (List.mem_cons_of_mem _ (List.mem_cons_of_mem _ (List.mem_cons_of_mem _ (List.mem_cons_of_mem _ (List.mem_cons_of_mem _ (List.mem_cons_self)))))))))) hA (fun x hx => m5 x (List.mem_cons_of_mem _ hx)) k4 m4 wm_4 wb_4 (by decide +kernel)) (fcn (mo) (fnl)))⟩ m3 m4)))
noncomputable def q_wq119in : sCut := ((fr 0 5 0 [(0, tr 57), (1, .int 119), (2, .arg 60033)] [], [fBot], 8), (fr 0 277 60 [(0, tr 219), (1, .arg 1308), (2, .int 119), (4, .arg 60033)] [], [fBot], 8), [zf98vg_17, zf98vg_18, zf98vg_9, zf98vg_10, zf98vg_1, zf98vg_2, zf98vg_3, zf98vg_4, zf98vg_5, zf98vg_6], [])
theorem k_wq119in : cbody kR [] (cpl1 zWP c_wn4 []) (cpl2 zWP c_wn4 []) (cleaf kR zWP c_wn4 []) 1500 true true q_wq119in.2.2.1 q_wq119in.2.2.2 (cst zWP c_wn4.2.2.1.1 q_wq119in.1) (cst zWP c_wn4.2.2.1.2 q_wq119in.2.1) = true := by decide +kernel
theorem t_wq119in {X : pX} {ρ0 : sR} (hv : vok X ρ0) : CUTOK X kR zWP c_wn4 8 ρ0 q_wq119in := CUT_run kR_x kR_0 (Cs := []) (fun C hC => by cases hC) c_wn4_f (Q := []) hv (fun q hq => by cases hq) 1500 (b1 := true) (b2 := true) k_wq119in
theorem t_wq119i {X : pX} {ρ0 : sR} (hv : vok X ρ0) : CUTOK X kR zWP c_wn4 8 ρ0 q_wq119i := fun ρ k1 hF hI k4 => by
  have b0 := rl_lf (x := ρ.2.1 60033) (y := -32768) (hF.2 _ (List.mem_cons_self))
  have b1 := rl_lf (x := 32767) (y := ρ.2.1 60033) (hF.2 _ (List.mem_cons_of_mem _ (List.mem_cons_self)))
  have y0 : (-32768 : Int64).toInt = -32768 := by decide +kernel
  have y1 : (32767 : Int64).toInt = 32767 := by decide +kernel
  rw [y0] at b0
  rw [y1] at b1
  by_cases h : ρ.2.1 60033 = 0
  · exact t_wq119im0 hv ρ k1 ⟨hF.1, fcn (wn_129 (p := 119) (q := 119) rfl et_119 b0 b1 (by rw [h]; decide +kernel)) (fcn (decide_eq_true h) (fcn (decide_eq_true h.symm) (fcn (decide_eq_false (show ¬ ρ.2.1 60033 = 1 by rw [h]; decide)) (fcn (decide_eq_false (show ¬ (1 : Int64) = ρ.2.1 60033 by rw [h]; decide)) (hF.2)))))⟩ hI k4
  have n0 := h
  clear h
  by_cases h : ρ.2.1 60033 = 1
  · exact t_wq119im1 hv ρ k1 ⟨hF.1, fcn (wn_129 (p := 119) (q := 119) rfl et_119 b0 b1 (by rw [h]; decide +kernel)) (fcn (decide_eq_false (show ¬ ρ.2.1 60033 = 0 by rw [h]; decide)) (fcn (decide_eq_false (show ¬ (0 : Int64) = ρ.2.1 60033 by rw [h]; decide)) (fcn (decide_eq_true h) (fcn (decide_eq_true h.symm) (hF.2)))))⟩ hI k4
  have n1 := h
  clear h
  exact t_wq119in hv ρ k1 ⟨hF.1, fcn (decide_eq_false n0) (fcn (decide_eq_false (fun q => n0 q.symm)) (fcn (decide_eq_false n1) (fcn (decide_eq_false (fun q => n1 q.symm)) (hF.2))))⟩ hI k4
theorem t_wq119 {X : pX} {ρ0 : sR} (hv : vok X ρ0) : CUTOK X kR zWP c_wn4 8 ρ0 q_wq119 := t_wq119i hv
theorem e_wp119 : frun kR [] (cpl1 zWP (c_wp4 119) [q_wq119]) (cpl2 zWP (c_wp4 119) [q_wq119]) (cleaf kR zWP (c_wp4 119) [q_wq119]) 300 65536 (isatP ((c_wp4 119).2.2.2.1) (c_wp4 119).2.2.2.2.2.2.2.1) (c_wp4 119).2.2.2.2.2.2.2.1 (sin0 mt_all (c_wp4 119).1.1 8 (c_wp4 119).2.1.1 (foot zWP (c_wp4 119).2.2.1.1)) (sin0 mt_all (c_wp4 119).1.2.1 8 (c_wp4 119).2.1.2 (foot zWP (c_wp4 119).2.2.1.2)) = true := by decide +kernel
theorem s_wp119 {X : pX} : SREL X pF pdfl mt_all kR zWP (c_wp4 119) := SREL_QC kR_x kR_0 (Cs := []) (fun C hC => by cases hC) (d := 8) rfl (c_wp4_f 119) (Q := [q_wq119]) (fun ρ0 hv => fun q hq => by
    simp only [List.mem_cons, List.not_mem_nil, or_false] at hq
    rw [hq]; exact (t_wq119 hv : CUTOK X kR zWP c_wn4 8 ρ0 q_wq119)) (QC_run 300 e_wp119)
theorem et_120 : evt[120]? = some (-32768, 32767, 3) := by decide +kernel
noncomputable def zf98vg_25 : sQ × Bool := ((129, .int 120, .arg 60033), true)
noncomputable def q_wR120 : sCut := ((fr 0 5 23 [(4, .int 0)] [], [fBot], 8), (fr 0 277 91 [(3, .int 0)] [], [fBot], 8), [zf98vg_25], [])
noncomputable def q_wq120 : sCut := ((fr 0 5 0 [(0, tr 57), (1, .int 120), (2, .arg 60033)] [], [fBot], 8), (fr 0 277 60 [(0, tr 219), (1, .arg 1308), (2, .int 120), (4, .arg 60033)] [], [fBot], 8), [zf98vg_1, zf98vg_2, zf98vg_3, zf98vg_4, zf98vg_5, zf98vg_6], [])
noncomputable def q_wq120i : sCut := ((fr 0 5 0 [(0, tr 57), (1, .int 120), (2, .arg 60033)] [], [fBot], 8), (fr 0 277 60 [(0, tr 219), (1, .arg 1308), (2, .int 120), (4, .arg 60033)] [], [fBot], 8), [zf98vg_1, zf98vg_2, zf98vg_3, zf98vg_4, zf98vg_5, zf98vg_6], [])
noncomputable def q_wq120im0 : sCut := ((fr 0 5 0 [(0, tr 57), (1, .int 120), (2, .arg 60033)] [], [fBot], 8), (fr 0 277 60 [(0, tr 219), (1, .arg 1308), (2, .int 120), (4, .arg 60033)] [], [fBot], 8), [zf98vg_25, zf98vg_19, zf98vg_20, zf98vg_11, zf98vg_12, zf98vg_1, zf98vg_2, zf98vg_3, zf98vg_4, zf98vg_5, zf98vg_6], [])
noncomputable def w_wq120im0 : List (sCut × List (Nat × sT) × List (Nat × sT × List (sT × sT))) := [(q_wR120, [(60033, .arg 60033), (2848, .op2 .ior (.arg 2848) (.int 0)), (6850, .arg 6850), (6882, .arg 6882), (6914, .arg 6914), (6946, .arg 6946), (7362, .arg 7362), (7394, .arg 7394), (7426, .arg 7426), (7458, .arg 7458), (7874, .arg 7874), (7906, .arg 7906), (7938, .arg 7938), (7970, .arg 7970), (21216, .arg 21216), (21248, .arg 21248), (21280, .arg 21280), (21312, .arg 21312), (6466, .arg 6466), (6498, .arg 6498)], [(1761, .arg 1761, [(.int 120, .arg 60033)])])]
theorem k_wq120im0 : cbody kR [] (cpl1 zWP c_wn4 [q_wR120]) (cpl2 zWP c_wn4 [q_wR120]) (cleafB kR zWP c_wn4 w_wq120im0) 1500 true true q_wq120im0.2.2.1 q_wq120im0.2.2.2 (cst zWP c_wn4.2.2.1.1 q_wq120im0.1) (cst zWP c_wn4.2.2.1.2 q_wq120im0.2.1) = true := by decide +kernel
theorem t_wq120im0 {X : pX} {ρ0 : sR} (hv : vok X ρ0) : CUTOK X kR zWP c_wn4 8 ρ0 q_wq120im0 := CUTOK_AT (fun ρ k1 hF hI k4 => AT_of (q := q_wq120im0) rfl rfl (SEM_runB kR_x kR_0 (Cs := []) (fun C hC => by cases hC) c_wn4_f (Q := w_wq120im0) hv 1500 (b1 := true) (b2 := true) k_wq120im0 k1 hF hI k4 (fun p hp ρ3 m1 m2 m3 m4 m5 m6 => by
  rw [List.mem_singleton.mp hp] at m2 m3 m5 m6 ⊢
  have y3 : ρ3.2.1 60033 = ρ.2.1 60033 := congrArg Prod.snd (m5 (60033, .arg 60033) List.mem_cons_self)
  have hA : ∀ j, ρ3.2.2.2.1 1761 j = if 120 = j then ρ.2.1 60033 else ρ.2.2.2.1 1761 j := fun j => ad_l (X := X) (p := 120) (t := .arg 60033) rfl (m6 _ List.mem_cons_self) j
  have hk : evk 120 (ρ.2.1 60033).toInt = true := by
    have h := m2.2 _ List.mem_cons_self
    rw [← y3]
    exact h
  have ea : ρ3.1 2848 = (sd X ρ (.op2 .ior (.arg 2848) (.int 0))).1 := congrArg Prod.fst (m5 (2848, .op2 .ior (.arg 2848) (.int 0)) (List.mem_cons_of_mem _ List.mem_cons_self))
  have eL : ρ3.1 60578 = ρ.1 60578 := (m4.1 60578 (by decide) (by decide)).1.trans (k4.1 60578 (by decide) (by decide)).1.symm
  have mo : sc X ρ3 (2, .op2 .iand (.op2 .iushr (.arg 2848) (.int 4)) (.int 1), .arg 60578) = false := by
    show decide (((ρ3.1 2848).toUInt32 >>> ((4 : Int32).toUInt32 &&& (31 : Int32).toUInt32)).toInt32 &&& 1 < ρ3.1 60578) = false
    rw [ea, eL]
    have q := tbv_ok (X := X) (ρ := ρ) (F := []) (a := .op2 .iand (.op2 .iushr (.op2 .ior (.arg 2848) (.int 0)) (.int 4)) (.int 1)) (b := .op2 .iand (.op2 .iushr (.arg 2848) (.int 4)) (.int 1)) ⟨hF.1, fun f hf => by cases hf⟩ (by decide +kernel)
    rw [sv_int rfl, sv_int rfl] at q
    exact mn_e (Value.int.inj q) (of_decide_eq_true (hF.2 _ (List.mem_cons_of_mem _ (List.mem_cons_of_mem _ (List.mem_cons_of_mem _ (List.mem_cons_of_mem _ (List.mem_cons_of_mem _ (List.mem_cons_of_mem _ (List.mem_cons_of_mem _ (List.mem_cons_of_mem _ (List.mem_cons_of_mem _ (List.mem_cons_self))))))))))))
  exact t_wG4 hv ρ3 m1 ⟨m2.1, fcn (ev_nm (g := ρ.2.2.2.1 1761) (p := 120) (hF.2 _ (List.mem_cons_of_mem _ (List.mem_cons_of_mem _ (List.mem_cons_of_mem _ (List.mem_cons_of_mem _ (List.mem_cons_of_mem _ (List.mem_cons_of_mem _ (List.mem_cons_of_mem _ (List.mem_cons_self))))))))) hk hA (by decide +kernel)) (fcn (pd_up (X := X) (p := 120) (c := 0) (z := []) (hF.2 _ (List.mem_cons_of_mem _ (List.mem_cons_of_mem _ (List.mem_cons_of_mem _ (List.mem_cons_of_mem _ (List.mem_cons_of_mem _ (List.mem_cons_of_mem _ (List.mem_cons_of_mem _ (List.mem_cons_of_mem _ (List.mem_cons_self)))))))))) hA (fun x hx => m5 x (List.mem_cons_of_mem _ hx)) k4 m4 wm_4 wb_4 (by decide +kernel)) (fcn (mo) (fnl)))⟩ m3 m4)))
noncomputable def q_wq120im1 : sCut := ((fr 0 5 0 [(0, tr 57), (1, .int 120), (2, .arg 60033)] [], [fBot], 8), (fr 0 277 60 [(0, tr 219), (1, .arg 1308), (2, .int 120), (4, .arg 60033)] [], [fBot], 8), [zf98vg_25, zf98vg_9, zf98vg_10, zf98vg_21, zf98vg_22, zf98vg_1, zf98vg_2, zf98vg_3, zf98vg_4, zf98vg_5, zf98vg_6], [])
noncomputable def w_wq120im1 : List (sCut × List (Nat × sT) × List (Nat × sT × List (sT × sT))) := [(q_wR120, [(60033, .arg 60033), (2848, .op2 .ior (.arg 2848) (.int 0)), (6850, .arg 6850), (6882, .arg 6882), (6914, .arg 6914), (6946, .arg 6946), (7362, .arg 7362), (7394, .arg 7394), (7426, .arg 7426), (7458, .arg 7458), (7874, .arg 7874), (7906, .arg 7906), (7938, .arg 7938), (7970, .arg 7970), (21216, .arg 21216), (21248, .arg 21248), (21280, .arg 21280), (21312, .arg 21312), (6466, .arg 6466), (6498, .arg 6498)], [(1761, .arg 1761, [(.int 120, .arg 60033)])])]
theorem k_wq120im1 : cbody kR [] (cpl1 zWP c_wn4 [q_wR120]) (cpl2 zWP c_wn4 [q_wR120]) (cleafB kR zWP c_wn4 w_wq120im1) 1500 true true q_wq120im1.2.2.1 q_wq120im1.2.2.2 (cst zWP c_wn4.2.2.1.1 q_wq120im1.1) (cst zWP c_wn4.2.2.1.2 q_wq120im1.2.1) = true := by decide +kernel
theorem t_wq120im1 {X : pX} {ρ0 : sR} (hv : vok X ρ0) : CUTOK X kR zWP c_wn4 8 ρ0 q_wq120im1 := CUTOK_AT (fun ρ k1 hF hI k4 => AT_of (q := q_wq120im1) rfl rfl (SEM_runB kR_x kR_0 (Cs := []) (fun C hC => by cases hC) c_wn4_f (Q := w_wq120im1) hv 1500 (b1 := true) (b2 := true) k_wq120im1 k1 hF hI k4 (fun p hp ρ3 m1 m2 m3 m4 m5 m6 => by
  rw [List.mem_singleton.mp hp] at m2 m3 m5 m6 ⊢
  have y3 : ρ3.2.1 60033 = ρ.2.1 60033 := congrArg Prod.snd (m5 (60033, .arg 60033) List.mem_cons_self)
  have hA : ∀ j, ρ3.2.2.2.1 1761 j = if 120 = j then ρ.2.1 60033 else ρ.2.2.2.1 1761 j := fun j => ad_l (X := X) (p := 120) (t := .arg 60033) rfl (m6 _ List.mem_cons_self) j
  have hk : evk 120 (ρ.2.1 60033).toInt = true := by
    have h := m2.2 _ List.mem_cons_self
    rw [← y3]
    exact h
  have ea : ρ3.1 2848 = (sd X ρ (.op2 .ior (.arg 2848) (.int 0))).1 := congrArg Prod.fst (m5 (2848, .op2 .ior (.arg 2848) (.int 0)) (List.mem_cons_of_mem _ List.mem_cons_self))
  have eL : ρ3.1 60578 = ρ.1 60578 := (m4.1 60578 (by decide) (by decide)).1.trans (k4.1 60578 (by decide) (by decide)).1.symm
  have mo : sc X ρ3 (2, .op2 .iand (.op2 .iushr (.arg 2848) (.int 4)) (.int 1), .arg 60578) = false := by
    show decide (((ρ3.1 2848).toUInt32 >>> ((4 : Int32).toUInt32 &&& (31 : Int32).toUInt32)).toInt32 &&& 1 < ρ3.1 60578) = false
    rw [ea, eL]
    have q := tbv_ok (X := X) (ρ := ρ) (F := []) (a := .op2 .iand (.op2 .iushr (.op2 .ior (.arg 2848) (.int 0)) (.int 4)) (.int 1)) (b := .op2 .iand (.op2 .iushr (.arg 2848) (.int 4)) (.int 1)) ⟨hF.1, fun f hf => by cases hf⟩ (by decide +kernel)
    rw [sv_int rfl, sv_int rfl] at q
    exact mn_e (Value.int.inj q) (of_decide_eq_true (hF.2 _ (List.mem_cons_of_mem _ (List.mem_cons_of_mem _ (List.mem_cons_of_mem _ (List.mem_cons_of_mem _ (List.mem_cons_of_mem _ (List.mem_cons_of_mem _ (List.mem_cons_of_mem _ (List.mem_cons_of_mem _ (List.mem_cons_of_mem _ (List.mem_cons_self))))))))))))
  exact t_wG4 hv ρ3 m1 ⟨m2.1, fcn (ev_nm (g := ρ.2.2.2.1 1761) (p := 120) (hF.2 _ (List.mem_cons_of_mem _ (List.mem_cons_of_mem _ (List.mem_cons_of_mem _ (List.mem_cons_of_mem _ (List.mem_cons_of_mem _ (List.mem_cons_of_mem _ (List.mem_cons_of_mem _ (List.mem_cons_self))))))))) hk hA (by decide +kernel)) (fcn (pd_up (X := X) (p := 120) (c := 0) (z := []) (hF.2 _ (List.mem_cons_of_mem _ (List.mem_cons_of_mem _ (List.mem_cons_of_mem _ (List.mem_cons_of_mem _ (List.mem_cons_of_mem _ (List.mem_cons_of_mem _ (List.mem_cons_of_mem _ (List.mem_cons_of_mem _ (List.mem_cons_self)))))))))) hA (fun x hx => m5 x (List.mem_cons_of_mem _ hx)) k4 m4 wm_4 wb_4 (by decide +kernel)) (fcn (mo) (fnl)))⟩ m3 m4)))
noncomputable def q_wq120in : sCut := ((fr 0 5 0 [(0, tr 57), (1, .int 120), (2, .arg 60033)] [], [fBot], 8), (fr 0 277 60 [(0, tr 219), (1, .arg 1308), (2, .int 120), (4, .arg 60033)] [], [fBot], 8), [zf98vg_9, zf98vg_10, zf98vg_11, zf98vg_12, zf98vg_1, zf98vg_2, zf98vg_3, zf98vg_4, zf98vg_5, zf98vg_6], [])
theorem k_wq120in : cbody kR [] (cpl1 zWP c_wn4 []) (cpl2 zWP c_wn4 []) (cleaf kR zWP c_wn4 []) 1500 true true q_wq120in.2.2.1 q_wq120in.2.2.2 (cst zWP c_wn4.2.2.1.1 q_wq120in.1) (cst zWP c_wn4.2.2.1.2 q_wq120in.2.1) = true := by decide +kernel
theorem t_wq120in {X : pX} {ρ0 : sR} (hv : vok X ρ0) : CUTOK X kR zWP c_wn4 8 ρ0 q_wq120in := CUT_run kR_x kR_0 (Cs := []) (fun C hC => by cases hC) c_wn4_f (Q := []) hv (fun q hq => by cases hq) 1500 (b1 := true) (b2 := true) k_wq120in
theorem t_wq120i {X : pX} {ρ0 : sR} (hv : vok X ρ0) : CUTOK X kR zWP c_wn4 8 ρ0 q_wq120i := fun ρ k1 hF hI k4 => by
  have b0 := rl_lf (x := ρ.2.1 60033) (y := -32768) (hF.2 _ (List.mem_cons_self))
  have b1 := rl_lf (x := 32767) (y := ρ.2.1 60033) (hF.2 _ (List.mem_cons_of_mem _ (List.mem_cons_self)))
  have y0 : (-32768 : Int64).toInt = -32768 := by decide +kernel
  have y1 : (32767 : Int64).toInt = 32767 := by decide +kernel
  rw [y0] at b0
  rw [y1] at b1
  by_cases h : ρ.2.1 60033 = 1
  · exact t_wq120im0 hv ρ k1 ⟨hF.1, fcn (wn_129 (p := 120) (q := 120) rfl et_120 b0 b1 (by rw [h]; decide +kernel)) (fcn (decide_eq_true h) (fcn (decide_eq_true h.symm) (fcn (decide_eq_false (show ¬ ρ.2.1 60033 = 2 by rw [h]; decide)) (fcn (decide_eq_false (show ¬ (2 : Int64) = ρ.2.1 60033 by rw [h]; decide)) (hF.2)))))⟩ hI k4
  have n0 := h
  clear h
  by_cases h : ρ.2.1 60033 = 2
  · exact t_wq120im1 hv ρ k1 ⟨hF.1, fcn (wn_129 (p := 120) (q := 120) rfl et_120 b0 b1 (by rw [h]; decide +kernel)) (fcn (decide_eq_false (show ¬ ρ.2.1 60033 = 1 by rw [h]; decide)) (fcn (decide_eq_false (show ¬ (1 : Int64) = ρ.2.1 60033 by rw [h]; decide)) (fcn (decide_eq_true h) (fcn (decide_eq_true h.symm) (hF.2)))))⟩ hI k4
  have n1 := h
  clear h
  exact t_wq120in hv ρ k1 ⟨hF.1, fcn (decide_eq_false n0) (fcn (decide_eq_false (fun q => n0 q.symm)) (fcn (decide_eq_false n1) (fcn (decide_eq_false (fun q => n1 q.symm)) (hF.2))))⟩ hI k4
theorem t_wq120 {X : pX} {ρ0 : sR} (hv : vok X ρ0) : CUTOK X kR zWP c_wn4 8 ρ0 q_wq120 := t_wq120i hv
theorem e_wp120 : frun kR [] (cpl1 zWP (c_wp4 120) [q_wq120]) (cpl2 zWP (c_wp4 120) [q_wq120]) (cleaf kR zWP (c_wp4 120) [q_wq120]) 300 65536 (isatP ((c_wp4 120).2.2.2.1) (c_wp4 120).2.2.2.2.2.2.2.1) (c_wp4 120).2.2.2.2.2.2.2.1 (sin0 mt_all (c_wp4 120).1.1 8 (c_wp4 120).2.1.1 (foot zWP (c_wp4 120).2.2.1.1)) (sin0 mt_all (c_wp4 120).1.2.1 8 (c_wp4 120).2.1.2 (foot zWP (c_wp4 120).2.2.1.2)) = true := by decide +kernel
theorem s_wp120 {X : pX} : SREL X pF pdfl mt_all kR zWP (c_wp4 120) := SREL_QC kR_x kR_0 (Cs := []) (fun C hC => by cases hC) (d := 8) rfl (c_wp4_f 120) (Q := [q_wq120]) (fun ρ0 hv => fun q hq => by
    simp only [List.mem_cons, List.not_mem_nil, or_false] at hq
    rw [hq]; exact (t_wq120 hv : CUTOK X kR zWP c_wn4 8 ρ0 q_wq120)) (QC_run 300 e_wp120)
theorem et_121 : evt[121]? = some (-32768, 32767, 4) := by decide +kernel
noncomputable def zf98vg_26 : sQ × Bool := ((129, .int 121, .arg 60033), true)
noncomputable def q_wR121 : sCut := ((fr 0 5 23 [(4, .int 0)] [], [fBot], 8), (fr 0 277 91 [(3, .int 0)] [], [fBot], 8), [zf98vg_26], [])
noncomputable def q_wq121 : sCut := ((fr 0 5 0 [(0, tr 57), (1, .int 121), (2, .arg 60033)] [], [fBot], 8), (fr 0 277 60 [(0, tr 219), (1, .arg 1308), (2, .int 121), (4, .arg 60033)] [], [fBot], 8), [zf98vg_1, zf98vg_2, zf98vg_3, zf98vg_4, zf98vg_5, zf98vg_6], [])
noncomputable def q_wq121i : sCut := ((fr 0 5 0 [(0, tr 57), (1, .int 121), (2, .arg 60033)] [], [fBot], 8), (fr 0 277 60 [(0, tr 219), (1, .arg 1308), (2, .int 121), (4, .arg 60033)] [], [fBot], 8), [zf98vg_1, zf98vg_2, zf98vg_3, zf98vg_4, zf98vg_5, zf98vg_6], [])
noncomputable def q_wq121im0 : sCut := ((fr 0 5 0 [(0, tr 57), (1, .int 121), (2, .arg 60033)] [], [fBot], 8), (fr 0 277 60 [(0, tr 219), (1, .arg 1308), (2, .int 121), (4, .arg 60033)] [], [fBot], 8), [zf98vg_26, zf98vg_7, zf98vg_8, zf98vg_9, zf98vg_10, zf98vg_11, zf98vg_12, zf98vg_1, zf98vg_2, zf98vg_3, zf98vg_4, zf98vg_5, zf98vg_6], [])
noncomputable def w_wq121im0 : List (sCut × List (Nat × sT) × List (Nat × sT × List (sT × sT))) := [(q_wR121, [(60033, .arg 60033), (2848, .op2 .ior (.arg 2848) (.int 0)), (6850, .arg 6850), (6882, .arg 6882), (6914, .arg 6914), (6946, .arg 6946), (7362, .arg 7362), (7394, .arg 7394), (7426, .arg 7426), (7458, .arg 7458), (7874, .arg 7874), (7906, .arg 7906), (7938, .arg 7938), (7970, .arg 7970), (21216, .arg 21216), (21248, .arg 21248), (21280, .arg 21280), (21312, .arg 21312), (6466, .arg 6466), (6498, .arg 6498)], [(1761, .arg 1761, [(.int 121, .arg 60033)])])]
theorem k_wq121im0 : cbody kR [] (cpl1 zWP c_wn4 [q_wR121]) (cpl2 zWP c_wn4 [q_wR121]) (cleafB kR zWP c_wn4 w_wq121im0) 1500 true true q_wq121im0.2.2.1 q_wq121im0.2.2.2 (cst zWP c_wn4.2.2.1.1 q_wq121im0.1) (cst zWP c_wn4.2.2.1.2 q_wq121im0.2.1) = true := by decide +kernel
theorem t_wq121im0 {X : pX} {ρ0 : sR} (hv : vok X ρ0) : CUTOK X kR zWP c_wn4 8 ρ0 q_wq121im0 := CUTOK_AT (fun ρ k1 hF hI k4 => AT_of (q := q_wq121im0) rfl rfl (SEM_runB kR_x kR_0 (Cs := []) (fun C hC => by cases hC) c_wn4_f (Q := w_wq121im0) hv 1500 (b1 := true) (b2 := true) k_wq121im0 k1 hF hI k4 (fun p hp ρ3 m1 m2 m3 m4 m5 m6 => by
  rw [List.mem_singleton.mp hp] at m2 m3 m5 m6 ⊢
  have y3 : ρ3.2.1 60033 = ρ.2.1 60033 := congrArg Prod.snd (m5 (60033, .arg 60033) List.mem_cons_self)
  have hA : ∀ j, ρ3.2.2.2.1 1761 j = if 121 = j then ρ.2.1 60033 else ρ.2.2.2.1 1761 j := fun j => ad_l (X := X) (p := 121) (t := .arg 60033) rfl (m6 _ List.mem_cons_self) j
  have hk : evk 121 (ρ.2.1 60033).toInt = true := by
    have h := m2.2 _ List.mem_cons_self
    rw [← y3]
    exact h
  have ea : ρ3.1 2848 = (sd X ρ (.op2 .ior (.arg 2848) (.int 0))).1 := congrArg Prod.fst (m5 (2848, .op2 .ior (.arg 2848) (.int 0)) (List.mem_cons_of_mem _ List.mem_cons_self))
  have eL : ρ3.1 60578 = ρ.1 60578 := (m4.1 60578 (by decide) (by decide)).1.trans (k4.1 60578 (by decide) (by decide)).1.symm
  have mo : sc X ρ3 (2, .op2 .iand (.op2 .iushr (.arg 2848) (.int 4)) (.int 1), .arg 60578) = false := by
    show decide (((ρ3.1 2848).toUInt32 >>> ((4 : Int32).toUInt32 &&& (31 : Int32).toUInt32)).toInt32 &&& 1 < ρ3.1 60578) = false
    rw [ea, eL]
    have q := tbv_ok (X := X) (ρ := ρ) (F := []) (a := .op2 .iand (.op2 .iushr (.op2 .ior (.arg 2848) (.int 0)) (.int 4)) (.int 1)) (b := .op2 .iand (.op2 .iushr (.arg 2848) (.int 4)) (.int 1)) ⟨hF.1, fun f hf => by cases hf⟩ (by decide +kernel)
    rw [sv_int rfl, sv_int rfl] at q
    exact mn_e (Value.int.inj q) (of_decide_eq_true (hF.2 _ (List.mem_cons_of_mem _ (List.mem_cons_of_mem _ (List.mem_cons_of_mem _ (List.mem_cons_of_mem _ (List.mem_cons_of_mem _ (List.mem_cons_of_mem _ (List.mem_cons_of_mem _ (List.mem_cons_of_mem _ (List.mem_cons_of_mem _ (List.mem_cons_of_mem _ (List.mem_cons_of_mem _ (List.mem_cons_self))))))))))))))
  exact t_wG4 hv ρ3 m1 ⟨m2.1, fcn (ev_nm (g := ρ.2.2.2.1 1761) (p := 121) (hF.2 _ (List.mem_cons_of_mem _ (List.mem_cons_of_mem _ (List.mem_cons_of_mem _ (List.mem_cons_of_mem _ (List.mem_cons_of_mem _ (List.mem_cons_of_mem _ (List.mem_cons_of_mem _ (List.mem_cons_of_mem _ (List.mem_cons_of_mem _ (List.mem_cons_self))))))))))) hk hA (by decide +kernel)) (fcn (pd_up (X := X) (p := 121) (c := 0) (z := []) (hF.2 _ (List.mem_cons_of_mem _ (List.mem_cons_of_mem _ (List.mem_cons_of_mem _ (List.mem_cons_of_mem _ (List.mem_cons_of_mem _ (List.mem_cons_of_mem _ (List.mem_cons_of_mem _ (List.mem_cons_of_mem _ (List.mem_cons_of_mem _ (List.mem_cons_of_mem _ (List.mem_cons_self)))))))))))) hA (fun x hx => m5 x (List.mem_cons_of_mem _ hx)) k4 m4 wm_4 wb_4 (by decide +kernel)) (fcn (mo) (fnl)))⟩ m3 m4)))
noncomputable def q_wq121im1 : sCut := ((fr 0 5 0 [(0, tr 57), (1, .int 121), (2, .arg 60033)] [], [fBot], 8), (fr 0 277 60 [(0, tr 219), (1, .arg 1308), (2, .int 121), (4, .arg 60033)] [], [fBot], 8), [zf98vg_26, zf98vg_17, zf98vg_18, zf98vg_19, zf98vg_20, zf98vg_11, zf98vg_12, zf98vg_1, zf98vg_2, zf98vg_3, zf98vg_4, zf98vg_5, zf98vg_6], [])
noncomputable def w_wq121im1 : List (sCut × List (Nat × sT) × List (Nat × sT × List (sT × sT))) := [(q_wR121, [(60033, .arg 60033), (2848, .op2 .ior (.arg 2848) (.int 0)), (6850, .arg 6850), (6882, .arg 6882), (6914, .arg 6914), (6946, .arg 6946), (7362, .arg 7362), (7394, .arg 7394), (7426, .arg 7426), (7458, .arg 7458), (7874, .arg 7874), (7906, .arg 7906), (7938, .arg 7938), (7970, .arg 7970), (21216, .arg 21216), (21248, .arg 21248), (21280, .arg 21280), (21312, .arg 21312), (6466, .arg 6466), (6498, .arg 6498)], [(1761, .arg 1761, [(.int 121, .arg 60033)])])]
theorem k_wq121im1 : cbody kR [] (cpl1 zWP c_wn4 [q_wR121]) (cpl2 zWP c_wn4 [q_wR121]) (cleafB kR zWP c_wn4 w_wq121im1) 1500 true true q_wq121im1.2.2.1 q_wq121im1.2.2.2 (cst zWP c_wn4.2.2.1.1 q_wq121im1.1) (cst zWP c_wn4.2.2.1.2 q_wq121im1.2.1) = true := by decide +kernel
theorem t_wq121im1 {X : pX} {ρ0 : sR} (hv : vok X ρ0) : CUTOK X kR zWP c_wn4 8 ρ0 q_wq121im1 := CUTOK_AT (fun ρ k1 hF hI k4 => AT_of (q := q_wq121im1) rfl rfl (SEM_runB kR_x kR_0 (Cs := []) (fun C hC => by cases hC) c_wn4_f (Q := w_wq121im1) hv 1500 (b1 := true) (b2 := true) k_wq121im1 k1 hF hI k4 (fun p hp ρ3 m1 m2 m3 m4 m5 m6 => by
  rw [List.mem_singleton.mp hp] at m2 m3 m5 m6 ⊢
  have y3 : ρ3.2.1 60033 = ρ.2.1 60033 := congrArg Prod.snd (m5 (60033, .arg 60033) List.mem_cons_self)
  have hA : ∀ j, ρ3.2.2.2.1 1761 j = if 121 = j then ρ.2.1 60033 else ρ.2.2.2.1 1761 j := fun j => ad_l (X := X) (p := 121) (t := .arg 60033) rfl (m6 _ List.mem_cons_self) j
  have hk : evk 121 (ρ.2.1 60033).toInt = true := by
    have h := m2.2 _ List.mem_cons_self
    rw [← y3]
    exact h
  have ea : ρ3.1 2848 = (sd X ρ (.op2 .ior (.arg 2848) (.int 0))).1 := congrArg Prod.fst (m5 (2848, .op2 .ior (.arg 2848) (.int 0)) (List.mem_cons_of_mem _ List.mem_cons_self))
  have eL : ρ3.1 60578 = ρ.1 60578 := (m4.1 60578 (by decide) (by decide)).1.trans (k4.1 60578 (by decide) (by decide)).1.symm
  have mo : sc X ρ3 (2, .op2 .iand (.op2 .iushr (.arg 2848) (.int 4)) (.int 1), .arg 60578) = false := by
    show decide (((ρ3.1 2848).toUInt32 >>> ((4 : Int32).toUInt32 &&& (31 : Int32).toUInt32)).toInt32 &&& 1 < ρ3.1 60578) = false
    rw [ea, eL]
    have q := tbv_ok (X := X) (ρ := ρ) (F := []) (a := .op2 .iand (.op2 .iushr (.op2 .ior (.arg 2848) (.int 0)) (.int 4)) (.int 1)) (b := .op2 .iand (.op2 .iushr (.arg 2848) (.int 4)) (.int 1)) ⟨hF.1, fun f hf => by cases hf⟩ (by decide +kernel)
    rw [sv_int rfl, sv_int rfl] at q
    exact mn_e (Value.int.inj q) (of_decide_eq_true (hF.2 _ (List.mem_cons_of_mem _ (List.mem_cons_of_mem _ (List.mem_cons_of_mem _ (List.mem_cons_of_mem _ (List.mem_cons_of_mem _ (List.mem_cons_of_mem _ (List.mem_cons_of_mem _ (List.mem_cons_of_mem _ (List.mem_cons_of_mem _ (List.mem_cons_of_mem _ (List.mem_cons_of_mem _ (List.mem_cons_self))))))))))))))
  exact t_wG4 hv ρ3 m1 ⟨m2.1, fcn (ev_nm (g := ρ.2.2.2.1 1761) (p := 121) (hF.2 _ (List.mem_cons_of_mem _ (List.mem_cons_of_mem _ (List.mem_cons_of_mem _ (List.mem_cons_of_mem _ (List.mem_cons_of_mem _ (List.mem_cons_of_mem _ (List.mem_cons_of_mem _ (List.mem_cons_of_mem _ (List.mem_cons_of_mem _ (List.mem_cons_self))))))))))) hk hA (by decide +kernel)) (fcn (pd_up (X := X) (p := 121) (c := 0) (z := []) (hF.2 _ (List.mem_cons_of_mem _ (List.mem_cons_of_mem _ (List.mem_cons_of_mem _ (List.mem_cons_of_mem _ (List.mem_cons_of_mem _ (List.mem_cons_of_mem _ (List.mem_cons_of_mem _ (List.mem_cons_of_mem _ (List.mem_cons_of_mem _ (List.mem_cons_of_mem _ (List.mem_cons_self)))))))))))) hA (fun x hx => m5 x (List.mem_cons_of_mem _ hx)) k4 m4 wm_4 wb_4 (by decide +kernel)) (fcn (mo) (fnl)))⟩ m3 m4)))
noncomputable def q_wq121im2 : sCut := ((fr 0 5 0 [(0, tr 57), (1, .int 121), (2, .arg 60033)] [], [fBot], 8), (fr 0 277 60 [(0, tr 219), (1, .arg 1308), (2, .int 121), (4, .arg 60033)] [], [fBot], 8), [zf98vg_26, zf98vg_17, zf98vg_18, zf98vg_9, zf98vg_10, zf98vg_21, zf98vg_22, zf98vg_1, zf98vg_2, zf98vg_3, zf98vg_4, zf98vg_5, zf98vg_6], [])
noncomputable def w_wq121im2 : List (sCut × List (Nat × sT) × List (Nat × sT × List (sT × sT))) := [(q_wR121, [(60033, .arg 60033), (2848, .op2 .ior (.arg 2848) (.int 0)), (6850, .arg 6850), (6882, .arg 6882), (6914, .arg 6914), (6946, .arg 6946), (7362, .arg 7362), (7394, .arg 7394), (7426, .arg 7426), (7458, .arg 7458), (7874, .arg 7874), (7906, .arg 7906), (7938, .arg 7938), (7970, .arg 7970), (21216, .arg 21216), (21248, .arg 21248), (21280, .arg 21280), (21312, .arg 21312), (6466, .arg 6466), (6498, .arg 6498)], [(1761, .arg 1761, [(.int 121, .arg 60033)])])]
theorem k_wq121im2 : cbody kR [] (cpl1 zWP c_wn4 [q_wR121]) (cpl2 zWP c_wn4 [q_wR121]) (cleafB kR zWP c_wn4 w_wq121im2) 1500 true true q_wq121im2.2.2.1 q_wq121im2.2.2.2 (cst zWP c_wn4.2.2.1.1 q_wq121im2.1) (cst zWP c_wn4.2.2.1.2 q_wq121im2.2.1) = true := by decide +kernel
theorem t_wq121im2 {X : pX} {ρ0 : sR} (hv : vok X ρ0) : CUTOK X kR zWP c_wn4 8 ρ0 q_wq121im2 := CUTOK_AT (fun ρ k1 hF hI k4 => AT_of (q := q_wq121im2) rfl rfl (SEM_runB kR_x kR_0 (Cs := []) (fun C hC => by cases hC) c_wn4_f (Q := w_wq121im2) hv 1500 (b1 := true) (b2 := true) k_wq121im2 k1 hF hI k4 (fun p hp ρ3 m1 m2 m3 m4 m5 m6 => by
  rw [List.mem_singleton.mp hp] at m2 m3 m5 m6 ⊢
  have y3 : ρ3.2.1 60033 = ρ.2.1 60033 := congrArg Prod.snd (m5 (60033, .arg 60033) List.mem_cons_self)
  have hA : ∀ j, ρ3.2.2.2.1 1761 j = if 121 = j then ρ.2.1 60033 else ρ.2.2.2.1 1761 j := fun j => ad_l (X := X) (p := 121) (t := .arg 60033) rfl (m6 _ List.mem_cons_self) j
  have hk : evk 121 (ρ.2.1 60033).toInt = true := by
    have h := m2.2 _ List.mem_cons_self
    rw [← y3]
    exact h
  have ea : ρ3.1 2848 = (sd X ρ (.op2 .ior (.arg 2848) (.int 0))).1 := congrArg Prod.fst (m5 (2848, .op2 .ior (.arg 2848) (.int 0)) (List.mem_cons_of_mem _ List.mem_cons_self))
  have eL : ρ3.1 60578 = ρ.1 60578 := (m4.1 60578 (by decide) (by decide)).1.trans (k4.1 60578 (by decide) (by decide)).1.symm
  have mo : sc X ρ3 (2, .op2 .iand (.op2 .iushr (.arg 2848) (.int 4)) (.int 1), .arg 60578) = false := by
    show decide (((ρ3.1 2848).toUInt32 >>> ((4 : Int32).toUInt32 &&& (31 : Int32).toUInt32)).toInt32 &&& 1 < ρ3.1 60578) = false
    rw [ea, eL]
    have q := tbv_ok (X := X) (ρ := ρ) (F := []) (a := .op2 .iand (.op2 .iushr (.op2 .ior (.arg 2848) (.int 0)) (.int 4)) (.int 1)) (b := .op2 .iand (.op2 .iushr (.arg 2848) (.int 4)) (.int 1)) ⟨hF.1, fun f hf => by cases hf⟩ (by decide +kernel)
    rw [sv_int rfl, sv_int rfl] at q
    exact mn_e (Value.int.inj q) (of_decide_eq_true (hF.2 _ (List.mem_cons_of_mem _ (List.mem_cons_of_mem _ (List.mem_cons_of_mem _ (List.mem_cons_of_mem _ (List.mem_cons_of_mem _ (List.mem_cons_of_mem _ (List.mem_cons_of_mem _ (List.mem_cons_of_mem _ (List.mem_cons_of_mem _ (List.mem_cons_of_mem _ (List.mem_cons_of_mem _ (List.mem_cons_self))))))))))))))
  exact t_wG4 hv ρ3 m1 ⟨m2.1, fcn (ev_nm (g := ρ.2.2.2.1 1761) (p := 121) (hF.2 _ (List.mem_cons_of_mem _ (List.mem_cons_of_mem _ (List.mem_cons_of_mem _ (List.mem_cons_of_mem _ (List.mem_cons_of_mem _ (List.mem_cons_of_mem _ (List.mem_cons_of_mem _ (List.mem_cons_of_mem _ (List.mem_cons_of_mem _ (List.mem_cons_self))))))))))) hk hA (by decide +kernel)) (fcn (pd_up (X := X) (p := 121) (c := 0) (z := []) (hF.2 _ (List.mem_cons_of_mem _ (List.mem_cons_of_mem _ (List.mem_cons_of_mem _ (List.mem_cons_of_mem _ (List.mem_cons_of_mem _ (List.mem_cons_of_mem _ (List.mem_cons_of_mem _ (List.mem_cons_of_mem _ (List.mem_cons_of_mem _ (List.mem_cons_of_mem _ (List.mem_cons_self)))))))))))) hA (fun x hx => m5 x (List.mem_cons_of_mem _ hx)) k4 m4 wm_4 wb_4 (by decide +kernel)) (fcn (mo) (fnl)))⟩ m3 m4)))
noncomputable def q_wq121inl : sCut := ((fr 0 5 0 [(0, tr 57), (1, .int 121), (2, .arg 60033)] [], [fBot], 8), (fr 0 277 60 [(0, tr 219), (1, .arg 1308), (2, .int 121), (4, .arg 60033)] [], [fBot], 8), [((8, .arg 60033, .long 0), true), zf98vg_17, zf98vg_18, zf98vg_9, zf98vg_10, zf98vg_11, zf98vg_12, zf98vg_1, zf98vg_2, zf98vg_3, zf98vg_4, zf98vg_5, zf98vg_6], [])
theorem k_wq121inl : cbody kR [] (cpl1 zWP c_wn4 []) (cpl2 zWP c_wn4 []) (cleaf kR zWP c_wn4 []) 1500 true true q_wq121inl.2.2.1 q_wq121inl.2.2.2 (cst zWP c_wn4.2.2.1.1 q_wq121inl.1) (cst zWP c_wn4.2.2.1.2 q_wq121inl.2.1) = true := by decide +kernel
theorem t_wq121inl {X : pX} {ρ0 : sR} (hv : vok X ρ0) : CUTOK X kR zWP c_wn4 8 ρ0 q_wq121inl := CUT_run kR_x kR_0 (Cs := []) (fun C hC => by cases hC) c_wn4_f (Q := []) hv (fun q hq => by cases hq) 1500 (b1 := true) (b2 := true) k_wq121inl
noncomputable def q_wq121inh : sCut := ((fr 0 5 0 [(0, tr 57), (1, .int 121), (2, .arg 60033)] [], [fBot], 8), (fr 0 277 60 [(0, tr 219), (1, .arg 1308), (2, .int 121), (4, .arg 60033)] [], [fBot], 8), [((8, .long 2, .arg 60033), true), zf98vg_17, zf98vg_18, zf98vg_9, zf98vg_10, zf98vg_11, zf98vg_12, zf98vg_1, zf98vg_2, zf98vg_3, zf98vg_4, zf98vg_5, zf98vg_6], [])
theorem k_wq121inh : cbody kR [] (cpl1 zWP c_wn4 []) (cpl2 zWP c_wn4 []) (cleaf kR zWP c_wn4 []) 1500 true true q_wq121inh.2.2.1 q_wq121inh.2.2.2 (cst zWP c_wn4.2.2.1.1 q_wq121inh.1) (cst zWP c_wn4.2.2.1.2 q_wq121inh.2.1) = true := by decide +kernel
theorem t_wq121inh {X : pX} {ρ0 : sR} (hv : vok X ρ0) : CUTOK X kR zWP c_wn4 8 ρ0 q_wq121inh := CUT_run kR_x kR_0 (Cs := []) (fun C hC => by cases hC) c_wn4_f (Q := []) hv (fun q hq => by cases hq) 1500 (b1 := true) (b2 := true) k_wq121inh
theorem t_wq121i {X : pX} {ρ0 : sR} (hv : vok X ρ0) : CUTOK X kR zWP c_wn4 8 ρ0 q_wq121i := fun ρ k1 hF hI k4 => by
  have b0 := rl_lf (x := ρ.2.1 60033) (y := -32768) (hF.2 _ (List.mem_cons_self))
  have b1 := rl_lf (x := 32767) (y := ρ.2.1 60033) (hF.2 _ (List.mem_cons_of_mem _ (List.mem_cons_self)))
  have y0 : (-32768 : Int64).toInt = -32768 := by decide +kernel
  have y1 : (32767 : Int64).toInt = 32767 := by decide +kernel
  rw [y0] at b0
  rw [y1] at b1
  by_cases h : ρ.2.1 60033 = 0
  · exact t_wq121im0 hv ρ k1 ⟨hF.1, fcn (wn_129 (p := 121) (q := 121) rfl et_121 b0 b1 (by rw [h]; decide +kernel)) (fcn (decide_eq_true h) (fcn (decide_eq_true h.symm) (fcn (decide_eq_false (show ¬ ρ.2.1 60033 = 1 by rw [h]; decide)) (fcn (decide_eq_false (show ¬ (1 : Int64) = ρ.2.1 60033 by rw [h]; decide)) (fcn (decide_eq_false (show ¬ ρ.2.1 60033 = 2 by rw [h]; decide)) (fcn (decide_eq_false (show ¬ (2 : Int64) = ρ.2.1 60033 by rw [h]; decide)) (hF.2)))))))⟩ hI k4
  have n0 := h
  clear h
  by_cases h : ρ.2.1 60033 = 1
  · exact t_wq121im1 hv ρ k1 ⟨hF.1, fcn (wn_129 (p := 121) (q := 121) rfl et_121 b0 b1 (by rw [h]; decide +kernel)) (fcn (decide_eq_false (show ¬ ρ.2.1 60033 = 0 by rw [h]; decide)) (fcn (decide_eq_false (show ¬ (0 : Int64) = ρ.2.1 60033 by rw [h]; decide)) (fcn (decide_eq_true h) (fcn (decide_eq_true h.symm) (fcn (decide_eq_false (show ¬ ρ.2.1 60033 = 2 by rw [h]; decide)) (fcn (decide_eq_false (show ¬ (2 : Int64) = ρ.2.1 60033 by rw [h]; decide)) (hF.2)))))))⟩ hI k4
  have n1 := h
  clear h
  by_cases h : ρ.2.1 60033 = 2
  · exact t_wq121im2 hv ρ k1 ⟨hF.1, fcn (wn_129 (p := 121) (q := 121) rfl et_121 b0 b1 (by rw [h]; decide +kernel)) (fcn (decide_eq_false (show ¬ ρ.2.1 60033 = 0 by rw [h]; decide)) (fcn (decide_eq_false (show ¬ (0 : Int64) = ρ.2.1 60033 by rw [h]; decide)) (fcn (decide_eq_false (show ¬ ρ.2.1 60033 = 1 by rw [h]; decide)) (fcn (decide_eq_false (show ¬ (1 : Int64) = ρ.2.1 60033 by rw [h]; decide)) (fcn (decide_eq_true h) (fcn (decide_eq_true h.symm) (hF.2)))))))⟩ hI k4
  have n2 := h
  clear h
  have w0 : ¬ (ρ.2.1 60033).toInt = 0 := fun q => n0 (Int64.toInt_inj.mp q)
  have w1 : ¬ (ρ.2.1 60033).toInt = 1 := fun q => n1 (Int64.toInt_inj.mp q)
  have w2 : ¬ (ρ.2.1 60033).toInt = 2 := fun q => n2 (Int64.toInt_inj.mp q)
  by_cases s : (ρ.2.1 60033).toInt < 0
  · exact t_wq121inl hv ρ k1 ⟨hF.1, fcn (dl_lt (x := ρ.2.1 60033) (y := 0) s) (fcn (decide_eq_false n0) (fcn (decide_eq_false (fun q => n0 q.symm)) (fcn (decide_eq_false n1) (fcn (decide_eq_false (fun q => n1 q.symm)) (fcn (decide_eq_false n2) (fcn (decide_eq_false (fun q => n2 q.symm)) (hF.2)))))))⟩ hI k4
  · exact t_wq121inh hv ρ k1 ⟨hF.1, fcn (dl_lt (x := 2) (y := ρ.2.1 60033) (show (2 : Int) < _ by omega)) (fcn (decide_eq_false n0) (fcn (decide_eq_false (fun q => n0 q.symm)) (fcn (decide_eq_false n1) (fcn (decide_eq_false (fun q => n1 q.symm)) (fcn (decide_eq_false n2) (fcn (decide_eq_false (fun q => n2 q.symm)) (hF.2)))))))⟩ hI k4
theorem t_wq121 {X : pX} {ρ0 : sR} (hv : vok X ρ0) : CUTOK X kR zWP c_wn4 8 ρ0 q_wq121 := t_wq121i hv
theorem e_wp121 : frun kR [] (cpl1 zWP (c_wp4 121) [q_wq121]) (cpl2 zWP (c_wp4 121) [q_wq121]) (cleaf kR zWP (c_wp4 121) [q_wq121]) 300 65536 (isatP ((c_wp4 121).2.2.2.1) (c_wp4 121).2.2.2.2.2.2.2.1) (c_wp4 121).2.2.2.2.2.2.2.1 (sin0 mt_all (c_wp4 121).1.1 8 (c_wp4 121).2.1.1 (foot zWP (c_wp4 121).2.2.1.1)) (sin0 mt_all (c_wp4 121).1.2.1 8 (c_wp4 121).2.1.2 (foot zWP (c_wp4 121).2.2.1.2)) = true := by decide +kernel
theorem s_wp121 {X : pX} : SREL X pF pdfl mt_all kR zWP (c_wp4 121) := SREL_QC kR_x kR_0 (Cs := []) (fun C hC => by cases hC) (d := 8) rfl (c_wp4_f 121) (Q := [q_wq121]) (fun ρ0 hv => fun q hq => by
    simp only [List.mem_cons, List.not_mem_nil, or_false] at hq
    rw [hq]; exact (t_wq121 hv : CUTOK X kR zWP c_wn4 8 ρ0 q_wq121)) (QC_run 300 e_wp121)
