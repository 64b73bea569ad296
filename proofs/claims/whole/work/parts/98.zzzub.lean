set_option maxRecDepth 20000
/-! ===== the sum of a bank: sumOf, the class alone ===== -/
noncomputable def c_skI : sC := ((213, 284, 4), ([tr 79, .arg 60032], [.int 0]), ([79], []), [((2, .arg 60032, .int 0), false), ((2, .int 1022, .arg 60032), false)], ([60128, 60160, 60016], []), (some (.arg 60016), some (.int 0)), [((114, .add (.arg 60016) (.elem (.arg 1444) (.int 0)), .arg 60032), true)], ([], []))
theorem c_skI_f : cfine zKB 65536 c_skI = true := by decide +kernel
noncomputable def zf98zzzub_0 : sQ × Bool := ((114, .add (.arg 60128) (.elem (.arg 1444) (.int 0)), .arg 60160), true)
noncomputable def zf98zzzub_1 : sQ × Bool := ((2, .arg 60128, .int 0), false)
noncomputable def zf98zzzub_2 : sQ × Bool := ((2, .int 65535, .arg 60128), false)
noncomputable def zf98zzzub_3 : sQ × Bool := ((2, .arg 60160, .int 0), false)
noncomputable def zf98zzzub_4 : sQ × Bool := ((2, .arg 60032, .arg 60160), false)
noncomputable def zf98zzzub_5 : sQ × Bool := ((2, .arg 60032, .int 0), false)
noncomputable def zf98zzzub_6 : sQ × Bool := ((2, .int 1022, .arg 60032), false)
noncomputable def q_skIL : sCut := ((fr 0 213 9 [(0, tr 79), (2, .arg 60128), (3, .arg 60032), (4, .arg 60160)] [], [fBot], 3), (fr 0 284 0 [(0, .int 0)] [], [fBot], 3), [zf98zzzub_0, zf98zzzub_1, zf98zzzub_2, zf98zzzub_3, zf98zzzub_4, zf98zzzub_5, zf98zzzub_6], [])
noncomputable def zf98zzzub_7 : sQ × Bool := ((2, .sub (.arg 60032) (.arg 60160), .arg 64032), true)
noncomputable def q_skILL : sCut := ((fr 0 213 9 [(0, tr 79), (2, .arg 60128), (3, .arg 60032), (4, .arg 60160)] [], [fBot], 3), (fr 0 284 0 [(0, .int 0)] [], [fBot], 3), [zf98zzzub_7, zf98zzzub_0, zf98zzzub_1, zf98zzzub_2, zf98zzzub_3, zf98zzzub_4, zf98zzzub_5, zf98zzzub_6], [])
noncomputable def q_skILT : sCut := ((fr 0 213 9 [(0, tr 79), (2, .arg 60128), (3, .arg 60032), (4, .arg 60160)] [], [fBot], 3), (fr 0 284 0 [(0, .int 0)] [], [fBot], 3), [zf98zzzub_7, zf98zzzub_3, zf98zzzub_4, zf98zzzub_5, zf98zzzub_6], [])
noncomputable def zf98zzzub_8 : sQ × Bool := ((0, .sub (.arg 60032) (.arg 60160), .arg 64032), true)
noncomputable def q_skILE : sCut := ((fr 0 213 9 [(0, tr 79), (2, .arg 60128), (3, .arg 60032), (4, .arg 60160)] [], [fBot], 3), (fr 0 284 0 [(0, .int 0)] [], [fBot], 3), [zf98zzzub_8, zf98zzzub_0, zf98zzzub_1, zf98zzzub_2, zf98zzzub_3, zf98zzzub_4, zf98zzzub_5, zf98zzzub_6], [])
noncomputable def q_skILEe : sCut := ((fr 0 213 9 [(0, tr 79), (2, .arg 60128), (3, .arg 60032), (4, .arg 60160)] [], [fBot], 3), (fr 0 284 0 [(0, .int 0)] [], [fBot], 3), [((2, .arg 60160, .arg 60032), false), ((114, .add (.arg 60128) (.elem (.arg 1444) (.int 0)), .arg 60032), true), zf98zzzub_8, zf98zzzub_0, zf98zzzub_1, zf98zzzub_2, zf98zzzub_3, zf98zzzub_4, zf98zzzub_5, zf98zzzub_6], [])
theorem k_skILEe : cbody kR [] (cpl1 zKB c_skI []) (cpl2 zKB c_skI []) (cleaf kR zKB c_skI []) 150 true true q_skILEe.2.2.1 q_skILEe.2.2.2 (cst zKB c_skI.2.2.1.1 q_skILEe.1) (cst zKB c_skI.2.2.1.2 q_skILEe.2.1) = true := by decide +kernel
theorem t_skILEe {X : pX} {ρ0 : sR} (hv : vok X ρ0) (hk_ : CUTOK X kR zKB c_skI 3 ρ0 q_skILL) : CUTOK X kR zKB c_skI 3 ρ0 q_skILEe := CUT_run kR_x kR_0 (Cs := []) (fun C hC => by cases hC) c_skI_f (Q := []) hv (fun q hq => by cases hq) 150 (b1 := true) (b2 := true) k_skILEe
noncomputable def q_skILEn : sCut := ((fr 0 213 9 [(0, tr 79), (2, .arg 60128), (3, .arg 60032), (4, .arg 60160)] [], [fBot], 3), (fr 0 284 0 [(0, .int 0)] [], [fBot], 3), [((2, .arg 60160, .arg 60032), true), ((2, .sub (.arg 60032) (.add (.arg 60160) (.int 1)), .arg 64032), true), ((2, .add (.arg 60160) (.int 1), .int 0), false), ((2, .arg 60032, .add (.arg 60160) (.int 1)), false), ((2, .int 1021, .arg 60160), false), zf98zzzub_8, zf98zzzub_0, zf98zzzub_1, zf98zzzub_2, zf98zzzub_3, zf98zzzub_4, zf98zzzub_5, zf98zzzub_6], [])
noncomputable def w_skILEn : List (sCut × List (Nat × sT) × List (Nat × sT × List (sT × sT))) := [(q_skILT, [(60128, .op2 .iand (.op2 .ixor (.op2 .ixor (.op2 .ixor (.op2 .ishl (.arg 60128) (.int 8)) (.op2 .ishl (.op2 .ixor (.op2 .ixor (.op2 .iushr (.arg 60128) (.int 8)) (.elem (.arg 1444) (.arg 60160))) (.op2 .iushr (.op2 .ixor (.op2 .iushr (.arg 60128) (.int 8)) (.elem (.arg 1444) (.arg 60160))) (.int 4))) (.int 12))) (.op2 .ishl (.op2 .ixor (.op2 .ixor (.op2 .iushr (.arg 60128) (.int 8)) (.elem (.arg 1444) (.arg 60160))) (.op2 .iushr (.op2 .ixor (.op2 .iushr (.arg 60128) (.int 8)) (.elem (.arg 1444) (.arg 60160))) (.int 4))) (.int 5))) (.op2 .ixor (.op2 .ixor (.op2 .iushr (.arg 60128) (.int 8)) (.elem (.arg 1444) (.arg 60160))) (.op2 .iushr (.op2 .ixor (.op2 .iushr (.arg 60128) (.int 8)) (.elem (.arg 1444) (.arg 60160))) (.int 4)))) (.int 65535)), (60160, .add (.arg 60160) (.int 1))], [])]
theorem k_skILEn : cbody kR [] (cpl1 zKB c_skI [q_skILT]) (cpl2 zKB c_skI [q_skILT]) (cleafB kR zKB c_skI w_skILEn) 150 true false q_skILEn.2.2.1 q_skILEn.2.2.2 (cst zKB c_skI.2.2.1.1 q_skILEn.1) (cst zKB c_skI.2.2.1.2 q_skILEn.2.1) = true := by decide +kernel
theorem t_skILEn {X : pX} {ρ0 : sR} (hv : vok X ρ0) (hk_ : CUTOK X kR zKB c_skI 3 ρ0 q_skILL) : CUTOK X kR zKB c_skI 3 ρ0 q_skILEn := CUTOK_AT (fun ρ k1 hF hI k4 => AT_of (q := q_skILEn) rfl rfl (SEM_runB kR_x kR_0 (Cs := []) (fun C hC => by cases hC) c_skI_f (Q := w_skILEn) hv 150 (b1 := true) (b2 := false) k_skILEn k1 hF hI k4 (fun p hp ρ3 m1 m2 m3 m4 m5 m6 => by
  rw [List.mem_singleton.mp hp] at m2 m3 m5 m6 ⊢
  have t1 : ρ3.1 60128 = crc (ρ.1 60128) (ρ.2.2.1 1444 (ρ.1 60160).toNatClampNeg) := congrArg Prod.fst (m5 _ (List.mem_cons_self))
  have t2 : ρ3.1 60160 = ρ.1 60160 + 1 := congrArg Prod.fst (m5 _ (List.mem_cons_of_mem _ (List.mem_cons_self)))
  have eB : ρ3.2.2.1 1444 = ρ.2.2.1 1444 := (m4.2 1444 (by decide) (by decide)).1.trans (k4.2 1444 (by decide) (by decide)).1.symm
  have i0 : (0 : Int) ≤ (ρ.1 60160).toInt := ri_lf (x := ρ.1 60160) (y := 0) (hF.2 _ (List.mem_cons_of_mem _ (List.mem_cons_of_mem _ (List.mem_cons_of_mem _ (List.mem_cons_of_mem _ (List.mem_cons_of_mem _ (List.mem_cons_of_mem _ (List.mem_cons_of_mem _ (List.mem_cons_of_mem _ (List.mem_cons_of_mem _ (List.mem_cons_self)))))))))))
  have i1 : (ρ.1 60160).toInt < (ρ.1 60032).toInt := ri_lt (x := ρ.1 60160) (y := ρ.1 60032) (hF.2 _ (List.mem_cons_self))
  have e1 : (ρ.1 60032).toInt ≤ 1022 := ri_lf (x := 1022) (y := ρ.1 60032) (hF.2 _ (List.mem_cons_of_mem _ (List.mem_cons_of_mem _ (List.mem_cons_of_mem _ (List.mem_cons_of_mem _ (List.mem_cons_of_mem _ (List.mem_cons_of_mem _ (List.mem_cons_of_mem _ (List.mem_cons_of_mem _ (List.mem_cons_of_mem _ (List.mem_cons_of_mem _ (List.mem_cons_of_mem _ (List.mem_cons_of_mem _ (List.mem_cons_self))))))))))))))
  have a1 : (0 : Int) ≤ (ρ.1 60128).toInt := ri_lf (x := ρ.1 60128) (y := 0) (hF.2 _ (List.mem_cons_of_mem _ (List.mem_cons_of_mem _ (List.mem_cons_of_mem _ (List.mem_cons_of_mem _ (List.mem_cons_of_mem _ (List.mem_cons_of_mem _ (List.mem_cons_of_mem _ (List.mem_cons_self)))))))))
  have a2 : (ρ.1 60128).toInt ≤ 65535 := ri_lf (x := 65535) (y := ρ.1 60128) (hF.2 _ (List.mem_cons_of_mem _ (List.mem_cons_of_mem _ (List.mem_cons_of_mem _ (List.mem_cons_of_mem _ (List.mem_cons_of_mem _ (List.mem_cons_of_mem _ (List.mem_cons_of_mem _ (List.mem_cons_of_mem _ (List.mem_cons_self))))))))))
  have hb : 0 ≤ (ρ.2.2.1 1444 (ρ.1 60160).toInt.toNat).toInt ∧ (ρ.2.2.1 1444 (ρ.1 60160).toInt.toNat).toInt ≤ 255 := hF.1.2 1444 (.arg 60160) (0, 255) rfl
  have hc : crc (ρ.1 60128) (ρ.2.2.1 1444 (ρ.1 60160).toInt.toNat) = crm (ρ.1 60128) (ρ.2.2.1 1444 (ρ.1 60160).toInt.toNat) := crc_eq (xb_small (k := 16) a1 (by show _ < (65536 : Int); omega)) (xb_small (k := 8) hb.1 (by show _ < (256 : Int); omega))
  have t1 : ρ3.1 60128 = crm (ρ.1 60128) (ρ.2.2.1 1444 (ρ.1 60160).toInt.toNat) := t1.trans hc
  have h4 := Int32.toInt_inj.mp ((k114 (by decide)).mp (hF.2 _ (List.mem_cons_of_mem _ (List.mem_cons_of_mem _ (List.mem_cons_of_mem _ (List.mem_cons_of_mem _ (List.mem_cons_of_mem _ (List.mem_cons_of_mem _ (List.mem_cons_self)))))))))
  have es : (ρ.1 60160 + 1).toInt.toNat = (ρ.1 60160).toInt.toNat + 1 := by
    rw [s_add (y := 1) (by show _ ≤ _ + (1 : Int); omega) (by show _ + (1 : Int) ≤ _; omega)]
    show ((ρ.1 60160).toInt + 1).toNat = _
    omega
  have hl := crm_lt (s := ρ.1 60128) (b := ρ.2.2.1 1444 (ρ.1 60160).toInt.toNat)
  rw [← t1] at hl
  have x4 : sc X ρ3 (114, .add (.arg 60128) (.elem (.arg 1444) (.int 0)), .arg 60160) = true := (k114 (by decide)).mpr (by
    rw [eB, t2, es, t1, h4]
    rfl)
  have x5 : sc X ρ3 (2, .arg 60128, .int 0) = false := di_lf (x := ρ3.1 60128) (y := 0) hl.1
  have x6 : sc X ρ3 (2, .int 65535, .arg 60128) = false := di_lf (x := 65535) (y := ρ3.1 60128) (show _ ≤ (65535 : Int) by omega)
  exact hk_ ρ3 m1 ⟨m2.1, fcn (m2.2 _ (List.mem_cons_self)) (fcn (x4) (fcn (x5) (fcn (x6) (fcn (m2.2 _ (List.mem_cons_of_mem _ (List.mem_cons_self))) (fcn (m2.2 _ (List.mem_cons_of_mem _ (List.mem_cons_of_mem _ (List.mem_cons_self)))) (fcn (m2.2 _ (List.mem_cons_of_mem _ (List.mem_cons_of_mem _ (List.mem_cons_of_mem _ (List.mem_cons_self))))) (fcn (m2.2 _ (List.mem_cons_of_mem _ (List.mem_cons_of_mem _ (List.mem_cons_of_mem _ (List.mem_cons_of_mem _ (List.mem_cons_self)))))) (fun f hf => by cases hf))))))))⟩ m3 m4)))
theorem t_skILE {X : pX} {ρ0 : sR} (hv : vok X ρ0) (hk_ : CUTOK X kR zKB c_skI 3 ρ0 q_skILL) : CUTOK X kR zKB c_skI 3 ρ0 q_skILE := fun ρ k1 hF hI k4 => by
  have i0 : (0 : Int) ≤ (ρ.1 60160).toInt := ri_lf (x := ρ.1 60160) (y := 0) (hF.2 _ (List.mem_cons_of_mem _ (List.mem_cons_of_mem _ (List.mem_cons_of_mem _ (List.mem_cons_of_mem _ (List.mem_cons_self))))))
  have i1 : (ρ.1 60160).toInt ≤ (ρ.1 60032).toInt := ri_lf (x := ρ.1 60032) (y := ρ.1 60160) (hF.2 _ (List.mem_cons_of_mem _ (List.mem_cons_of_mem _ (List.mem_cons_of_mem _ (List.mem_cons_of_mem _ (List.mem_cons_of_mem _ (List.mem_cons_self)))))))
  have e1 : (ρ.1 60032).toInt ≤ 1022 := ri_lf (x := 1022) (y := ρ.1 60032) (hF.2 _ (List.mem_cons_of_mem _ (List.mem_cons_of_mem _ (List.mem_cons_of_mem _ (List.mem_cons_of_mem _ (List.mem_cons_of_mem _ (List.mem_cons_of_mem _ (List.mem_cons_of_mem _ (List.mem_cons_self)))))))))
  by_cases hl : (ρ.1 60160).toInt < (ρ.1 60032).toInt
  case neg =>
    have z : ρ.1 60160 = ρ.1 60032 := Int32.toInt_inj.mp (by omega)
    exact t_skILEe hv hk_ ρ k1 ⟨hF.1, fcn (di_lf (x := ρ.1 60160) (y := ρ.1 60032) (by omega)) (fcn ((k114e (by decide) (by decide) (by decide)).mpr (by rw [← z]; exact (k114 (by decide)).mp (hF.2 _ (List.mem_cons_of_mem _ (List.mem_cons_self))))) (hF.2))⟩ hI k4
  have es : (ρ.1 60160 + 1).toInt = (ρ.1 60160).toInt + 1 := s_add (y := 1) (by show _ ≤ _ + (1 : Int); omega) (by show _ + (1 : Int) ≤ _; omega)
  have em : (ρ.1 60032 - ρ.1 60160).toInt = (ρ.1 60032).toInt - (ρ.1 60160).toInt := i_of (i_sb (i_s _) (i_s _)) (by omega) (by omega)
  have en : (ρ.1 60032 - (ρ.1 60160 + 1)).toInt = (ρ.1 60032).toInt - (ρ.1 60160 + 1).toInt := i_of (i_sb (i_s _) (i_s _)) (by omega) (by omega)
  have hg : ρ.1 60032 - ρ.1 60160 = ρ.1 64032 := of_decide_eq_true (hF.2 _ (List.mem_cons_self))
  exact t_skILEn hv hk_ ρ k1 ⟨hF.1, fcn (di_lt (x := ρ.1 60160) (y := ρ.1 60032) hl) (fcn (di_lt (x := ρ.1 60032 - (ρ.1 60160 + 1)) (y := ρ.1 64032) (by rw [← hg, em, en]; omega)) (fcn (di_lf (x := ρ.1 60160 + 1) (y := 0) (by rw [es]; show (0 : Int) ≤ _; omega)) (fcn (di_lf (x := ρ.1 60032) (y := ρ.1 60160 + 1) (by rw [es]; omega)) (fcn (di_lf (x := 1021) (y := ρ.1 60160) (show _ ≤ (1021 : Int) by omega)) (hF.2)))))⟩ hI k4
theorem t_skIL {X : pX} {ρ0 : sR} (hv : vok X ρ0) : CUTOK X kR zKB c_skI 3 ρ0 q_skIL := CUT_again (g := 64032) (mt := .sub (.arg 60032) (.arg 60160)) kR_x (by decide +kernel) (by decide) (by decide) (by decide) (by decide +kernel) (by decide +kernel) (by decide +kernel) (by decide +kernel) (by decide +kernel) (fun ρ0 hv hk => t_skILE hv hk) ρ0 hv
noncomputable def zf98zzzub_9 : sQ × Bool := ((0, .arg 60128, .int 0), true)
noncomputable def q_skI0T : sCut := ((fr 0 213 9 [(0, tr 79), (2, .arg 60128), (3, .arg 60032), (4, .arg 60160)] [], [fBot], 3), (fr 0 284 0 [(0, .int 0)] [], [fBot], 3), [((0, .arg 60160, .int 0), true), zf98zzzub_9, zf98zzzub_5, zf98zzzub_6], [])
noncomputable def q_skI0 : sCut := ((fr 0 213 0 [(0, tr 79), (1, .arg 60032)] [], [fBot], 3), (fr 0 284 0 [(0, .int 0)] [], [fBot], 3), [zf98zzzub_5, zf98zzzub_6], [])
noncomputable def w_skI0 : List (sCut × List (Nat × sT) × List (Nat × sT × List (sT × sT))) := [(q_skI0T, [], [])]
theorem k_skI0 : cbody kR [] (cpl1 zKB c_skI [q_skI0T]) (cpl2 zKB c_skI [q_skI0T]) (cleafB kR zKB c_skI w_skI0) 60 true false q_skI0.2.2.1 q_skI0.2.2.2 (cst zKB c_skI.2.2.1.1 q_skI0.1) (cst zKB c_skI.2.2.1.2 q_skI0.2.1) = true := by decide +kernel
theorem t_skI0 {X : pX} {ρ0 : sR} (hv : vok X ρ0) : CUTOK X kR zKB c_skI 3 ρ0 q_skI0 := CUTOK_AT (fun ρ k1 hF hI k4 => AT_of (q := q_skI0) rfl rfl (SEM_runB kR_x kR_0 (Cs := []) (fun C hC => by cases hC) c_skI_f (Q := w_skI0) hv 60 (b1 := true) (b2 := false) k_skI0 k1 hF hI k4 (fun p hp ρ3 m1 m2 m3 m4 m5 m6 => by
  rw [List.mem_singleton.mp hp] at m2 m3 m5 m6 ⊢
  have z1 : ρ3.1 60160 = 0 := of_decide_eq_true (m2.2 _ (List.mem_cons_self))
  have z2 : ρ3.1 60128 = 0 := of_decide_eq_true (m2.2 _ (List.mem_cons_of_mem _ (List.mem_cons_self)))
  have e0 : (0 : Int) ≤ (ρ3.1 60032).toInt := ri_lf (x := ρ3.1 60032) (y := 0) (m2.2 _ (List.mem_cons_of_mem _ (List.mem_cons_of_mem _ (List.mem_cons_self))))
  have x4 : sc X ρ3 (114, .add (.arg 60128) (.elem (.arg 1444) (.int 0)), .arg 60160) = true := (k114 (by decide)).mpr (by rw [z1, z2]; rfl)
  exact t_skIL hv ρ3 m1 ⟨m2.1, fcn (x4) (fcn (di_lf (x := ρ3.1 60128) (y := 0) (by rw [z2]; exact Int.le_refl _)) (fcn (di_lf (x := 65535) (y := ρ3.1 60128) (by rw [z2]; decide)) (fcn (di_lf (x := ρ3.1 60160) (y := 0) (by rw [z1]; exact Int.le_refl _)) (fcn (di_lf (x := ρ3.1 60032) (y := ρ3.1 60160) (by rw [z1]; exact e0)) (fcn (m2.2 _ (List.mem_cons_of_mem _ (List.mem_cons_of_mem _ (List.mem_cons_self)))) (fcn (m2.2 _ (List.mem_cons_of_mem _ (List.mem_cons_of_mem _ (List.mem_cons_of_mem _ (List.mem_cons_self))))) (fun f hf => by cases hf)))))))⟩ m3 m4)))
theorem e_skI : frun kR [] (cpl1 zKB c_skI [q_skI0]) (cpl2 zKB c_skI [q_skI0]) (cleaf kR zKB c_skI [q_skI0]) 10 65536 (isatP (c_skI.2.2.2.1) c_skI.2.2.2.2.2.2.2.1) c_skI.2.2.2.2.2.2.2.1 (sin0 mt_all c_skI.1.1 3 c_skI.2.1.1 (foot zKB c_skI.2.2.1.1)) (sin0 mt_all c_skI.1.2.1 3 c_skI.2.1.2 (foot zKB c_skI.2.2.1.2)) = true := by decide +kernel
theorem s_skI {X : pX} : SREL X pF pdfl mt_all kR zKB c_skI := SREL_QC kR_x kR_0 (Cs := []) (fun C hC => by cases hC) (d := 3) rfl c_skI_f (Q := [q_skI0]) (fun ρ0 hv => fun q hq => by
    simp only [List.mem_cons, List.not_mem_nil, or_false] at hq
    rw [hq]; exact t_skI0 hv) (QC_run 10 e_skI)
theorem by_64 {x : Int32} (h0 : 0 ≤ x.toInt) : x.toInt64.toBitVec.toNat = x.toBitVec.toNat := by
  have e : x.toInt64.toInt = x.toInt := Int32.toInt_toInt64 x
  have a : x.toInt64.toInt = x.toInt64.toBitVec.toInt := rfl
  have b : x.toInt = x.toBitVec.toInt := rfl
  have l1 := x.toInt64.toBitVec.isLt
  have l2 := x.toBitVec.isLt
  rw [a, b, BitVec.toInt_eq_toNat_cond, BitVec.toInt_eq_toNat_cond] at e
  rw [b, BitVec.toInt_eq_toNat_cond] at h0
  split at e <;> split at e <;> split at h0 <;> omega
theorem by_32 {x : Int32} (h0 : 0 ≤ x.toInt) : x.toInt = (x.toBitVec.toNat : Int) := by
  have b : x.toInt = x.toBitVec.toInt := rfl
  have l2 := x.toBitVec.isLt
  rw [b, BitVec.toInt_eq_toNat_cond] at h0 ⊢
  split at h0 <;> omega
theorem by_lo {x : Int32} {y : Int64} (h0 : 0 ≤ x.toInt) : (s2 .iand (s1 .l2i (s2 .lushr (s1 .i2l (x, y)) (0, 0))) (255, 0)).1 = (s2 .iand (x, y) (255, 0)).1 := by
  apply Int32.toBitVec_inj.mp
  have e1 : (s2 .iand (s1 .l2i (s2 .lushr (s1 .i2l (x, y)) (0, 0))) (255, 0)).1.toBitVec = ((x.toInt64.toBitVec >>> 0).signExtend 32) &&& 255#32 := rfl
  have e2 : (s2 .iand (x, y) (255, 0)).1.toBitVec = x.toBitVec &&& 255#32 := rfl
  rw [e1, e2]
  apply BitVec.eq_of_toNat_eq
  have l2 := x.toBitVec.isLt
  rw [BitVec.toNat_and, BitVec.toNat_and, BitVec.signExtend_eq_setWidth_of_le _ (by decide), BitVec.toNat_setWidth, BitVec.toNat_ushiftRight, by_64 h0, Nat.shiftRight_zero, Nat.mod_eq_of_lt l2]
theorem by_hi {x : Int32} {y : Int64} (h0 : 0 ≤ x.toInt) (h1 : x.toInt ≤ 65535) : (s2 .iand (s1 .l2i (s2 .lushr (s1 .i2l (x, y)) (8, 0))) (255, 0)).1 = (s2 .ishr (x, y) (8, 0)).1 ∧ 0 ≤ (s2 .ishr (x, y) (8, 0)).1.toInt ∧ (s2 .ishr (x, y) (8, 0)).1.toInt ≤ 255 := by
  have e1 : (s2 .iand (s1 .l2i (s2 .lushr (s1 .i2l (x, y)) (8, 0))) (255, 0)).1.toBitVec = ((x.toInt64.toBitVec >>> 8).signExtend 32) &&& 255#32 := rfl
  have e2 : (s2 .ishr (x, y) (8, 0)).1.toBitVec = x.toBitVec.sshiftRight 8 := rfl
  have hn := by_32 h0
  have l2 := x.toBitVec.isLt
  have hm : x.toBitVec.msb = false := by
    rw [BitVec.msb_eq_false_iff_two_mul_lt]
    omega
  have e3 : x.toBitVec.sshiftRight 8 = x.toBitVec >>> 8 := BitVec.sshiftRight_eq_of_msb_false hm
  have n3 : (x.toBitVec >>> 8).toNat = x.toBitVec.toNat / 256 := by rw [BitVec.toNat_ushiftRight, Nat.shiftRight_eq_div_pow]
  have q : (s2 .iand (s1 .l2i (s2 .lushr (s1 .i2l (x, y)) (8, 0))) (255, 0)).1 = (s2 .ishr (x, y) (8, 0)).1 := by
    apply Int32.toBitVec_inj.mp
    rw [e1, e2, e3]
    apply BitVec.eq_of_toNat_eq
    rw [BitVec.toNat_and, BitVec.signExtend_eq_setWidth_of_le _ (by decide), BitVec.toNat_setWidth, BitVec.toNat_ushiftRight, by_64 h0, n3, Nat.shiftRight_eq_div_pow]
    rw [Nat.mod_eq_of_lt (by omega), show (255#32).toNat = 2 ^ 8 - 1 from rfl, Nat.and_two_pow_sub_one_eq_mod]
    omega
  have g : (s2 .ishr (x, y) (8, 0)).1.toInt = (x.toBitVec.toNat / 256 : Nat) := by
    show (s2 .ishr (x, y) (8, 0)).1.toBitVec.toInt = _
    rw [e2, e3, BitVec.toInt_eq_toNat_cond, n3]
    split <;> omega
  refine ⟨q, ?_, ?_⟩ <;> rw [g] <;> omega
theorem im_e {X : pX} {ρ3 ρ : sR} (m : ∀ w ∈ ([(1444, .arg 1444, [])] : List (Nat × sT × List (sT × sT))), ∀ j, bden X ρ3 (.arg w.1) j = aden X ρ w.2.1 w.2.2 j) : ρ3.2.2.1 1444 = ρ.2.2.1 1444 := funext (fun j => Value.int.inj (m (1444, .arg 1444, []) List.mem_cons_self j))
noncomputable def zf98zzzub_10 : sQ × Bool := ((2, .arg 1338, .int 8), false)
noncomputable def zf98zzzub_11 : sQ × Bool := ((2, .int 948, .arg 1338), false)
noncomputable def zf98zzzub_12 : sQ × Bool := ((0, .arg 6368, .arg 1280), true)
noncomputable def zf98zzzub_13 : sQ × Bool := ((2, .arg 1298, .int 0), false)
noncomputable def zf98zzzub_14 : sQ × Bool := ((2, .int 24, .arg 1298), false)
noncomputable def zf98zzzub_15 : sQ × Bool := ((2, .arg 1330, .int 0), false)
noncomputable def zf98zzzub_16 : sQ × Bool := ((2, .int 144, .arg 1330), false)
noncomputable def q_bsv : sCut := ((fr 0 97 72 [(0, tr 75), (3, .arg 60016)] [], [fr 0 96 44 [] [], fBot], 7), (fr 0 293 146 [(0, tr 219), (1, .arg 1308), (2, .arg 60192), (5, .mul (.arg 1308) (.int 1024)), (6, .add (.mul (.arg 1308) (.int 1024)) (.arg 1338)), (7, .add (.arg 1338) (.int 2)), (8, .arg 60016)] [], [fBot], 8), [zf98zzzub_10, zf98zzzub_11, ((0, .arg 1666, .int 0), true), ((0, .arg 1698, .int 1), true), ((0, .arg 1762, .int 1), true), zf98zzzub_12, ((0, .arg 1370, .int 0), true), zf98zzzub_13, zf98zzzub_14, zf98zzzub_15, zf98zzzub_16], i_bs)
noncomputable def zf98zzzub_17 : sQ × Bool := ((2, .int 1000, .arg 1338), false)
noncomputable def q_bsvm : sCut := ((fr 0 97 72 [(0, tr 75), (3, .arg 60016)] [], [fr 0 96 44 [] [], fBot], 7), (fr 0 293 146 [(0, tr 219), (1, .arg 1308), (2, .arg 60192), (5, .mul (.arg 1308) (.int 1024)), (6, .add (.mul (.arg 1308) (.int 1024)) (.arg 1338)), (7, .add (.arg 1338) (.int 2)), (8, .arg 60016)] [], [fBot], 8), [((0, .op2 .iand (.op1 .l2i (.op2 .lushr (.op1 .i2l (.arg 60016)) (.int 0))) (.int 255), .op2 .iand (.arg 60016) (.int 255)), true), ((0, .op2 .iand (.op1 .l2i (.op2 .lushr (.op1 .i2l (.arg 60016)) (.int 8))) (.int 255), .op2 .ishr (.arg 60016) (.int 8)), true), ((2, .op2 .ishr (.arg 60016) (.int 8), .int 0), false), ((2, .int 255, .op2 .ishr (.arg 60016) (.int 8)), false), zf98zzzub_17, zf98zzzub_10, zf98zzzub_11, ((0, .arg 1666, .int 0), true), ((0, .arg 1698, .int 1), true), ((0, .arg 1762, .int 1), true), zf98zzzub_12, ((0, .arg 1370, .int 0), true), zf98zzzub_13, zf98zzzub_14, zf98zzzub_15, zf98zzzub_16], i_bs)
theorem k_bsvm : cbody kR [(zKB, c_bb0), (zKB, c_bb1)] (cpl1 zKB c_bs0 []) (cpl2 zKB c_bs0 []) (cleaf kR zKB c_bs0 []) 400 true true q_bsvm.2.2.1 q_bsvm.2.2.2 (cst zKB c_bs0.2.2.1.1 q_bsvm.1) (cst zKB c_bs0.2.2.1.2 q_bsvm.2.1) = true := by decide +kernel
theorem t_bsvm {X : pX} {ρ0 : sR} (hv : vok X ρ0) : CUTOK X kR zKB c_bs0 8 ρ0 q_bsvm := CUT_run kR_x kR_0 (Cs := [(zKB, c_bb0), (zKB, c_bb1)]) (fun C hC => by
    simp only [List.mem_cons, List.not_mem_nil, or_false] at hC
    rcases hC with hC | hC
    · rw [hC]; exact s_bb0
    · rw [hC]; exact s_bb1) c_bs0_f (Q := []) hv (fun q hq => by cases hq) 400 (b1 := true) (b2 := true) k_bsvm
theorem t_bsv {X : pX} {ρ0 : sR} (hv : vok X ρ0) : CUTOK X kR zKB c_bs0 8 ρ0 q_bsv := CUT_mono (t_bsvm hv) (fun ρ hF hI => ⟨⟨hF.1, by
  have y0 : 0 ≤ (ρ.1 60016).toInt ∧ (ρ.1 60016).toInt ≤ 65535 := hF.1.1 60016 (0, 65535) rfl
  have z1 : (ρ.1 1338).toInt ≤ 948 := ri_lf (x := 948) (y := ρ.1 1338) (hF.2 _ (List.mem_cons_of_mem _ (List.mem_cons_self)))
  obtain ⟨b1, b2, b3⟩ := by_hi (x := ρ.1 60016) (y := ρ.2.1 60016) y0.1 y0.2
  exact fcn (decide_eq_true (by_lo (x := ρ.1 60016) (y := ρ.2.1 60016) y0.1)) (fcn (decide_eq_true b1) (fcn (di_lf (x := (sd X ρ (.op2 .ishr (.arg 60016) (.int 8))).1) (y := 0) b2) (fcn (di_lf (x := 255) (y := (sd X ρ (.op2 .ishr (.arg 60016) (.int 8))).1) b3) (fcn (di_lf (x := 1000) (y := ρ.1 1338) (show _ ≤ (1000 : Int) by omega)) (hF.2)))))⟩, hI⟩)
noncomputable def zf98zzzub_18 : sQ × Bool := ((114, .add (.arg 60016) (.elem (.arg 1444) (.int 0)), .arg 1338), true)
noncomputable def q_bsui : sCut := ((fr 0 97 72 [(0, tr 75), (3, .arg 60016)] [], [fr 0 96 44 [] [], fBot], 7), (fr 0 288 4 [(1, .arg 60004), (2, .arg 60224), (3, .arg 60256)] [], [fr 0 293 143 [(0, tr 219), (1, .arg 1308), (2, .arg 60192), (5, .mul (.arg 1308) (.int 1024)), (6, .add (.mul (.arg 1308) (.int 1024)) (.arg 1338)), (7, .add (.arg 1338) (.int 2)), (9, .arg 60160)] [], fBot], 7), [zf98zzzub_18, zf98zzzub_10, zf98zzzub_11, ((0, .arg 1666, .int 0), true), ((0, .arg 1698, .int 1), true), ((0, .arg 1762, .int 1), true), zf98zzzub_12, ((0, .arg 1370, .int 0), true), zf98zzzub_13, zf98zzzub_14, zf98zzzub_15, zf98zzzub_16], i_bs)
noncomputable def q_bsuP : sCut := ((fr 0 97 72 [(0, tr 75), (3, .arg 60016)] [], [fr 0 96 44 [] [], fBot], 7), (fr 0 293 134 [(0, tr 219), (1, .arg 1308), (2, .arg 60192), (5, .mul (.arg 1308) (.int 1024)), (6, .add (.mul (.arg 1308) (.int 1024)) (.arg 1338)), (7, .add (.arg 1338) (.int 2)), (8, .arg 60128), (9, .arg 60160)] [], [fBot], 8), [zf98zzzub_18, zf98zzzub_10, zf98zzzub_11, ((0, .arg 1666, .int 0), true), ((0, .arg 1698, .int 1), true), ((0, .arg 1762, .int 1), true), zf98zzzub_12, ((0, .arg 1370, .int 0), true), zf98zzzub_13, zf98zzzub_14, zf98zzzub_15, zf98zzzub_16], i_bs)
noncomputable def zf98zzzub_19 : sQ × Bool := ((2, .arg 60256, .int 0), false)
noncomputable def zf98zzzub_20 : sQ × Bool := ((2, .int 7, .arg 60256), false)
noncomputable def q_bsuE : sCut := ((fr 0 97 72 [(0, tr 75), (3, .arg 60016)] [], [fr 0 96 44 [] [], fBot], 7), (fr 0 288 4 [(1, .arg 60004), (2, .arg 60224), (3, .arg 60256)] [], [fr 0 293 143 [(0, tr 219), (1, .arg 1308), (2, .arg 60192), (5, .mul (.arg 1308) (.int 1024)), (6, .add (.mul (.arg 1308) (.int 1024)) (.arg 1338)), (7, .add (.arg 1338) (.int 2)), (9, .arg 60160)] [], fBot], 7), [((0, .op2 .iand (.op2 .ishr (.arg 60224) (.int 15)) (.int 1), .op2 .iand (.op2 .ishr (.arg 60004) (.arg 60256)) (.int 1)), true), zf98zzzub_19, zf98zzzub_20, zf98zzzub_18, zf98zzzub_10, zf98zzzub_11, ((0, .arg 1666, .int 0), true), ((0, .arg 1698, .int 1), true), ((0, .arg 1762, .int 1), true), zf98zzzub_12, ((0, .arg 1370, .int 0), true), zf98zzzub_13, zf98zzzub_14, zf98zzzub_15, zf98zzzub_16], i_bs)
noncomputable def w_bsuE : List (sCut × List (Nat × sT) × List (Nat × sT × List (sT × sT))) := [(q_bsui, [(60224, .op2 .iand (.op2 .ishl (.arg 60224) (.int 1)) (.int 65535)), (60004, .arg 60004), (60256, .add (.arg 60256) (.int (-1))), (60160, .arg 60160), (1338, .arg 1338), (60016, .arg 60016)], [(1444, .arg 1444, [])])]
theorem k_bsuE : cbody kR [] (cpl1 zKB c_bs0 (w_bsuE.map (fun p => p.1))) (cpl2 zKB c_bs0 (w_bsuE.map (fun p => p.1))) (cleafB kR zKB c_bs0 w_bsuE) 150 false true q_bsuE.2.2.1 q_bsuE.2.2.2 (cst zKB c_bs0.2.2.1.1 q_bsuE.1) (cst zKB c_bs0.2.2.1.2 q_bsuE.2.1) = true := by decide +kernel
noncomputable def q_bsuN : sCut := ((fr 0 97 72 [(0, tr 75), (3, .arg 60016)] [], [fr 0 96 44 [] [], fBot], 7), (fr 0 288 4 [(1, .arg 60004), (2, .arg 60224), (3, .arg 60256)] [], [fr 0 293 143 [(0, tr 219), (1, .arg 1308), (2, .arg 60192), (5, .mul (.arg 1308) (.int 1024)), (6, .add (.mul (.arg 1308) (.int 1024)) (.arg 1338)), (7, .add (.arg 1338) (.int 2)), (9, .arg 60160)] [], fBot], 7), [((0, .op2 .iand (.op2 .ishr (.arg 60224) (.int 15)) (.int 1), .op2 .iand (.op2 .ishr (.arg 60004) (.arg 60256)) (.int 1)), false), zf98zzzub_19, zf98zzzub_20, zf98zzzub_18, zf98zzzub_10, zf98zzzub_11, ((0, .arg 1666, .int 0), true), ((0, .arg 1698, .int 1), true), ((0, .arg 1762, .int 1), true), zf98zzzub_12, ((0, .arg 1370, .int 0), true), zf98zzzub_13, zf98zzzub_14, zf98zzzub_15, zf98zzzub_16], i_bs)
noncomputable def w_bsuN : List (sCut × List (Nat × sT) × List (Nat × sT × List (sT × sT))) := [(q_bsui, [(60224, .op2 .ixor (.op2 .iand (.op2 .ishl (.arg 60224) (.int 1)) (.int 65535)) (.int 4129)), (60004, .arg 60004), (60256, .add (.arg 60256) (.int (-1))), (60160, .arg 60160), (1338, .arg 1338), (60016, .arg 60016)], [(1444, .arg 1444, [])])]
theorem k_bsuN : cbody kR [] (cpl1 zKB c_bs0 (w_bsuN.map (fun p => p.1))) (cpl2 zKB c_bs0 (w_bsuN.map (fun p => p.1))) (cleafB kR zKB c_bs0 w_bsuN) 150 false true q_bsuN.2.2.1 q_bsuN.2.2.2 (cst zKB c_bs0.2.2.1.1 q_bsuN.1) (cst zKB c_bs0.2.2.1.2 q_bsuN.2.1) = true := by decide +kernel
noncomputable def q_bsuC : sCut := ((fr 0 97 72 [(0, tr 75), (3, .arg 60016)] [], [fr 0 96 44 [] [], fBot], 7), (fr 0 288 4 [(1, .arg 60004), (2, .arg 60224), (3, .arg 60256)] [], [fr 0 293 143 [(0, tr 219), (1, .arg 1308), (2, .arg 60192), (5, .mul (.arg 1308) (.int 1024)), (6, .add (.mul (.arg 1308) (.int 1024)) (.arg 1338)), (7, .add (.arg 1338) (.int 2)), (9, .arg 60160)] [], fBot], 7), [((2, .arg 60256, .int 0), true), zf98zzzub_18, zf98zzzub_10, zf98zzzub_11, ((0, .arg 1666, .int 0), true), ((0, .arg 1698, .int 1), true), ((0, .arg 1762, .int 1), true), zf98zzzub_12, ((0, .arg 1370, .int 0), true), zf98zzzub_13, zf98zzzub_14, zf98zzzub_15, zf98zzzub_16], i_bs)
noncomputable def w_bsuC : List (sCut × List (Nat × sT) × List (Nat × sT × List (sT × sT))) := [(q_bsuP, [(60128, .arg 60224), (60160, .add (.arg 60160) (.int 1)), (1338, .arg 1338), (60016, .arg 60016)], [(1444, .arg 1444, [])])]
theorem k_bsuC : cbody kR [] (cpl1 zKB c_bs0 (w_bsuC.map (fun p => p.1))) (cpl2 zKB c_bs0 (w_bsuC.map (fun p => p.1))) (cleafB kR zKB c_bs0 w_bsuC) 150 false true q_bsuC.2.2.1 q_bsuC.2.2.2 (cst zKB c_bs0.2.2.1.1 q_bsuC.1) (cst zKB c_bs0.2.2.1.2 q_bsuC.2.1) = true := by decide +kernel
theorem i_bsu {X : pX} {ρ0 : sR} (hv : vok X ρ0) : ∀ (m : Nat) (ρ : sR), m ≤ 8 → kok X ρ kR → fok X ρ q_bsui.2.2.1 → iok X ρ i_bs → agrM 65536 c_bs0.2.2.2.2.1.1 c_bs0.2.2.2.2.1.2 ρ ρ0 → (ρ.1 60256).toInt = (m : Int) - 1 → (∀ ρ3 : sR, kok X ρ3 kR → fok X ρ3 q_bsuP.2.2.1 → iok X ρ3 i_bs → agrM 65536 c_bs0.2.2.2.2.1.1 c_bs0.2.2.2.2.1.2 ρ3 ρ0 → ρ3.1 60160 = ρ.1 60160 + 1 → ρ3.1 1338 = ρ.1 1338 → ρ3.1 60016 = ρ.1 60016 → ρ3.2.2.1 1444 = ρ.2.2.1 1444 → ρ3.1 60128 = crf m (ρ.1 60004) (ρ.1 60224) → AT X zKB c_bs0 8 ρ0 ρ3 q_bsuP) → AT X zKB c_bs0 8 ρ0 ρ q_bsui := by
  intro m
  induction m with
  | zero =>
    intro ρ hm k1 k2 k3 k4 hk kont
    refine AT_of (q := q_bsuC) rfl rfl (SEM_runB kR_x kR_0 (Cs := []) (fun C hC => by cases hC) c_bs0_f (Q := w_bsuC) hv 150 (b1 := false) (b2 := true) k_bsuC k1 (fkc ?_ k2) k3 k4 (fun p hp ρ3 m1 m2 m3 m4 m5 m6 => ?_))
    · exact decide_eq_true (lt_i (show (ρ.1 60256).toInt < (0 : Int32).toInt by rw [hk]; decide))
    · rw [List.mem_singleton.mp hp] at m2 m3 m5 m6 ⊢
      exact kont ρ3 m1 m2 m3 m4 (tj1 (m5 _ (List.mem_cons_of_mem _ (List.mem_cons_self)))) (tj1 (m5 _ (List.mem_cons_of_mem _ (List.mem_cons_of_mem _ (List.mem_cons_self))))) (tj1 (m5 _ (List.mem_cons_of_mem _ (List.mem_cons_of_mem _ (List.mem_cons_of_mem _ (List.mem_cons_self)))))) (im_e m6) (tj1 (m5 _ (List.mem_cons_self)))
  | succ m ih =>
    intro ρ hm k1 k2 k3 k4 hk kont
    have hK : ρ.1 60256 = Int32.ofNat m := by
      apply Int32.toInt_inj.mp
      rw [hk, Int32.toInt_ofNat_of_lt (by omega)]
      omega
    have f1 : sc X ρ (2, .arg 60256, .int 0) = false := decide_eq_false (nlt_i (show (0 : Int32).toInt ≤ (ρ.1 60256).toInt by rw [hk]; show (0 : Int) ≤ _; omega))
    have f2 : sc X ρ (2, .int 7, .arg 60256) = false := decide_eq_false (nlt_i (show (ρ.1 60256).toInt ≤ (7 : Int32).toInt by rw [hk]; show _ ≤ (7 : Int); omega))
    have hk1 : (ρ.1 60256 + (-1)).toInt = (m : Int) - 1 := by
      have e1 : (-1 : Int32).toInt = -1 := rfl
      rw [s_add (by rw [hk, e1]; omega) (by rw [hk, e1]; omega), hk, e1]
      omega
    by_cases hc : (ρ.1 60224 >>> ((15 : Int32) &&& 31)) &&& 1 = (ρ.1 60004 >>> (ρ.1 60256 &&& 31)) &&& 1
    · refine AT_of (q := q_bsuE) rfl rfl (SEM_runB kR_x kR_0 (Cs := []) (fun C hC => by cases hC) c_bs0_f (Q := w_bsuE) hv 150 (b1 := false) (b2 := true) k_bsuE k1 (fkc (decide_eq_true hc) (fkc f1 (fkc f2 k2))) k3 k4 (fun p hp ρ3 m1 m2 m3 m4 m5 m6 => ?_))
      rw [List.mem_singleton.mp hp] at m2 m3 m5 m6 ⊢
      have y9 := im_e m6
      have y3 : ρ3.1 60224 = crb (ρ.1 60004) (Int32.ofNat m) (ρ.1 60224) := by
        rw [tj1 (m5 _ (List.mem_cons_self)), ← hK]
        unfold crb
        rw [if_pos hc]
        rfl
      have y4 : ρ3.1 60004 = ρ.1 60004 := tj1 (m5 _ (List.mem_cons_of_mem _ (List.mem_cons_self)))
      have y5 := tj1 (m5 _ (List.mem_cons_of_mem _ (List.mem_cons_of_mem _ (List.mem_cons_self))))
      have y6 : ρ3.1 60160 = ρ.1 60160 := tj1 (m5 _ (List.mem_cons_of_mem _ (List.mem_cons_of_mem _ (List.mem_cons_of_mem _ (List.mem_cons_self)))))
      have y7 : ρ3.1 1338 = ρ.1 1338 := tj1 (m5 _ (List.mem_cons_of_mem _ (List.mem_cons_of_mem _ (List.mem_cons_of_mem _ (List.mem_cons_of_mem _ (List.mem_cons_self))))))
      have y8 : ρ3.1 60016 = ρ.1 60016 := tj1 (m5 _ (List.mem_cons_of_mem _ (List.mem_cons_of_mem _ (List.mem_cons_of_mem _ (List.mem_cons_of_mem _ (List.mem_cons_of_mem _ (List.mem_cons_self)))))))
      exact ih ρ3 (by omega) m1 m2 m3 m4 (by rw [y5]; exact hk1) (fun ρ4 n1 n2 n2i n3 n4 n5 n7 n8 n6 => kont ρ4 n1 n2 n2i n3 (by rw [n4, y6]) (n5.trans y7) (n7.trans y8) (n8.trans y9) (by rw [n6, y4, y3]; rfl))
    · refine AT_of (q := q_bsuN) rfl rfl (SEM_runB kR_x kR_0 (Cs := []) (fun C hC => by cases hC) c_bs0_f (Q := w_bsuN) hv 150 (b1 := false) (b2 := true) k_bsuN k1 (fkc (decide_eq_false hc) (fkc f1 (fkc f2 k2))) k3 k4 (fun p hp ρ3 m1 m2 m3 m4 m5 m6 => ?_))
      rw [List.mem_singleton.mp hp] at m2 m3 m5 m6 ⊢
      have y9 := im_e m6
      have y3 : ρ3.1 60224 = crb (ρ.1 60004) (Int32.ofNat m) (ρ.1 60224) := by
        rw [tj1 (m5 _ (List.mem_cons_self)), ← hK]
        unfold crb
        rw [if_neg hc]
        rfl
      have y4 : ρ3.1 60004 = ρ.1 60004 := tj1 (m5 _ (List.mem_cons_of_mem _ (List.mem_cons_self)))
      have y5 := tj1 (m5 _ (List.mem_cons_of_mem _ (List.mem_cons_of_mem _ (List.mem_cons_self))))
      have y6 : ρ3.1 60160 = ρ.1 60160 := tj1 (m5 _ (List.mem_cons_of_mem _ (List.mem_cons_of_mem _ (List.mem_cons_of_mem _ (List.mem_cons_self)))))
      have y7 : ρ3.1 1338 = ρ.1 1338 := tj1 (m5 _ (List.mem_cons_of_mem _ (List.mem_cons_of_mem _ (List.mem_cons_of_mem _ (List.mem_cons_of_mem _ (List.mem_cons_self))))))
      have y8 : ρ3.1 60016 = ρ.1 60016 := tj1 (m5 _ (List.mem_cons_of_mem _ (List.mem_cons_of_mem _ (List.mem_cons_of_mem _ (List.mem_cons_of_mem _ (List.mem_cons_of_mem _ (List.mem_cons_self)))))))
      exact ih ρ3 (by omega) m1 m2 m3 m4 (by rw [y5]; exact hk1) (fun ρ4 n1 n2 n2i n3 n4 n5 n7 n8 n6 => kont ρ4 n1 n2 n2i n3 (by rw [n4, y6]) (n5.trans y7) (n7.trans y8) (n8.trans y9) (by rw [n6, y4, y3]; rfl))
theorem k114t {X : pX} {ρ : sR} {b s : Nat} {n : sT} (hs : s % 2 = 0) (hn : sk n = 0) (hb : b % 2 = 0) : sc X ρ (114, .add (.arg s) (.elem (.arg b) (.int 0)), n) = true ↔ (ρ.1 s).toInt = (acrc (ρ.2.2.1 b) (sd X ρ n).1.toInt.toNat).toInt := by
  have e1 : sn X ρ n = (sd X ρ n).1.toInt := by unfold sn; rw [if_neg (by rw [hn]; decide)]
  have e2 : (if sk (.arg s) = 1 then (sd X ρ (.arg s)).2.toInt else (sd X ρ (.arg s)).1.toInt) = (ρ.1 s).toInt := by rw [if_neg (show ¬ sk (.arg s) = 1 by show ¬ s % 2 = 1; omega)]; rfl
  show apred 114 [(aarr ρ (.arg s), if sk (.arg s) = 1 then (sd X ρ (.arg s)).2.toInt else (sd X ρ (.arg s)).1.toInt), (aarr ρ (.elem (.arg b) (.int 0)), _)] (sn X ρ n) = true ↔ _
  rw [aar_b hb, e1, e2]
  exact decide_eq_true_iff
theorem pv_a {ρ : sR} (d0 : 0 ≤ (ρ.1 1308).toInt) (d4 : (ρ.1 1308).toInt < 4) : (ρ.1 1308 * 1024).toInt = (ρ.1 1308).toInt * 1024 := i_of (i_ml (i_s _) (show (1024 : Int32) = Int32.ofInt 1024 from rfl)) (by omega) (by omega)
theorem pv_b {ρ : sR} (d0 : 0 ≤ (ρ.1 1308).toInt) (d4 : (ρ.1 1308).toInt < 4) (z0 : 0 ≤ (ρ.1 1338).toInt) (z1 : (ρ.1 1338).toInt ≤ 948) : (ρ.1 1308 * 1024 + ρ.1 1338).toInt = (ρ.1 1308).toInt * 1024 + (ρ.1 1338).toInt := i_of (i_ad (i_ml (i_s _) (show (1024 : Int32) = Int32.ofInt 1024 from rfl)) (i_s _)) (by omega) (by omega)
theorem pv_c {ρ : sR} (d0 : 0 ≤ (ρ.1 1308).toInt) (d4 : (ρ.1 1308).toInt < 4) (p0 : (ρ.1 1308).toInt * 1024 ≤ (ρ.1 60160).toInt) (p1 : (ρ.1 60160).toInt ≤ 4096) : (ρ.1 60160 - ρ.1 1308 * 1024).toInt = (ρ.1 60160).toInt - (ρ.1 1308).toInt * 1024 := i_of (i_sb (i_s _) (i_ml (i_s _) (show (1024 : Int32) = Int32.ofInt 1024 from rfl))) (by omega) (by omega)
theorem frd_f {X : pX} {ρ : sR} {c : Int32} (h : 0 ≤ (ρ.1 60160 + ρ.1 1308 * c).toInt) : sc X ρ (2, .add (.arg 60160) (.mul (.arg 1308) (.int c)), .int 0) = false := di_lf (x := ρ.1 60160 + ρ.1 1308 * c) (y := 0) h
theorem frd_t {X : pX} {ρ : sR} {c n : Int32} (h : (ρ.1 60160 + ρ.1 1308 * c).toInt < n.toInt) : sc X ρ (2, .add (.arg 60160) (.mul (.arg 1308) (.int c)), .int n) = true := di_lt (x := ρ.1 60160 + ρ.1 1308 * c) (y := n) h
theorem pv_d {ρ : sR} : ρ.1 60160 + ρ.1 1308 * (-1024) = ρ.1 60160 - ρ.1 1308 * 1024 := by grind
noncomputable def zf98zzzub_21 : sQ × Bool := ((114, .add (.arg 60128) (.elem (.arg 1444) (.int 0)), .sub (.arg 60160) (.mul (.arg 1308) (.int 1024))), true)
noncomputable def zf98zzzub_22 : sQ × Bool := ((2, .arg 60160, .mul (.arg 1308) (.int 1024)), false)
noncomputable def zf98zzzub_23 : sQ × Bool := ((2, .add (.mul (.arg 1308) (.int 1024)) (.arg 1338), .arg 60160), false)
noncomputable def q_bsuL : sCut := ((fr 0 97 72 [(0, tr 75), (3, .arg 60016)] [], [fr 0 96 44 [] [], fBot], 7), (fr 0 293 134 [(0, tr 219), (1, .arg 1308), (2, .arg 60192), (5, .mul (.arg 1308) (.int 1024)), (6, .add (.mul (.arg 1308) (.int 1024)) (.arg 1338)), (7, .add (.arg 1338) (.int 2)), (8, .arg 60128), (9, .arg 60160)] [], [fBot], 8), [zf98zzzub_21, zf98zzzub_1, zf98zzzub_2, zf98zzzub_22, zf98zzzub_23, zf98zzzub_18, zf98zzzub_10, zf98zzzub_11, ((0, .arg 1666, .int 0), true), ((0, .arg 1698, .int 1), true), ((0, .arg 1762, .int 1), true), zf98zzzub_12, ((0, .arg 1370, .int 0), true), zf98zzzub_13, zf98zzzub_14, zf98zzzub_15, zf98zzzub_16], i_bs)
noncomputable def q_bsuLL : sCut := ((fr 0 97 72 [(0, tr 75), (3, .arg 60016)] [], [fr 0 96 44 [] [], fBot], 7), (fr 0 293 134 [(0, tr 219), (1, .arg 1308), (2, .arg 60192), (5, .mul (.arg 1308) (.int 1024)), (6, .add (.mul (.arg 1308) (.int 1024)) (.arg 1338)), (7, .add (.arg 1338) (.int 2)), (8, .arg 60128), (9, .arg 60160)] [], [fBot], 8), [((2, .sub (.add (.mul (.arg 1308) (.int 1024)) (.arg 1338)) (.arg 60160), .arg 64032), true), zf98zzzub_21, zf98zzzub_1, zf98zzzub_2, zf98zzzub_22, zf98zzzub_23, zf98zzzub_18, zf98zzzub_10, zf98zzzub_11, ((0, .arg 1666, .int 0), true), ((0, .arg 1698, .int 1), true), ((0, .arg 1762, .int 1), true), zf98zzzub_12, ((0, .arg 1370, .int 0), true), zf98zzzub_13, zf98zzzub_14, zf98zzzub_15, zf98zzzub_16], i_bs)
noncomputable def zf98zzzub_24 : sQ × Bool := ((0, .sub (.add (.mul (.arg 1308) (.int 1024)) (.arg 1338)) (.arg 60160), .arg 64032), true)
noncomputable def q_bsuLE : sCut := ((fr 0 97 72 [(0, tr 75), (3, .arg 60016)] [], [fr 0 96 44 [] [], fBot], 7), (fr 0 293 134 [(0, tr 219), (1, .arg 1308), (2, .arg 60192), (5, .mul (.arg 1308) (.int 1024)), (6, .add (.mul (.arg 1308) (.int 1024)) (.arg 1338)), (7, .add (.arg 1338) (.int 2)), (8, .arg 60128), (9, .arg 60160)] [], [fBot], 8), [zf98zzzub_24, zf98zzzub_21, zf98zzzub_1, zf98zzzub_2, zf98zzzub_22, zf98zzzub_23, zf98zzzub_18, zf98zzzub_10, zf98zzzub_11, ((0, .arg 1666, .int 0), true), ((0, .arg 1698, .int 1), true), ((0, .arg 1762, .int 1), true), zf98zzzub_12, ((0, .arg 1370, .int 0), true), zf98zzzub_13, zf98zzzub_14, zf98zzzub_15, zf98zzzub_16], i_bs)
noncomputable def q_bsuLEe : sCut := ((fr 0 97 72 [(0, tr 75), (3, .arg 60016)] [], [fr 0 96 44 [] [], fBot], 7), (fr 0 293 134 [(0, tr 219), (1, .arg 1308), (2, .arg 60192), (5, .mul (.arg 1308) (.int 1024)), (6, .add (.mul (.arg 1308) (.int 1024)) (.arg 1338)), (7, .add (.arg 1338) (.int 2)), (8, .arg 60128), (9, .arg 60160)] [], [fBot], 8), [((2, .arg 60160, .add (.mul (.arg 1308) (.int 1024)) (.arg 1338)), false), ((0, .arg 60128, .arg 60016), true), zf98zzzub_24, zf98zzzub_21, zf98zzzub_1, zf98zzzub_2, zf98zzzub_22, zf98zzzub_23, zf98zzzub_18, zf98zzzub_10, zf98zzzub_11, ((0, .arg 1666, .int 0), true), ((0, .arg 1698, .int 1), true), ((0, .arg 1762, .int 1), true), zf98zzzub_12, ((0, .arg 1370, .int 0), true), zf98zzzub_13, zf98zzzub_14, zf98zzzub_15, zf98zzzub_16], i_bs)
theorem k_bsuLEe : cbody kR [] (cpl1 zKB c_bs0 [q_bsv]) (cpl2 zKB c_bs0 [q_bsv]) (cleaf kR zKB c_bs0 [q_bsv]) 150 false true q_bsuLEe.2.2.1 q_bsuLEe.2.2.2 (cst zKB c_bs0.2.2.1.1 q_bsuLEe.1) (cst zKB c_bs0.2.2.1.2 q_bsuLEe.2.1) = true := by decide +kernel
theorem t_bsuLEe {X : pX} {ρ0 : sR} (hv : vok X ρ0) (hk_ : CUTOK X kR zKB c_bs0 8 ρ0 q_bsuLL) : CUTOK X kR zKB c_bs0 8 ρ0 q_bsuLEe := CUT_run kR_x kR_0 (Cs := []) (fun C hC => by cases hC) c_bs0_f (Q := [q_bsv]) hv (fun q hq => by
    simp only [List.mem_cons, List.not_mem_nil, or_false] at hq
    rw [hq]; exact t_bsv hv) 150 (b1 := false) (b2 := true) k_bsuLEe
noncomputable def q_bsuLEn : sCut := ((fr 0 97 72 [(0, tr 75), (3, .arg 60016)] [], [fr 0 96 44 [] [], fBot], 7), (fr 0 293 134 [(0, tr 219), (1, .arg 1308), (2, .arg 60192), (5, .mul (.arg 1308) (.int 1024)), (6, .add (.mul (.arg 1308) (.int 1024)) (.arg 1338)), (7, .add (.arg 1338) (.int 2)), (8, .arg 60128), (9, .arg 60160)] [], [fBot], 8), [((2, .arg 60160, .add (.mul (.arg 1308) (.int 1024)) (.arg 1338)), true), zf98zzzub_3, ((2, .arg 60160, .int 4096), true), ((2, .add (.arg 60160) (.mul (.arg 1308) (.int (-1024))), .int 0), false), ((2, .add (.arg 60160) (.mul (.arg 1308) (.int (-1024))), .int 1024), true), zf98zzzub_24, zf98zzzub_21, zf98zzzub_1, zf98zzzub_2, zf98zzzub_22, zf98zzzub_23, zf98zzzub_18, zf98zzzub_10, zf98zzzub_11, ((0, .arg 1666, .int 0), true), ((0, .arg 1698, .int 1), true), ((0, .arg 1762, .int 1), true), zf98zzzub_12, ((0, .arg 1370, .int 0), true), zf98zzzub_13, zf98zzzub_14, zf98zzzub_15, zf98zzzub_16], i_bs)
noncomputable def w_bsuLEn : List (sCut × List (Nat × sT) × List (Nat × sT × List (sT × sT))) := [(q_bsui, [(60224, .arg 60128), (60004, .elem (.arg 1444) (.add (.arg 60160) (.mul (.arg 1308) (.int (-1024))))), (60256, .int 7), (60160, .arg 60160), (1338, .arg 1338), (60016, .arg 60016)], [(1444, .arg 1444, [])])]
theorem k_bsuLEn : cbody kR [] (cpl1 zKB c_bs0 [q_bsui]) (cpl2 zKB c_bs0 [q_bsui]) (cleafB kR zKB c_bs0 w_bsuLEn) 150 false true q_bsuLEn.2.2.1 q_bsuLEn.2.2.2 (cst zKB c_bs0.2.2.1.1 q_bsuLEn.1) (cst zKB c_bs0.2.2.1.2 q_bsuLEn.2.1) = true := by decide +kernel
theorem t_bsuLEn {X : pX} {ρ0 : sR} (hv : vok X ρ0) (hk_ : CUTOK X kR zKB c_bs0 8 ρ0 q_bsuLL) : CUTOK X kR zKB c_bs0 8 ρ0 q_bsuLEn := CUTOK_AT (fun ρ k1 hF hI k4 => AT_of (q := q_bsuLEn) rfl rfl (SEM_runB kR_x kR_0 (Cs := []) (fun C hC => by cases hC) c_bs0_f (Q := w_bsuLEn) hv 150 (b1 := false) (b2 := true) k_bsuLEn k1 hF hI k4 (fun p hp ρ3 m1 m2 m3 m4 m5 m6 => by
  rw [List.mem_singleton.mp hp] at m2 m3 m5 m6 ⊢
  have t3 : ρ3.1 60224 = ρ.1 60128 := congrArg Prod.fst (m5 _ (List.mem_cons_self))
  have t4 : ρ3.1 60004 = ρ.2.2.1 1444 (ρ.1 60160 + ρ.1 1308 * (-1024)).toInt.toNat := congrArg Prod.fst (m5 _ (List.mem_cons_of_mem _ (List.mem_cons_self)))
  have t5 : ρ3.1 60256 = 7 := congrArg Prod.fst (m5 _ (List.mem_cons_of_mem _ (List.mem_cons_of_mem _ (List.mem_cons_self))))
  have t6 : ρ3.1 60160 = ρ.1 60160 := congrArg Prod.fst (m5 _ (List.mem_cons_of_mem _ (List.mem_cons_of_mem _ (List.mem_cons_of_mem _ (List.mem_cons_self)))))
  have t7 : ρ3.1 1338 = ρ.1 1338 := congrArg Prod.fst (m5 _ (List.mem_cons_of_mem _ (List.mem_cons_of_mem _ (List.mem_cons_of_mem _ (List.mem_cons_of_mem _ (List.mem_cons_self))))))
  obtain ⟨d0, d4⟩ := d_r hF.1
  have z0 : (8 : Int) ≤ (ρ.1 1338).toInt := ri_lf (x := ρ.1 1338) (y := 8) (hF.2 _ (List.mem_cons_of_mem _ (List.mem_cons_of_mem _ (List.mem_cons_of_mem _ (List.mem_cons_of_mem _ (List.mem_cons_of_mem _ (List.mem_cons_of_mem _ (List.mem_cons_of_mem _ (List.mem_cons_of_mem _ (List.mem_cons_of_mem _ (List.mem_cons_of_mem _ (List.mem_cons_of_mem _ (List.mem_cons_of_mem _ (List.mem_cons_self))))))))))))))
  have z1 : (ρ.1 1338).toInt ≤ 948 := ri_lf (x := 948) (y := ρ.1 1338) (hF.2 _ (List.mem_cons_of_mem _ (List.mem_cons_of_mem _ (List.mem_cons_of_mem _ (List.mem_cons_of_mem _ (List.mem_cons_of_mem _ (List.mem_cons_of_mem _ (List.mem_cons_of_mem _ (List.mem_cons_of_mem _ (List.mem_cons_of_mem _ (List.mem_cons_of_mem _ (List.mem_cons_of_mem _ (List.mem_cons_of_mem _ (List.mem_cons_of_mem _ (List.mem_cons_self)))))))))))))))
  have ea := pv_a d0 d4
  have eb := pv_b d0 d4 (by omega) z1
  have p0 : (ρ.1 1308 * 1024).toInt ≤ (ρ.1 60160).toInt := ri_lf (x := ρ.1 60160) (y := ρ.1 1308 * 1024) (hF.2 _ (List.mem_cons_of_mem _ (List.mem_cons_of_mem _ (List.mem_cons_of_mem _ (List.mem_cons_of_mem _ (List.mem_cons_of_mem _ (List.mem_cons_of_mem _ (List.mem_cons_of_mem _ (List.mem_cons_of_mem _ (List.mem_cons_of_mem _ (List.mem_cons_self)))))))))))
  have p1 : (ρ.1 60160).toInt ≤ (ρ.1 1308 * 1024 + ρ.1 1338).toInt := ri_lf (x := ρ.1 1308 * 1024 + ρ.1 1338) (y := ρ.1 60160) (hF.2 _ (List.mem_cons_of_mem _ (List.mem_cons_of_mem _ (List.mem_cons_of_mem _ (List.mem_cons_of_mem _ (List.mem_cons_of_mem _ (List.mem_cons_of_mem _ (List.mem_cons_of_mem _ (List.mem_cons_of_mem _ (List.mem_cons_of_mem _ (List.mem_cons_of_mem _ (List.mem_cons_self))))))))))))
  rw [ea] at p0
  rw [eb] at p1
  have ec := pv_c d0 d4 p0 (by omega)
  have l1 : (ρ.1 60160).toInt < (ρ.1 1308 * 1024 + ρ.1 1338).toInt := ri_lt (x := ρ.1 60160) (y := ρ.1 1308 * 1024 + ρ.1 1338) (hF.2 _ (List.mem_cons_self))
  rw [eb] at l1
  have hg : ρ.1 1308 * 1024 + ρ.1 1338 - ρ.1 60160 = ρ.1 64032 := of_decide_eq_true (hF.2 _ (List.mem_cons_of_mem _ (List.mem_cons_of_mem _ (List.mem_cons_of_mem _ (List.mem_cons_of_mem _ (List.mem_cons_of_mem _ (List.mem_cons_self)))))))
  have h4 := Int32.toInt_inj.mp ((k114t (by decide) rfl (by decide)).mp (hF.2 _ (List.mem_cons_of_mem _ (List.mem_cons_of_mem _ (List.mem_cons_of_mem _ (List.mem_cons_of_mem _ (List.mem_cons_of_mem _ (List.mem_cons_of_mem _ (List.mem_cons_self)))))))))
  have h4 : ρ.1 60128 = acrc (ρ.2.2.1 1444) (ρ.1 60160 - ρ.1 1308 * 1024).toInt.toNat := h4
  have eC := im_e m6
  have eD : ρ3.1 1308 = ρ.1 1308 := (m4.1 1308 (by decide) (by decide)).1.trans (k4.1 1308 (by decide) (by decide)).1.symm
  refine AT_of (q := q_bsui) rfl rfl (i_bsu hv 8 ρ3 (by omega) m1 m2 m3 m4 (by rw [t5]; rfl) (fun ρ4 n1 n2 n2i n3 n4 n5 n7 n8 n6 => ?_))
  rw [t6] at n4
  rw [t7] at n5
  rw [t3, t4, crf_8, pv_d] at n6
  have eB : ρ4.2.2.1 1444 = ρ.2.2.1 1444 := n8.trans eC
  have eE : ρ4.1 1308 = ρ.1 1308 := (n3.1 1308 (by decide) (by decide)).1.trans (k4.1 1308 (by decide) (by decide)).1.symm
  have eG : ρ4.1 64032 = ρ.1 64032 := (n3.1 64032 (by decide) (by decide)).1.trans (k4.1 64032 (by decide) (by decide)).1.symm
  have es : (ρ.1 60160 + 1).toInt = (ρ.1 60160).toInt + 1 := s_add (y := 1) (by show _ ≤ _ + (1 : Int); omega) (by show _ + (1 : Int) ≤ _; omega)
  have em : (ρ.1 1308 * 1024 + ρ.1 1338 - ρ.1 60160).toInt = (ρ.1 1308).toInt * 1024 + (ρ.1 1338).toInt - (ρ.1 60160).toInt := i_of (i_sb (i_ad (i_ml (i_s _) (show (1024 : Int32) = Int32.ofInt 1024 from rfl)) (i_s _)) (i_s _)) (by omega) (by omega)
  have en : (ρ.1 1308 * 1024 + ρ.1 1338 - (ρ.1 60160 + 1)).toInt = (ρ.1 1308).toInt * 1024 + (ρ.1 1338).toInt - (ρ.1 60160 + 1).toInt := i_of (i_sb (i_ad (i_ml (i_s _) (show (1024 : Int32) = Int32.ofInt 1024 from rfl)) (i_s _)) (i_s _)) (by omega) (by omega)
  have ef : (ρ.1 60160 + 1 - ρ.1 1308 * 1024).toInt = (ρ.1 60160 + 1).toInt - (ρ.1 1308).toInt * 1024 := i_of (i_sb (i_s _) (i_ml (i_s _) (show (1024 : Int32) = Int32.ofInt 1024 from rfl))) (by omega) (by omega)
  have hl := crm_lt (s := ρ.1 60128) (b := ρ.2.2.1 1444 (ρ.1 60160 - ρ.1 1308 * 1024).toInt.toNat)
  rw [← n6] at hl
  have x0 : sc X ρ4 (2, .sub (.add (.mul (.arg 1308) (.int 1024)) (.arg 1338)) (.arg 60160), .arg 64032) = true := di_lt (x := ρ4.1 1308 * 1024 + ρ4.1 1338 - ρ4.1 60160) (y := ρ4.1 64032) (by rw [n4, n5, eG, eE, ← hg, em, en]; omega)
  have x4 : sc X ρ4 (114, .add (.arg 60128) (.elem (.arg 1444) (.int 0)), .sub (.arg 60160) (.mul (.arg 1308) (.int 1024))) = true := (k114t (by decide) rfl (by decide)).mpr (by
    show (ρ4.1 60128).toInt = (acrc (ρ4.2.2.1 1444) (ρ4.1 60160 - ρ4.1 1308 * 1024).toInt.toNat).toInt
    rw [eB, eE, n4, n6, ef, es, h4, show ((ρ.1 60160).toInt + 1 - (ρ.1 1308).toInt * 1024).toNat = (ρ.1 60160 - ρ.1 1308 * 1024).toInt.toNat + 1 by rw [ec]; omega]
    rfl)
  exact AT_of (q := q_bsuLL) rfl rfl (hk_ ρ4 n1 ⟨n2.1, fcn (x0) (fcn (x4) (fcn (di_lf (x := ρ4.1 60128) (y := 0) hl.1) (fcn (di_lf (x := 65535) (y := ρ4.1 60128) (show _ ≤ (65535 : Int) by omega)) (fcn (di_lf (x := ρ4.1 60160) (y := ρ4.1 1308 * 1024) (by rw [n4, eE, ea, es]; omega)) (fcn (di_lf (x := ρ4.1 1308 * 1024 + ρ4.1 1338) (y := ρ4.1 60160) (by rw [n4, n5, eE, eb, es]; omega)) (n2.2))))))⟩ n2i n3))))
theorem t_bsuLE {X : pX} {ρ0 : sR} (hv : vok X ρ0) (hk_ : CUTOK X kR zKB c_bs0 8 ρ0 q_bsuLL) : CUTOK X kR zKB c_bs0 8 ρ0 q_bsuLE := fun ρ k1 hF hI k4 => by
  obtain ⟨d0, d4⟩ := d_r hF.1
  have z0 : (8 : Int) ≤ (ρ.1 1338).toInt := ri_lf (x := ρ.1 1338) (y := 8) (hF.2 _ (List.mem_cons_of_mem _ (List.mem_cons_of_mem _ (List.mem_cons_of_mem _ (List.mem_cons_of_mem _ (List.mem_cons_of_mem _ (List.mem_cons_of_mem _ (List.mem_cons_of_mem _ (List.mem_cons_self)))))))))
  have z1 : (ρ.1 1338).toInt ≤ 948 := ri_lf (x := 948) (y := ρ.1 1338) (hF.2 _ (List.mem_cons_of_mem _ (List.mem_cons_of_mem _ (List.mem_cons_of_mem _ (List.mem_cons_of_mem _ (List.mem_cons_of_mem _ (List.mem_cons_of_mem _ (List.mem_cons_of_mem _ (List.mem_cons_of_mem _ (List.mem_cons_self))))))))))
  have ea := pv_a d0 d4
  have eb := pv_b d0 d4 (by omega) z1
  have p0 : (ρ.1 1308 * 1024).toInt ≤ (ρ.1 60160).toInt := ri_lf (x := ρ.1 60160) (y := ρ.1 1308 * 1024) (hF.2 _ (List.mem_cons_of_mem _ (List.mem_cons_of_mem _ (List.mem_cons_of_mem _ (List.mem_cons_of_mem _ (List.mem_cons_self))))))
  have p1 : (ρ.1 60160).toInt ≤ (ρ.1 1308 * 1024 + ρ.1 1338).toInt := ri_lf (x := ρ.1 1308 * 1024 + ρ.1 1338) (y := ρ.1 60160) (hF.2 _ (List.mem_cons_of_mem _ (List.mem_cons_of_mem _ (List.mem_cons_of_mem _ (List.mem_cons_of_mem _ (List.mem_cons_of_mem _ (List.mem_cons_self)))))))
  rw [ea] at p0
  rw [eb] at p1
  have ec := pv_c d0 d4 p0 (by omega)
  by_cases hl : (ρ.1 60160).toInt < (ρ.1 1308).toInt * 1024 + (ρ.1 1338).toInt
  case neg =>
    have h4 := (k114t (by decide) rfl (by decide)).mp (hF.2 _ (List.mem_cons_of_mem _ (List.mem_cons_self)))
    have h4 : (ρ.1 60128).toInt = (acrc (ρ.2.2.1 1444) (ρ.1 60160 - ρ.1 1308 * 1024).toInt.toNat).toInt := h4
    have h5 := (k114e (s := 60016) (n := 1338) (by decide) (by decide) (by decide)).mp (hF.2 _ (List.mem_cons_of_mem _ (List.mem_cons_of_mem _ (List.mem_cons_of_mem _ (List.mem_cons_of_mem _ (List.mem_cons_of_mem _ (List.mem_cons_of_mem _ (List.mem_cons_self))))))))
    rw [ec, show (ρ.1 60160).toInt - (ρ.1 1308).toInt * 1024 = (ρ.1 1338).toInt by omega] at h4
    exact t_bsuLEe hv hk_ ρ k1 ⟨hF.1, fcn (di_lf (x := ρ.1 60160) (y := ρ.1 1308 * 1024 + ρ.1 1338) (by rw [eb]; omega)) (fcn (decide_eq_true (show ρ.1 60128 = ρ.1 60016 from Int32.toInt_inj.mp (h4.trans h5.symm))) (hF.2))⟩ hI k4
  have u0 : 0 ≤ (ρ.1 60160 + ρ.1 1308 * (-1024)).toInt := by rw [pv_d, ec]; omega
  have u1 : (ρ.1 60160 + ρ.1 1308 * (-1024)).toInt < (1024 : Int32).toInt := by rw [pv_d, ec]; show _ < (1024 : Int); omega
  exact t_bsuLEn hv hk_ ρ k1 ⟨hF.1, fcn (di_lt (x := ρ.1 60160) (y := ρ.1 1308 * 1024 + ρ.1 1338) (by rw [eb]; exact hl)) (fcn (di_lf (x := ρ.1 60160) (y := 0) (show (0 : Int) ≤ _ by omega)) (fcn (di_lt (x := ρ.1 60160) (y := 4096) (show _ < (4096 : Int) by omega)) (fcn (frd_f u0) (fcn (frd_t u1) (hF.2)))))⟩ hI k4
theorem t_bsuL {X : pX} {ρ0 : sR} (hv : vok X ρ0) : CUTOK X kR zKB c_bs0 8 ρ0 q_bsuL := CUT_again (g := 64032) (mt := .sub (.add (.mul (.arg 1308) (.int 1024)) (.arg 1338)) (.arg 60160)) kR_x (by decide +kernel) (by decide) (by decide +kernel) (by decide) (by decide +kernel) (by decide +kernel) (by decide +kernel) (by decide +kernel) (by decide +kernel) (fun ρ0 hv hk => t_bsuLE hv hk) ρ0 hv
noncomputable def q_bsuT : sCut := ((fr 0 97 72 [(0, tr 75), (3, .arg 60016)] [], [fr 0 96 44 [] [], fBot], 7), (fr 0 293 134 [(0, tr 219), (1, .arg 1308), (2, .arg 60192), (5, .mul (.arg 1308) (.int 1024)), (6, .add (.mul (.arg 1308) (.int 1024)) (.arg 1338)), (7, .add (.arg 1338) (.int 2)), (8, .arg 60128), (9, .arg 60160)] [], [fBot], 8), [((0, .arg 60160, .mul (.arg 1308) (.int 1024)), true), zf98zzzub_9, zf98zzzub_18, zf98zzzub_10, zf98zzzub_11, ((0, .arg 1666, .int 0), true), ((0, .arg 1698, .int 1), true), ((0, .arg 1762, .int 1), true), zf98zzzub_12, ((0, .arg 1370, .int 0), true), zf98zzzub_13, zf98zzzub_14, zf98zzzub_15, zf98zzzub_16], i_bs)
theorem t_bsuT {X : pX} {ρ0 : sR} (hv : vok X ρ0) : CUTOK X kR zKB c_bs0 8 ρ0 q_bsuT := CUT_mono (t_bsuL hv) (fun ρ hF hI => ⟨⟨hF.1, by
  have z1 : ρ.1 60160 = ρ.1 1308 * 1024 := of_decide_eq_true (hF.2 _ (List.mem_cons_self))
  have z2 : ρ.1 60128 = 0 := of_decide_eq_true (hF.2 _ (List.mem_cons_of_mem _ (List.mem_cons_self)))
  have e0 : (8 : Int) ≤ (ρ.1 1338).toInt := ri_lf (x := ρ.1 1338) (y := 8) (hF.2 _ (List.mem_cons_of_mem _ (List.mem_cons_of_mem _ (List.mem_cons_of_mem _ (List.mem_cons_self)))))
  have e1 : (ρ.1 1338).toInt ≤ 948 := ri_lf (x := 948) (y := ρ.1 1338) (hF.2 _ (List.mem_cons_of_mem _ (List.mem_cons_of_mem _ (List.mem_cons_of_mem _ (List.mem_cons_of_mem _ (List.mem_cons_self))))))
  obtain ⟨d0, d4⟩ := d_r hF.1
  have eb := pv_b d0 d4 (by omega) e1
  have ea := pv_a d0 d4
  have x4 : sc X ρ (114, .add (.arg 60128) (.elem (.arg 1444) (.int 0)), .sub (.arg 60160) (.mul (.arg 1308) (.int 1024))) = true := (k114t (by decide) rfl (by decide)).mpr (by
    show (ρ.1 60128).toInt = (acrc (ρ.2.2.1 1444) (ρ.1 60160 - ρ.1 1308 * 1024).toInt.toNat).toInt
    rw [z1, z2, Int32.sub_self]
    rfl)
  exact fcn (x4) (fcn (di_lf (x := ρ.1 60128) (y := 0) (by rw [z2]; exact Int.le_refl _)) (fcn (di_lf (x := 65535) (y := ρ.1 60128) (by rw [z2]; decide)) (fcn (di_lf (x := ρ.1 60160) (y := ρ.1 1308 * 1024) (by rw [z1]; exact Int.le_refl _)) (fcn (di_lf (x := ρ.1 1308 * 1024 + ρ.1 1338) (y := ρ.1 60160) (by rw [z1, eb, ea]; omega)) (fun f hf => hF.2 f (List.mem_cons_of_mem _ (List.mem_cons_of_mem _ hf)))))))⟩, hI⟩)
noncomputable def q_bsw : sCut := ((fr 0 97 72 [(0, tr 75), (3, .arg 60016)] [], [fr 0 96 44 [] [], fBot], 7), (fr 0 293 130 [(0, tr 219), (1, .arg 1308), (2, .arg 60192), (5, .mul (.arg 1308) (.int 1024)), (6, .add (.mul (.arg 1308) (.int 1024)) (.arg 1338)), (7, .add (.arg 1338) (.int 2))] [], [fBot], 8), [zf98zzzub_18, zf98zzzub_10, zf98zzzub_11, ((0, .arg 1666, .int 0), true), ((0, .arg 1698, .int 1), true), ((0, .arg 1762, .int 1), true), zf98zzzub_12, ((0, .arg 1370, .int 0), true), zf98zzzub_13, zf98zzzub_14, zf98zzzub_15, zf98zzzub_16], i_bs)
theorem k_bsw : cbody kR [] (cpl1 zKB c_bs0 [q_bsuT]) (cpl2 zKB c_bs0 [q_bsuT]) (cleaf kR zKB c_bs0 [q_bsuT]) 60 false true q_bsw.2.2.1 q_bsw.2.2.2 (cst zKB c_bs0.2.2.1.1 q_bsw.1) (cst zKB c_bs0.2.2.1.2 q_bsw.2.1) = true := by decide +kernel
theorem t_bsw {X : pX} {ρ0 : sR} (hv : vok X ρ0) : CUTOK X kR zKB c_bs0 8 ρ0 q_bsw := CUT_run kR_x kR_0 (Cs := []) (fun C hC => by cases hC) c_bs0_f (Q := [q_bsuT]) hv (fun q hq => by
    simp only [List.mem_cons, List.not_mem_nil, or_false] at hq
    rw [hq]; exact t_bsuT hv) 60 (b1 := false) (b2 := true) k_bsw
noncomputable def q_bss : sCut := ((fr 0 97 66 [(0, tr 75)] [], [fr 0 96 44 [] [], fBot], 7), (fr 0 293 130 [(0, tr 219), (1, .arg 1308), (2, .arg 60192), (5, .mul (.arg 1308) (.int 1024)), (6, .add (.mul (.arg 1308) (.int 1024)) (.arg 1338)), (7, .add (.arg 1338) (.int 2))] [], [fBot], 8), [zf98zzzub_10, zf98zzzub_11, ((0, .arg 1666, .int 0), true), ((0, .arg 1698, .int 1), true), ((0, .arg 1762, .int 1), true), zf98zzzub_12, ((0, .arg 1370, .int 0), true), zf98zzzub_13, zf98zzzub_14, zf98zzzub_15, zf98zzzub_16], i_bs)
noncomputable def q_bssm : sCut := ((fr 0 97 66 [(0, tr 75)] [], [fr 0 96 44 [] [], fBot], 7), (fr 0 293 130 [(0, tr 219), (1, .arg 1308), (2, .arg 60192), (5, .mul (.arg 1308) (.int 1024)), (6, .add (.mul (.arg 1308) (.int 1024)) (.arg 1338)), (7, .add (.arg 1338) (.int 2))] [], [fBot], 8), [((2, .arg 1338, .int 0), false), ((2, .int 1022, .arg 1338), false), zf98zzzub_10, zf98zzzub_11, ((0, .arg 1666, .int 0), true), ((0, .arg 1698, .int 1), true), ((0, .arg 1762, .int 1), true), zf98zzzub_12, ((0, .arg 1370, .int 0), true), zf98zzzub_13, zf98zzzub_14, zf98zzzub_15, zf98zzzub_16], i_bs)
theorem k_bssm : cbody kR [(zKB, c_skI)] (cpl1 zKB c_bs0 [q_bsw]) (cpl2 zKB c_bs0 [q_bsw]) (cleaf kR zKB c_bs0 [q_bsw]) 60 true false q_bssm.2.2.1 q_bssm.2.2.2 (cst zKB c_bs0.2.2.1.1 q_bssm.1) (cst zKB c_bs0.2.2.1.2 q_bssm.2.1) = true := by decide +kernel
theorem t_bssm {X : pX} {ρ0 : sR} (hv : vok X ρ0) : CUTOK X kR zKB c_bs0 8 ρ0 q_bssm := CUT_run kR_x kR_0 (Cs := [(zKB, c_skI)]) (fun C hC => by rw [List.mem_singleton.mp hC]; exact s_skI) c_bs0_f (Q := [q_bsw]) hv (fun q hq => by
    simp only [List.mem_cons, List.not_mem_nil, or_false] at hq
    rw [hq]; exact t_bsw hv) 60 (b1 := true) (b2 := false) k_bssm
theorem t_bss {X : pX} {ρ0 : sR} (hv : vok X ρ0) : CUTOK X kR zKB c_bs0 8 ρ0 q_bss := CUT_mono (t_bssm hv) (fun ρ hF hI => ⟨⟨hF.1, by
  have z0 : (8 : Int) ≤ (ρ.1 1338).toInt := ri_lf (x := ρ.1 1338) (y := 8) (hF.2 _ (List.mem_cons_self))
  have z1 : (ρ.1 1338).toInt ≤ 948 := ri_lf (x := 948) (y := ρ.1 1338) (hF.2 _ (List.mem_cons_of_mem _ (List.mem_cons_self)))
  exact fcn (di_lf (x := ρ.1 1338) (y := 0) (show (0 : Int) ≤ _ by omega)) (fcn (di_lf (x := 1022) (y := ρ.1 1338) (show _ ≤ (1022 : Int) by omega)) (hF.2))⟩, hI⟩)
noncomputable def q_bsp : sCut := ((fr 0 97 44 [(0, tr 75)] [], [fr 0 96 44 [] [], fBot], 7), (fr 0 293 112 [(0, tr 219), (1, .arg 1308), (2, .arg 60192), (5, .mul (.arg 1308) (.int 1024)), (6, .add (.mul (.arg 1308) (.int 1024)) (.arg 1338)), (7, .add (.arg 1338) (.int 2))] [], [fBot], 8), [zf98zzzub_10, zf98zzzub_11, ((0, .arg 1666, .int 0), true), ((0, .arg 1698, .int 1), true), ((0, .arg 1762, .int 1), true), zf98zzzub_12, ((0, .arg 1370, .int 0), true), zf98zzzub_13, zf98zzzub_14, zf98zzzub_15, zf98zzzub_16], i_bs)
noncomputable def q_bspm : sCut := ((fr 0 97 44 [(0, tr 75)] [], [fr 0 96 44 [] [], fBot], 7), (fr 0 293 112 [(0, tr 219), (1, .arg 1308), (2, .arg 60192), (5, .mul (.arg 1308) (.int 1024)), (6, .add (.mul (.arg 1308) (.int 1024)) (.arg 1338)), (7, .add (.arg 1338) (.int 2))] [], [fBot], 8), [((0, .op2 .iand (.op1 .l2i (.op2 .lushr (.op1 .i2l (.add (.arg 1338) (.int 2))) (.int 0))) (.int 255), .op2 .iand (.add (.arg 1338) (.int 2)) (.int 255)), true), ((0, .op2 .iand (.op1 .l2i (.op2 .lushr (.op1 .i2l (.add (.arg 1338) (.int 2))) (.int 8))) (.int 255), .op2 .ishr (.add (.arg 1338) (.int 2)) (.int 8)), true), ((2, .op2 .ishr (.add (.arg 1338) (.int 2)) (.int 8), .int 0), false), ((2, .int 255, .op2 .ishr (.add (.arg 1338) (.int 2)) (.int 8)), false), zf98zzzub_17, zf98zzzub_10, zf98zzzub_11, ((0, .arg 1666, .int 0), true), ((0, .arg 1698, .int 1), true), ((0, .arg 1762, .int 1), true), zf98zzzub_12, ((0, .arg 1370, .int 0), true), zf98zzzub_13, zf98zzzub_14, zf98zzzub_15, zf98zzzub_16], i_bs)
theorem k_bspm : cbody kR [(zKB, c_bb0), (zKB, c_bb1)] (cpl1 zKB c_bs0 [q_bss]) (cpl2 zKB c_bs0 [q_bss]) (cleaf kR zKB c_bs0 [q_bss]) 200 true true q_bspm.2.2.1 q_bspm.2.2.2 (cst zKB c_bs0.2.2.1.1 q_bspm.1) (cst zKB c_bs0.2.2.1.2 q_bspm.2.1) = true := by decide +kernel
theorem t_bspm {X : pX} {ρ0 : sR} (hv : vok X ρ0) : CUTOK X kR zKB c_bs0 8 ρ0 q_bspm := CUT_run kR_x kR_0 (Cs := [(zKB, c_bb0), (zKB, c_bb1)]) (fun C hC => by
    simp only [List.mem_cons, List.not_mem_nil, or_false] at hC
    rcases hC with hC | hC
    · rw [hC]; exact s_bb0
    · rw [hC]; exact s_bb1) c_bs0_f (Q := [q_bss]) hv (fun q hq => by
    simp only [List.mem_cons, List.not_mem_nil, or_false] at hq
    rw [hq]; exact t_bss hv) 200 (b1 := true) (b2 := true) k_bspm
theorem t_bsp {X : pX} {ρ0 : sR} (hv : vok X ρ0) : CUTOK X kR zKB c_bs0 8 ρ0 q_bsp := CUT_mono (t_bspm hv) (fun ρ hF hI => ⟨⟨hF.1, by
  have z0 : (8 : Int) ≤ (ρ.1 1338).toInt := ri_lf (x := ρ.1 1338) (y := 8) (hF.2 _ (List.mem_cons_self))
  have z1 : (ρ.1 1338).toInt ≤ 948 := ri_lf (x := 948) (y := ρ.1 1338) (hF.2 _ (List.mem_cons_of_mem _ (List.mem_cons_self)))
  have e2 : (ρ.1 1338 + 2).toInt = (ρ.1 1338).toInt + 2 := i_of (i_ad (i_s _) (show (2 : Int32) = Int32.ofInt 2 from rfl)) (by omega) (by omega)
  obtain ⟨b1, b2, b3⟩ := by_hi (x := ρ.1 1338 + 2) (y := 0) (by omega) (by omega)
  exact fcn (decide_eq_true (by_lo (x := ρ.1 1338 + 2) (y := 0) (by omega))) (fcn (decide_eq_true b1) (fcn (di_lf (x := (sd X ρ (.op2 .ishr (.add (.arg 1338) (.int 2)) (.int 8))).1) (y := 0) b2) (fcn (di_lf (x := 255) (y := (sd X ρ (.op2 .ishr (.add (.arg 1338) (.int 2)) (.int 8))).1) b3) (fcn (di_lf (x := 1000) (y := ρ.1 1338) (show _ ≤ (1000 : Int) by omega)) (hF.2)))))⟩, hI⟩)
theorem k_bs3e : cbody kR [(zWB, c_kof)] (cpl1 zKB c_bs0 [q_bsp]) (cpl2 zKB c_bs0 [q_bsp]) (cleaf kR zKB c_bs0 [q_bsp]) 60 true true q_bs3e.2.2.1 q_bs3e.2.2.2 (cst zKB c_bs0.2.2.1.1 q_bs3e.1) (cst zKB c_bs0.2.2.1.2 q_bs3e.2.1) = true := by decide +kernel
theorem t_bs3e {X : pX} {ρ0 : sR} (hv : vok X ρ0) : CUTOK X kR zKB c_bs0 8 ρ0 q_bs3e := CUT_run kR_x kR_0 (Cs := [(zWB, c_kof)]) (fun C hC => by rw [List.mem_singleton.mp hC]; exact s_kof) c_bs0_f (Q := [q_bsp]) hv (fun q hq => by
    simp only [List.mem_cons, List.not_mem_nil, or_false] at hq
    rw [hq]; exact t_bsp hv) 60 (b1 := true) (b2 := true) k_bs3e
