/-! ===== the sum of a transfer: sumOf and sumOf ===== -/
noncomputable def c_sumd : sC := ((213, 334, 5), ([tr 59, .arg 60026], [tr 219, .arg 1308, .arg 60026]), ([59], [219, 316]), [((2, .int 168, .arg 60026), false), ((103, .add (.elem (.arg 1348) (.int 0)) (.elem (.arg 2084) (.int 0)), .arg 60026), true)], ([60000, 60032, 60064, 60096, 60128, 60160, 60004, 60016], []), (some (.arg 60016), some (.arg 60016)), [], ([], []))
theorem c_sumd_f : cfine zVP 65536 c_sumd = true := by decide +kernel
noncomputable def q_sdL : sCut := ((fr 0 213 9 [(0, tr 59), (2, .arg 60000), (3, .arg 60026), (4, .arg 60032)] [], [fBot], 4), (fr 0 334 4 [(0, tr 219), (1, .arg 1308), (2, .arg 60026), (3, .arg 60160), (4, .arg 60128)] [], [fBot], 4), [], [])
noncomputable def q_sdi : sCut := ((fr 0 213 9 [(0, tr 59), (2, .arg 60000), (3, .arg 60026), (4, .arg 60032)] [], [fBot], 4), (fr 0 288 4 [(1, .arg 60004), (2, .arg 60064), (3, .arg 60096)] [], [fr 0 334 17 [(0, tr 219), (1, .arg 1308), (2, .arg 60026), (4, .arg 60128)] [], fBot], 3), [], [])
noncomputable def q_sdL0 : sCut := ((fr 0 213 9 [(0, tr 59), (2, .arg 60000), (3, .arg 60026), (4, .arg 60032)] [], [fBot], 4), (fr 0 334 4 [(0, tr 219), (1, .arg 1308), (2, .arg 60026), (3, .arg 60160), (4, .arg 60128)] [], [fBot], 4), [((0, .arg 60000, .int 0), true), ((0, .arg 60160, .int 0), true), ((0, .arg 60032, .int 0), true), ((0, .arg 60128, .int 0), true), ((2, .int 168, .arg 60026), false), ((103, .add (.elem (.arg 1348) (.int 0)) (.elem (.arg 2084) (.int 0)), .arg 60026), true)], [])
noncomputable def q_sdA : sCut := ((fr 0 213 9 [(0, tr 59), (2, .arg 60000), (3, .arg 60026), (4, .arg 60032)] [], [fBot], 4), (fr 0 334 4 [(0, tr 219), (1, .arg 1308), (2, .arg 60026), (3, .arg 60160), (4, .arg 60128)] [], [fBot], 4), [((2, .arg 60032, .arg 60026), true), ((2, .arg 60128, .arg 60026), true), ((2, .arg 60032, .int 0), false), ((2, .int 167, .arg 60032), false), ((2, .arg 60128, .int 0), false), ((2, .int 167, .arg 60128), false)], [])
noncomputable def w_sdA : List (sCut × List (Nat × sT)) := [(q_sdi, [(60000, .op2 .iand (.op2 .ixor (.op2 .ixor (.op2 .ixor (.op2 .ishl (.arg 60000) (.int 8)) (.op2 .ishl (.op2 .ixor (.op2 .ixor (.op2 .iushr (.arg 60000) (.int 8)) (.elem (.arg 1348) (.arg 60032))) (.op2 .iushr (.op2 .ixor (.op2 .iushr (.arg 60000) (.int 8)) (.elem (.arg 1348) (.arg 60032))) (.int 4))) (.int 12))) (.op2 .ishl (.op2 .ixor (.op2 .ixor (.op2 .iushr (.arg 60000) (.int 8)) (.elem (.arg 1348) (.arg 60032))) (.op2 .iushr (.op2 .ixor (.op2 .iushr (.arg 60000) (.int 8)) (.elem (.arg 1348) (.arg 60032))) (.int 4))) (.int 5))) (.op2 .ixor (.op2 .ixor (.op2 .iushr (.arg 60000) (.int 8)) (.elem (.arg 1348) (.arg 60032))) (.op2 .iushr (.op2 .ixor (.op2 .iushr (.arg 60000) (.int 8)) (.elem (.arg 1348) (.arg 60032))) (.int 4)))) (.int 65535)), (60032, .add (.arg 60032) (.int 1)), (60064, .arg 60160), (60004, .elem (.arg 2084) (.arg 60128)), (60096, .int 7), (60128, .arg 60128)])]
theorem k_sdA : cbody kR [] (cpl1 zVP c_sumd (w_sdA.map (fun p => p.1))) (cpl2 zVP c_sumd (w_sdA.map (fun p => p.1))) (cleafS kR zVP c_sumd w_sdA) 150 true true q_sdA.2.2.1 q_sdA.2.2.2 (cst zVP c_sumd.2.2.1.1 q_sdA.1) (cst zVP c_sumd.2.2.1.2 q_sdA.2.1) = true := by decide +kernel
noncomputable def q_sdE : sCut := ((fr 0 213 9 [(0, tr 59), (2, .arg 60000), (3, .arg 60026), (4, .arg 60032)] [], [fBot], 4), (fr 0 288 4 [(1, .arg 60004), (2, .arg 60064), (3, .arg 60096)] [], [fr 0 334 17 [(0, tr 219), (1, .arg 1308), (2, .arg 60026), (4, .arg 60128)] [], fBot], 3), [((0, .op2 .iand (.op2 .ishr (.arg 60064) (.int 15)) (.int 1), .op2 .iand (.op2 .ishr (.arg 60004) (.arg 60096)) (.int 1)), true), ((2, .arg 60096, .int 0), false), ((2, .int 7, .arg 60096), false)], [])
noncomputable def w_sdE : List (sCut × List (Nat × sT)) := [(q_sdi, [(60000, .arg 60000), (60032, .arg 60032), (60064, .op2 .iand (.op2 .ishl (.arg 60064) (.int 1)) (.int 65535)), (60004, .arg 60004), (60096, .add (.arg 60096) (.int (-1))), (60128, .arg 60128)])]
theorem k_sdE : cbody kR [] (cpl1 zVP c_sumd (w_sdE.map (fun p => p.1))) (cpl2 zVP c_sumd (w_sdE.map (fun p => p.1))) (cleafS kR zVP c_sumd w_sdE) 150 false true q_sdE.2.2.1 q_sdE.2.2.2 (cst zVP c_sumd.2.2.1.1 q_sdE.1) (cst zVP c_sumd.2.2.1.2 q_sdE.2.1) = true := by decide +kernel
noncomputable def q_sdN : sCut := ((fr 0 213 9 [(0, tr 59), (2, .arg 60000), (3, .arg 60026), (4, .arg 60032)] [], [fBot], 4), (fr 0 288 4 [(1, .arg 60004), (2, .arg 60064), (3, .arg 60096)] [], [fr 0 334 17 [(0, tr 219), (1, .arg 1308), (2, .arg 60026), (4, .arg 60128)] [], fBot], 3), [((0, .op2 .iand (.op2 .ishr (.arg 60064) (.int 15)) (.int 1), .op2 .iand (.op2 .ishr (.arg 60004) (.arg 60096)) (.int 1)), false), ((2, .arg 60096, .int 0), false), ((2, .int 7, .arg 60096), false)], [])
noncomputable def w_sdN : List (sCut × List (Nat × sT)) := [(q_sdi, [(60000, .arg 60000), (60032, .arg 60032), (60064, .op2 .ixor (.op2 .iand (.op2 .ishl (.arg 60064) (.int 1)) (.int 65535)) (.int 4129)), (60004, .arg 60004), (60096, .add (.arg 60096) (.int (-1))), (60128, .arg 60128)])]
theorem k_sdN : cbody kR [] (cpl1 zVP c_sumd (w_sdN.map (fun p => p.1))) (cpl2 zVP c_sumd (w_sdN.map (fun p => p.1))) (cleafS kR zVP c_sumd w_sdN) 150 false true q_sdN.2.2.1 q_sdN.2.2.2 (cst zVP c_sumd.2.2.1.1 q_sdN.1) (cst zVP c_sumd.2.2.1.2 q_sdN.2.1) = true := by decide +kernel
noncomputable def q_sdC : sCut := ((fr 0 213 9 [(0, tr 59), (2, .arg 60000), (3, .arg 60026), (4, .arg 60032)] [], [fBot], 4), (fr 0 288 4 [(1, .arg 60004), (2, .arg 60064), (3, .arg 60096)] [], [fr 0 334 17 [(0, tr 219), (1, .arg 1308), (2, .arg 60026), (4, .arg 60128)] [], fBot], 3), [((2, .arg 60096, .int 0), true)], [])
noncomputable def w_sdC : List (sCut × List (Nat × sT)) := [(q_sdL, [(60000, .arg 60000), (60032, .arg 60032), (60160, .arg 60064), (60128, .add (.arg 60128) (.int 1))])]
theorem k_sdC : cbody kR [] (cpl1 zVP c_sumd (w_sdC.map (fun p => p.1))) (cpl2 zVP c_sumd (w_sdC.map (fun p => p.1))) (cleafS kR zVP c_sumd w_sdC) 150 false true q_sdC.2.2.1 q_sdC.2.2.2 (cst zVP c_sumd.2.2.1.1 q_sdC.1) (cst zVP c_sumd.2.2.1.2 q_sdC.2.1) = true := by decide +kernel
noncomputable def q_sdD : sCut := ((fr 0 213 9 [(0, tr 59), (2, .arg 60000), (3, .arg 60026), (4, .arg 60032)] [], [fBot], 4), (fr 0 334 4 [(0, tr 219), (1, .arg 1308), (2, .arg 60026), (3, .arg 60160), (4, .arg 60128)] [], [fBot], 4), [((2, .arg 60032, .arg 60026), false), ((2, .arg 60128, .arg 60026), false), ((0, .arg 60000, .arg 60160), true), ((2, .arg 60000, .int 0), false), ((2, .int 65535, .arg 60000), false)], [])
theorem k_sdD : cbody kR [] (cpl1 zVP c_sumd []) (cpl2 zVP c_sumd []) (cleaf kR zVP c_sumd []) 60 true true q_sdD.2.2.1 q_sdD.2.2.2 (cst zVP c_sumd.2.2.1.1 q_sdD.1) (cst zVP c_sumd.2.2.1.2 q_sdD.2.1) = true := by decide +kernel
theorem t_sdD {X : pX} {ρ0 : sR} (hv : vok X ρ0) : CUTOK X kR zVP c_sumd 4 ρ0 q_sdD := CUT_run kR_x kR_0 (Cs := []) (fun C hC => by cases hC) c_sumd_f (Q := []) hv (fun q hq => by cases hq) 60 (b1 := true) (b2 := true) k_sdD
theorem e_sumd : frun kR [] (cpl1 zVP c_sumd [q_sdL0]) (cpl2 zVP c_sumd [q_sdL0]) (cleaf kR zVP c_sumd [q_sdL0]) 120 65536 (isatP (c_sumd.2.2.2.1) c_sumd.2.2.2.2.2.2.2.1) c_sumd.2.2.2.2.2.2.2.1 (sin0 mt_all c_sumd.1.1 4 c_sumd.2.1.1 (foot zVP c_sumd.2.2.1.1)) (sin0 mt_all c_sumd.1.2.1 4 c_sumd.2.1.2 (foot zVP c_sumd.2.2.1.2)) = true := by decide +kernel
theorem sd_i {X : pX} {ρ0 : sR} (hv : vok X ρ0) : ∀ (m : Nat) (ρ : sR), m ≤ 8 → kok X ρ kR → vok X ρ → agrM 65536 c_sumd.2.2.2.2.1.1 c_sumd.2.2.2.2.1.2 ρ ρ0 → (ρ.1 60096).toInt = (m : Int) - 1 → (∀ ρ3 : sR, kok X ρ3 kR → vok X ρ3 → agrM 65536 c_sumd.2.2.2.2.1.1 c_sumd.2.2.2.2.1.2 ρ3 ρ0 → ρ3.1 60000 = ρ.1 60000 → ρ3.1 60032 = ρ.1 60032 → ρ3.1 60128 = ρ.1 60128 + 1 → ρ3.1 60160 = crf m (ρ.1 60004) (ρ.1 60064) → AT X zVP c_sumd 4 ρ0 ρ3 q_sdL) → AT X zVP c_sumd 4 ρ0 ρ q_sdi := by
  intro m
  induction m with
  | zero =>
    intro ρ hm k1 k2 k4 hk kont
    refine AT_of (q := q_sdC) rfl rfl (SEM_run kR_x kR_0 (Cs := []) (fun C hC => by cases hC) c_sumd_f (Q := w_sdC) hv 150 (b1 := false) (b2 := true) k_sdC k1 (fkc ?_ (fk0 k2)) i0k k4 (fun p hp ρ3 m1 m2 m3 m4 m5 => ?_))
    · exact decide_eq_true (lt_i (show (ρ.1 60096).toInt < (0 : Int32).toInt by rw [hk]; decide))
    · rw [List.mem_singleton.mp hp] at m2 m3 m5 ⊢
      exact kont ρ3 m1 m2.1 m4 (tj1 (m5 _ (List.mem_cons_self))) (tj1 (m5 _ (List.mem_cons_of_mem _ (List.mem_cons_self)))) (tj1 (m5 _ (List.mem_cons_of_mem _ (List.mem_cons_of_mem _ (List.mem_cons_of_mem _ (List.mem_cons_self)))))) (tj1 (m5 _ (List.mem_cons_of_mem _ (List.mem_cons_of_mem _ (List.mem_cons_self)))))
  | succ m ih =>
    intro ρ hm k1 k2 k4 hk kont
    have hK : ρ.1 60096 = Int32.ofNat m := by
      apply Int32.toInt_inj.mp
      rw [hk, Int32.toInt_ofNat_of_lt (by omega)]
      omega
    have f1 : sc X ρ (2, .arg 60096, .int 0) = false := decide_eq_false (nlt_i (show (0 : Int32).toInt ≤ (ρ.1 60096).toInt by rw [hk]; show (0 : Int) ≤ _; omega))
    have f2 : sc X ρ (2, .int 7, .arg 60096) = false := decide_eq_false (nlt_i (show (ρ.1 60096).toInt ≤ (7 : Int32).toInt by rw [hk]; show _ ≤ (7 : Int); omega))
    have hk1 : (ρ.1 60096 + (-1)).toInt = (m : Int) - 1 := by
      have e1 : (-1 : Int32).toInt = -1 := rfl
      rw [s_add (by rw [hk, e1]; omega) (by rw [hk, e1]; omega), hk, e1]
      omega
    by_cases hc : (ρ.1 60064 >>> ((15 : Int32) &&& 31)) &&& 1 = (ρ.1 60004 >>> (ρ.1 60096 &&& 31)) &&& 1
    · refine AT_of (q := q_sdE) rfl rfl (SEM_run kR_x kR_0 (Cs := []) (fun C hC => by cases hC) c_sumd_f (Q := w_sdE) hv 150 (b1 := false) (b2 := true) k_sdE k1 (fkc (decide_eq_true hc) (fkc f1 (fkc f2 (fk0 k2)))) i0k k4 (fun p hp ρ3 m1 m2 m3 m4 m5 => ?_))
      rw [List.mem_singleton.mp hp] at m2 m3 m5 ⊢
      have y1 := tj1 (m5 _ (List.mem_cons_self))
      have y2 := tj1 (m5 _ (List.mem_cons_of_mem _ (List.mem_cons_self)))
      have y3 : ρ3.1 60064 = crb (ρ.1 60004) (Int32.ofNat m) (ρ.1 60064) := by
        rw [tj1 (m5 _ (List.mem_cons_of_mem _ (List.mem_cons_of_mem _ (List.mem_cons_self)))), ← hK]
        unfold crb
        rw [if_pos hc]
        rfl
      have y4 : ρ3.1 60004 = ρ.1 60004 := tj1 (m5 _ (List.mem_cons_of_mem _ (List.mem_cons_of_mem _ (List.mem_cons_of_mem _ (List.mem_cons_self)))))
      have y5 := tj1 (m5 _ (List.mem_cons_of_mem _ (List.mem_cons_of_mem _ (List.mem_cons_of_mem _ (List.mem_cons_of_mem _ (List.mem_cons_self))))))
      have y6 : ρ3.1 60128 = ρ.1 60128 := tj1 (m5 _ (List.mem_cons_of_mem _ (List.mem_cons_of_mem _ (List.mem_cons_of_mem _ (List.mem_cons_of_mem _ (List.mem_cons_of_mem _ (List.mem_cons_self)))))))
      exact ih ρ3 (by omega) m1 m2.1 m4 (by rw [y5]; exact hk1) (fun ρ4 n1 n2 n3 n4 n5 n6 n7 => kont ρ4 n1 n2 n3 (n4.trans y1) (n5.trans y2) (by rw [n6, y6]) (by rw [n7, y4, y3]; rfl))
    · refine AT_of (q := q_sdN) rfl rfl (SEM_run kR_x kR_0 (Cs := []) (fun C hC => by cases hC) c_sumd_f (Q := w_sdN) hv 150 (b1 := false) (b2 := true) k_sdN k1 (fkc (decide_eq_false hc) (fkc f1 (fkc f2 (fk0 k2)))) i0k k4 (fun p hp ρ3 m1 m2 m3 m4 m5 => ?_))
      rw [List.mem_singleton.mp hp] at m2 m3 m5 ⊢
      have y1 := tj1 (m5 _ (List.mem_cons_self))
      have y2 := tj1 (m5 _ (List.mem_cons_of_mem _ (List.mem_cons_self)))
      have y3 : ρ3.1 60064 = crb (ρ.1 60004) (Int32.ofNat m) (ρ.1 60064) := by
        rw [tj1 (m5 _ (List.mem_cons_of_mem _ (List.mem_cons_of_mem _ (List.mem_cons_self)))), ← hK]
        unfold crb
        rw [if_neg hc]
        rfl
      have y4 : ρ3.1 60004 = ρ.1 60004 := tj1 (m5 _ (List.mem_cons_of_mem _ (List.mem_cons_of_mem _ (List.mem_cons_of_mem _ (List.mem_cons_self)))))
      have y5 := tj1 (m5 _ (List.mem_cons_of_mem _ (List.mem_cons_of_mem _ (List.mem_cons_of_mem _ (List.mem_cons_of_mem _ (List.mem_cons_self))))))
      have y6 : ρ3.1 60128 = ρ.1 60128 := tj1 (m5 _ (List.mem_cons_of_mem _ (List.mem_cons_of_mem _ (List.mem_cons_of_mem _ (List.mem_cons_of_mem _ (List.mem_cons_of_mem _ (List.mem_cons_self)))))))
      exact ih ρ3 (by omega) m1 m2.1 m4 (by rw [y5]; exact hk1) (fun ρ4 n1 n2 n3 n4 n5 n6 n7 => kont ρ4 n1 n2 n3 (n4.trans y1) (n5.trans y2) (by rw [n6, y6]) (by rw [n7, y4, y3]; rfl))
theorem sd_L {X : pX} {ρ0 : sR} (hv : vok X ρ0) : ∀ (n : Nat) (ρ : sR), kok X ρ kR → vok X ρ → agrM 65536 c_sumd.2.2.2.2.1.1 c_sumd.2.2.2.2.1.2 ρ ρ0 → ρ.1 60032 = ρ.1 60128 → ρ.1 60000 = ρ.1 60160 → 0 ≤ (ρ.1 60000).toInt → (ρ.1 60000).toInt < 65536 → 0 ≤ (ρ.1 60032).toInt → (ρ.1 60032).toInt ≤ 168 → (ρ.1 60026).toInt ≤ 168 → (∀ j : Nat, (j : Int) < (ρ.1 60026).toInt → ρ.2.2.1 1348 j = ρ.2.2.1 2084 j) → (ρ.1 60026).toInt - (ρ.1 60032).toInt ≤ n → AT X zVP c_sumd 4 ρ0 ρ q_sdL := by
  intro n
  induction n with
  | zero =>
    intro ρ k1 k2 k4 e1 e2 a1 a2 b1 b2 hN hA hn
    refine AT_of (q := q_sdD) rfl rfl (t_sdD hv ρ k1 (fkc (decide_eq_false (nlt_i (show (ρ.1 60026).toInt ≤ (ρ.1 60032).toInt by omega))) (fkc (decide_eq_false (nlt_i (show (ρ.1 60026).toInt ≤ (ρ.1 60128).toInt by rw [← e1]; omega))) (fkc (decide_eq_true e2) (fkc (decide_eq_false (nlt_i (show (0 : Int32).toInt ≤ (ρ.1 60000).toInt from a1))) (fkc (decide_eq_false (nlt_i (show (ρ.1 60000).toInt ≤ (65535 : Int32).toInt by show _ ≤ (65535 : Int); omega))) (fk0 k2)))))) i0k k4)
  | succ n ih =>
    intro ρ k1 k2 k4 e1 e2 a1 a2 b1 b2 hN hA hn
    by_cases hlt : (ρ.1 60032).toInt < (ρ.1 60026).toInt
    · have hz : 0 ≤ (ρ.1 60026).toInt ∧ (ρ.1 60026).toInt ≤ 1024 := k2.1 60026 (0, 1024) rfl
      refine AT_of (q := q_sdA) rfl rfl (SEM_run kR_x kR_0 (Cs := []) (fun C hC => by cases hC) c_sumd_f (Q := w_sdA) hv 150 (b1 := true) (b2 := true) k_sdA k1 (fkc (decide_eq_true (lt_i hlt)) (fkc (decide_eq_true (lt_i (show (ρ.1 60128).toInt < (ρ.1 60026).toInt by rw [← e1]; exact hlt))) (fkc (decide_eq_false (nlt_i (show (0 : Int32).toInt ≤ (ρ.1 60032).toInt from b1))) (fkc (decide_eq_false (nlt_i (show (ρ.1 60032).toInt ≤ (167 : Int32).toInt by show _ ≤ (167 : Int); omega))) (fkc (decide_eq_false (nlt_i (show (0 : Int32).toInt ≤ (ρ.1 60128).toInt by rw [← e1]; exact b1))) (fkc (decide_eq_false (nlt_i (show (ρ.1 60128).toInt ≤ (167 : Int32).toInt by rw [← e1]; show _ ≤ (167 : Int); omega))) (fk0 k2))))))) i0k k4 (fun p hp ρ3 m1 m2 m3 m4 m5 => ?_))
      rw [List.mem_singleton.mp hp] at m2 m3 m5 ⊢
      generalize hb : ρ.2.2.1 1348 (ρ.1 60032).toNatClampNeg = bb
      have hbr : 0 ≤ bb.toInt ∧ bb.toInt ≤ 255 := by
        rw [← hb]
        exact k2.2 1348 (.arg 60032) (0, 255) rfl
      have y1 : ρ3.1 60000 = crc (ρ.1 60000) bb := by
        rw [tj1 (m5 _ (List.mem_cons_self)), ← hb]
        rfl
      have y2 : ρ3.1 60032 = ρ.1 60032 + 1 := tj1 (m5 _ (List.mem_cons_of_mem _ (List.mem_cons_self)))
      have y3 : ρ3.1 60064 = ρ.1 60160 := tj1 (m5 _ (List.mem_cons_of_mem _ (List.mem_cons_of_mem _ (List.mem_cons_self))))
      have y4 : ρ3.1 60004 = bb := by
        rw [tj1 (m5 _ (List.mem_cons_of_mem _ (List.mem_cons_of_mem _ (List.mem_cons_of_mem _ (List.mem_cons_self))))), ← hb]
        show ρ.2.2.1 2084 (ρ.1 60128).toNatClampNeg = _
        rw [e1, hA _ (by rw [s_nat, ← e1]; omega)]
      have y5 : ρ3.1 60096 = 7 := tj1 (m5 _ (List.mem_cons_of_mem _ (List.mem_cons_of_mem _ (List.mem_cons_of_mem _ (List.mem_cons_of_mem _ (List.mem_cons_self))))))
      have y6 : ρ3.1 60128 = ρ.1 60128 := tj1 (m5 _ (List.mem_cons_of_mem _ (List.mem_cons_of_mem _ (List.mem_cons_of_mem _ (List.mem_cons_of_mem _ (List.mem_cons_of_mem _ (List.mem_cons_self)))))))
      have hcr : crc (ρ.1 60000) bb = crm (ρ.1 60160) bb := by
        rw [← e2]
        exact crc_eq (xb_small (k := 16) a1 a2) (xb_small (k := 8) hbr.1 (by show _ < (256 : Int); omega))
      have hi1 : (ρ.1 60032 + 1).toInt = (ρ.1 60032).toInt + 1 := s_add (y := 1) (by show _ ≤ _ + (1 : Int); omega) (by show _ + (1 : Int) ≤ _; omega)
      refine sd_i hv 8 ρ3 (by omega) m1 m2.1 m4 (by rw [y5]; rfl) (fun ρ4 n1 n2 n3 n4 n5 n6 n7 => ?_)
      have hZ : ρ4.1 60026 = ρ.1 60026 := ((n3.1 60026 (by decide) (by decide)).1).trans ((k4.1 60026 (by decide) (by decide)).1).symm
      have hl := crm_lt (s := ρ.1 60160) (b := bb)
      rw [y4, y3, crf_8] at n7
      have e9 : ρ4.1 60000 = ρ4.1 60160 := by rw [n4, y1, n7, hcr]
      have hB : ∀ a : Nat, a < 65536 → ρ4.2.2.1 a = ρ.2.2.1 a := fun a ha => ((n3.2 a ha (by intro h; cases h)).1).trans ((k4.2 a ha (by intro h; cases h)).1).symm
      exact ih ρ4 n1 n2 n3 (by rw [n5, y2, n6, y6, e1]) e9 (by rw [e9, n7]; exact hl.1) (by rw [e9, n7]; exact hl.2) (by rw [n5, y2, hi1]; omega) (by rw [n5, y2, hi1]; omega) (by rw [hZ]; exact hN) (by rw [hZ, hB 1348 (by decide), hB 2084 (by decide)]; exact hA) (by rw [hZ, n5, y2, hi1]; omega)
    · refine AT_of (q := q_sdD) rfl rfl (t_sdD hv ρ k1 (fkc (decide_eq_false (nlt_i (show (ρ.1 60026).toInt ≤ (ρ.1 60032).toInt by omega))) (fkc (decide_eq_false (nlt_i (show (ρ.1 60026).toInt ≤ (ρ.1 60128).toInt by rw [← e1]; omega))) (fkc (decide_eq_true e2) (fkc (decide_eq_false (nlt_i (show (0 : Int32).toInt ≤ (ρ.1 60000).toInt from a1))) (fkc (decide_eq_false (nlt_i (show (ρ.1 60000).toInt ≤ (65535 : Int32).toInt by show _ ≤ (65535 : Int); omega))) (fk0 k2)))))) i0k k4)
theorem t_sdL0 {X : pX} {ρ0 : sR} (hv : vok X ρ0) : CUTOK X kR zVP c_sumd 4 ρ0 q_sdL0 := CUTOK_AT (fun ρ k1 k2 _ k4 => by
  have h1 : ρ.1 60000 = 0 := of_decide_eq_true (k2.2 _ (List.mem_cons_self))
  have h2 : ρ.1 60160 = 0 := of_decide_eq_true (k2.2 _ (List.mem_cons_of_mem _ (List.mem_cons_self)))
  have h3 : ρ.1 60032 = 0 := of_decide_eq_true (k2.2 _ (List.mem_cons_of_mem _ (List.mem_cons_of_mem _ (List.mem_cons_self))))
  have h4 : ρ.1 60128 = 0 := of_decide_eq_true (k2.2 _ (List.mem_cons_of_mem _ (List.mem_cons_of_mem _ (List.mem_cons_of_mem _ (List.mem_cons_self)))))
  have hz : 0 ≤ (ρ.1 60026).toInt ∧ (ρ.1 60026).toInt ≤ 1024 := k2.1.1 60026 (0, 1024) rfl
  have z0 : (0 : Int32).toInt = 0 := rfl
  have g6 : ¬ (168 : Int32) < ρ.1 60026 := of_decide_eq_false (k2.2 _ (List.mem_cons_of_mem _ (List.mem_cons_of_mem _ (List.mem_cons_of_mem _ (List.mem_cons_of_mem _ (List.mem_cons_self))))))
  have g7 := k2.2 _ (List.mem_cons_of_mem _ (List.mem_cons_of_mem _ (List.mem_cons_of_mem _ (List.mem_cons_of_mem _ (List.mem_cons_of_mem _ (List.mem_cons_self))))))
  have z6 : (168 : Int32).toInt = 168 := rfl
  rw [Int32.lt_iff_toInt_lt, z6] at g6
  exact AT_of (q := q_sdL) rfl rfl (sd_L hv 1024 ρ k1 k2.1 k4 (h3.trans h4.symm) (h1.trans h2.symm) (by rw [h1, z0]; omega) (by rw [h1, z0]; omega) (by rw [h3, z0]; omega) (by rw [h3, z0]; omega) (by omega) (fun j hj => al_at g7 rfl rfl rfl j hj) (by rw [h3, z0]; omega)))
theorem s_sumd {X : pX} : SREL X pF pdfl mt_all kR zVP c_sumd := SREL_QC kR_x kR_0 (Cs := []) (fun C hC => by cases hC) (d := 4) rfl c_sumd_f (Q := [q_sdL0]) (fun ρ0 hv q hq => by rw [List.mem_singleton.mp hq]; exact t_sdL0 hv) (QC_run 120 e_sumd)
