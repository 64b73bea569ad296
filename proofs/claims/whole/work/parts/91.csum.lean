/-! ===== the sum of the buffer: sumOf and bufferSum ===== -/
noncomputable def c_sumj : sC := ((213, 372, 5), ([tr 204, .arg 1292], [tr 219]), ([204], [219, 335]), [], ([60000, 60032, 60064, 60096, 60128, 60160, 60004, 60016], []), (some (.arg 60016), some (.arg 60016)), [], ([], []))
theorem c_sumj_f : cfine zJ 65536 c_sumj = true := by decide +kernel
noncomputable def q_sjL : sCut := ((fr 0 213 9 [(0, tr 204), (2, .arg 60000), (3, .arg 1292), (4, .arg 60032)] [], [fBot], 4), (fr 0 372 4 [(0, tr 219), (1, .arg 60160), (2, .arg 60128)] [], [fBot], 4), [], [])
noncomputable def q_sji : sCut := ((fr 0 213 9 [(0, tr 204), (2, .arg 60000), (3, .arg 1292), (4, .arg 60032)] [], [fBot], 4), (fr 0 288 4 [(1, .arg 60004), (2, .arg 60064), (3, .arg 60096)] [], [fr 0 372 14 [(0, tr 219), (2, .arg 60128)] [], fBot], 3), [], [])
noncomputable def q_sjL0 : sCut := ((fr 0 213 9 [(0, tr 204), (2, .arg 60000), (3, .arg 1292), (4, .arg 60032)] [], [fBot], 4), (fr 0 372 4 [(0, tr 219), (1, .arg 60160), (2, .arg 60128)] [], [fBot], 4), [((0, .arg 60000, .int 0), true), ((0, .arg 60160, .int 0), true), ((0, .arg 60032, .int 0), true), ((0, .arg 60128, .int 0), true)], [])
noncomputable def q_sjA : sCut := ((fr 0 213 9 [(0, tr 204), (2, .arg 60000), (3, .arg 1292), (4, .arg 60032)] [], [fBot], 4), (fr 0 372 4 [(0, tr 219), (1, .arg 60160), (2, .arg 60128)] [], [fBot], 4), [((2, .arg 60032, .arg 1292), true), ((2, .arg 60128, .arg 1292), true), ((2, .arg 60032, .int 0), false), ((2, .int 159, .arg 60032), false), ((2, .arg 60128, .int 0), false), ((2, .int 159, .arg 60128), false)], [])
noncomputable def w_sjA : List (sCut × List (Nat × sT)) := [(q_sji, [(60000, .op2 .iand (.op2 .ixor (.op2 .ixor (.op2 .ixor (.op2 .ishl (.arg 60000) (.int 8)) (.op2 .ishl (.op2 .ixor (.op2 .ixor (.op2 .iushr (.arg 60000) (.int 8)) (.elem (.arg 2052) (.arg 60032))) (.op2 .iushr (.op2 .ixor (.op2 .iushr (.arg 60000) (.int 8)) (.elem (.arg 2052) (.arg 60032))) (.int 4))) (.int 12))) (.op2 .ishl (.op2 .ixor (.op2 .ixor (.op2 .iushr (.arg 60000) (.int 8)) (.elem (.arg 2052) (.arg 60032))) (.op2 .iushr (.op2 .ixor (.op2 .iushr (.arg 60000) (.int 8)) (.elem (.arg 2052) (.arg 60032))) (.int 4))) (.int 5))) (.op2 .ixor (.op2 .ixor (.op2 .iushr (.arg 60000) (.int 8)) (.elem (.arg 2052) (.arg 60032))) (.op2 .iushr (.op2 .ixor (.op2 .iushr (.arg 60000) (.int 8)) (.elem (.arg 2052) (.arg 60032))) (.int 4)))) (.int 65535)), (60032, .add (.arg 60032) (.int 1)), (60064, .arg 60160), (60004, .elem (.arg 2052) (.arg 60128)), (60096, .int 7), (60128, .arg 60128)])]
theorem k_sjA : cbody kR [] (cpl1 zJ c_sumj (w_sjA.map (fun p => p.1))) (cpl2 zJ c_sumj (w_sjA.map (fun p => p.1))) (cleafS kR zJ c_sumj w_sjA) 150 true true q_sjA.2.2.1 q_sjA.2.2.2 (cst zJ c_sumj.2.2.1.1 q_sjA.1) (cst zJ c_sumj.2.2.1.2 q_sjA.2.1) = true := by decide +kernel
noncomputable def q_sjE : sCut := ((fr 0 213 9 [(0, tr 204), (2, .arg 60000), (3, .arg 1292), (4, .arg 60032)] [], [fBot], 4), (fr 0 288 4 [(1, .arg 60004), (2, .arg 60064), (3, .arg 60096)] [], [fr 0 372 14 [(0, tr 219), (2, .arg 60128)] [], fBot], 3), [((0, .op2 .iand (.op2 .ishr (.arg 60064) (.int 15)) (.int 1), .op2 .iand (.op2 .ishr (.arg 60004) (.arg 60096)) (.int 1)), true), ((2, .arg 60096, .int 0), false), ((2, .int 7, .arg 60096), false)], [])
noncomputable def w_sjE : List (sCut × List (Nat × sT)) := [(q_sji, [(60000, .arg 60000), (60032, .arg 60032), (60064, .op2 .iand (.op2 .ishl (.arg 60064) (.int 1)) (.int 65535)), (60004, .arg 60004), (60096, .add (.arg 60096) (.int (-1))), (60128, .arg 60128)])]
theorem k_sjE : cbody kR [] (cpl1 zJ c_sumj (w_sjE.map (fun p => p.1))) (cpl2 zJ c_sumj (w_sjE.map (fun p => p.1))) (cleafS kR zJ c_sumj w_sjE) 150 false true q_sjE.2.2.1 q_sjE.2.2.2 (cst zJ c_sumj.2.2.1.1 q_sjE.1) (cst zJ c_sumj.2.2.1.2 q_sjE.2.1) = true := by decide +kernel
noncomputable def q_sjN : sCut := ((fr 0 213 9 [(0, tr 204), (2, .arg 60000), (3, .arg 1292), (4, .arg 60032)] [], [fBot], 4), (fr 0 288 4 [(1, .arg 60004), (2, .arg 60064), (3, .arg 60096)] [], [fr 0 372 14 [(0, tr 219), (2, .arg 60128)] [], fBot], 3), [((0, .op2 .iand (.op2 .ishr (.arg 60064) (.int 15)) (.int 1), .op2 .iand (.op2 .ishr (.arg 60004) (.arg 60096)) (.int 1)), false), ((2, .arg 60096, .int 0), false), ((2, .int 7, .arg 60096), false)], [])
noncomputable def w_sjN : List (sCut × List (Nat × sT)) := [(q_sji, [(60000, .arg 60000), (60032, .arg 60032), (60064, .op2 .ixor (.op2 .iand (.op2 .ishl (.arg 60064) (.int 1)) (.int 65535)) (.int 4129)), (60004, .arg 60004), (60096, .add (.arg 60096) (.int (-1))), (60128, .arg 60128)])]
theorem k_sjN : cbody kR [] (cpl1 zJ c_sumj (w_sjN.map (fun p => p.1))) (cpl2 zJ c_sumj (w_sjN.map (fun p => p.1))) (cleafS kR zJ c_sumj w_sjN) 150 false true q_sjN.2.2.1 q_sjN.2.2.2 (cst zJ c_sumj.2.2.1.1 q_sjN.1) (cst zJ c_sumj.2.2.1.2 q_sjN.2.1) = true := by decide +kernel
noncomputable def q_sjC : sCut := ((fr 0 213 9 [(0, tr 204), (2, .arg 60000), (3, .arg 1292), (4, .arg 60032)] [], [fBot], 4), (fr 0 288 4 [(1, .arg 60004), (2, .arg 60064), (3, .arg 60096)] [], [fr 0 372 14 [(0, tr 219), (2, .arg 60128)] [], fBot], 3), [((2, .arg 60096, .int 0), true)], [])
noncomputable def w_sjC : List (sCut × List (Nat × sT)) := [(q_sjL, [(60000, .arg 60000), (60032, .arg 60032), (60160, .arg 60064), (60128, .add (.arg 60128) (.int 1))])]
theorem k_sjC : cbody kR [] (cpl1 zJ c_sumj (w_sjC.map (fun p => p.1))) (cpl2 zJ c_sumj (w_sjC.map (fun p => p.1))) (cleafS kR zJ c_sumj w_sjC) 150 false true q_sjC.2.2.1 q_sjC.2.2.2 (cst zJ c_sumj.2.2.1.1 q_sjC.1) (cst zJ c_sumj.2.2.1.2 q_sjC.2.1) = true := by decide +kernel
noncomputable def q_sjD : sCut := ((fr 0 213 9 [(0, tr 204), (2, .arg 60000), (3, .arg 1292), (4, .arg 60032)] [], [fBot], 4), (fr 0 372 4 [(0, tr 219), (1, .arg 60160), (2, .arg 60128)] [], [fBot], 4), [((2, .arg 60032, .arg 1292), false), ((2, .arg 60128, .arg 1292), false), ((0, .arg 60000, .arg 60160), true), ((2, .arg 60000, .int 0), false), ((2, .int 65535, .arg 60000), false)], [])
theorem k_sjD : cbody kR [] (cpl1 zJ c_sumj []) (cpl2 zJ c_sumj []) (cleaf kR zJ c_sumj []) 60 true true q_sjD.2.2.1 q_sjD.2.2.2 (cst zJ c_sumj.2.2.1.1 q_sjD.1) (cst zJ c_sumj.2.2.1.2 q_sjD.2.1) = true := by decide +kernel
theorem t_sjD {X : pX} {ρ0 : sR} (hv : vok X ρ0) : CUTOK X kR zJ c_sumj 4 ρ0 q_sjD := CUT_run kR_x kR_0 (Cs := []) (fun C hC => by cases hC) c_sumj_f (Q := []) hv (fun q hq => by cases hq) 60 (b1 := true) (b2 := true) k_sjD
theorem e_sumj : frun kR [] (cpl1 zJ c_sumj [q_sjL0]) (cpl2 zJ c_sumj [q_sjL0]) (cleaf kR zJ c_sumj [q_sjL0]) 80 65536 (isatP (c_sumj.2.2.2.1) c_sumj.2.2.2.2.2.2.2.1) c_sumj.2.2.2.2.2.2.2.1 (sin0 mt_all c_sumj.1.1 4 c_sumj.2.1.1 (foot zJ c_sumj.2.2.1.1)) (sin0 mt_all c_sumj.1.2.1 4 c_sumj.2.1.2 (foot zJ c_sumj.2.2.1.2)) = true := by decide +kernel
noncomputable def crf : Nat → Int32 → Int32 → Int32
  | 0, _, s => s
  | m + 1, b, s => crf m b (crb b (Int32.ofNat m) s)
theorem crf_8 {b s : Int32} : crf 8 b s = crm s b := rfl
theorem tj1 {X : pX} {ρ3 ρ1 : sR} {k : Nat} {t : sT} (h : sd X ρ3 (.arg k) = sd X ρ1 t) : ρ3.1 k = (sd X ρ1 t).1 := congrArg Prod.fst h
theorem fkc {X : pX} {ρ : sR} {c : sQ} {v : Bool} {F : sFs} (h : sc X ρ c = v) (hF : fok X ρ F) : fok X ρ ((c, v) :: F) := ⟨hF.1, fcn h hF.2⟩
theorem fk0 {X : pX} {ρ : sR} (h : vok X ρ) : fok X ρ [] := ⟨h, fun f hf => by cases hf⟩
theorem i0k {X : pX} {ρ : sR} : iok X ρ [] := fun c hc => by cases hc
theorem nlt_i {x y : Int32} (h : y.toInt ≤ x.toInt) : ¬ x < y := fun q => by have := Int32.lt_iff_toInt_lt.mp q; omega
theorem lt_i {x y : Int32} (h : x.toInt < y.toInt) : x < y := Int32.lt_iff_toInt_lt.mpr h
theorem sj_i {X : pX} {ρ0 : sR} (hv : vok X ρ0) : ∀ (m : Nat) (ρ : sR), m ≤ 8 → kok X ρ kR → vok X ρ → agrM 65536 c_sumj.2.2.2.2.1.1 c_sumj.2.2.2.2.1.2 ρ ρ0 → (ρ.1 60096).toInt = (m : Int) - 1 → (∀ ρ3 : sR, kok X ρ3 kR → vok X ρ3 → agrM 65536 c_sumj.2.2.2.2.1.1 c_sumj.2.2.2.2.1.2 ρ3 ρ0 → ρ3.1 60000 = ρ.1 60000 → ρ3.1 60032 = ρ.1 60032 → ρ3.1 60128 = ρ.1 60128 + 1 → ρ3.1 60160 = crf m (ρ.1 60004) (ρ.1 60064) → AT X zJ c_sumj 4 ρ0 ρ3 q_sjL) → AT X zJ c_sumj 4 ρ0 ρ q_sji := by
  intro m
  induction m with
  | zero =>
    intro ρ hm k1 k2 k4 hk kont
    refine AT_of (q := q_sjC) rfl rfl (SEM_run kR_x kR_0 (Cs := []) (fun C hC => by cases hC) c_sumj_f (Q := w_sjC) hv 150 (b1 := false) (b2 := true) k_sjC k1 (fkc ?_ (fk0 k2)) i0k k4 (fun p hp ρ3 m1 m2 m3 m4 m5 => ?_))
    · exact decide_eq_true (lt_i (show (ρ.1 60096).toInt < (0 : Int32).toInt by rw [hk]; decide))
    · rw [List.mem_singleton.mp hp] at m2 m3 m5 ⊢
      exact kont ρ3 m1 m2.1 m4 (tj1 (m5 _ (List.mem_cons_self))) (tj1 (m5 _ (List.mem_cons_of_mem _ (List.mem_cons_self)))) (tj1 (m5 _ (List.mem_cons_of_mem _ (List.mem_cons_of_mem _ (List.mem_cons_of_mem _ (List.mem_cons_self)))))) (tj1 (m5 _ (List.mem_cons_of_mem _ (List.mem_cons_of_mem _ (List.mem_cons_self)))))
  | succ m ih =>
    intro ρ hm k1 k2 k4 hk kont
    have hK : ρ.1 60096 = Int32.ofNat m := by
      apply Int32.toInt_inj.mp
      rw [hk, Int32.toInt_ofNat_of_lt (by omega)]
      omega
    have f1 : sc X ρ (2, .arg 60096, .int 0) = false := decide_eq_false (nlt_i (show (0 : Int32).toInt ≤ (ρ.1 60096).toInt by rw [hk]; show (0 : Int) ≤ _; omega))
    have f2 : sc X ρ (2, .int 7, .arg 60096) = false := decide_eq_false (nlt_i (show (ρ.1 60096).toInt ≤ (7 : Int32).toInt by rw [hk]; show _ ≤ (7 : Int); omega))
    have hk1 : (ρ.1 60096 + (-1)).toInt = (m : Int) - 1 := by
      have e1 : (-1 : Int32).toInt = -1 := rfl
      rw [s_add (by rw [hk, e1]; omega) (by rw [hk, e1]; omega), hk, e1]
      omega
    by_cases hc : (ρ.1 60064 >>> ((15 : Int32) &&& 31)) &&& 1 = (ρ.1 60004 >>> (ρ.1 60096 &&& 31)) &&& 1
    · refine AT_of (q := q_sjE) rfl rfl (SEM_run kR_x kR_0 (Cs := []) (fun C hC => by cases hC) c_sumj_f (Q := w_sjE) hv 150 (b1 := false) (b2 := true) k_sjE k1 (fkc (decide_eq_true hc) (fkc f1 (fkc f2 (fk0 k2)))) i0k k4 (fun p hp ρ3 m1 m2 m3 m4 m5 => ?_))
      rw [List.mem_singleton.mp hp] at m2 m3 m5 ⊢
      have y1 := tj1 (m5 _ (List.mem_cons_self))
      have y2 := tj1 (m5 _ (List.mem_cons_of_mem _ (List.mem_cons_self)))
      have y3 : ρ3.1 60064 = crb (ρ.1 60004) (Int32.ofNat m) (ρ.1 60064) := by
        rw [tj1 (m5 _ (List.mem_cons_of_mem _ (List.mem_cons_of_mem _ (List.mem_cons_self)))), ← hK]
        unfold crb
        rw [if_pos hc]
        rfl
      have y4 : ρ3.1 60004 = ρ.1 60004 := tj1 (m5 _ (List.mem_cons_of_mem _ (List.mem_cons_of_mem _ (List.mem_cons_of_mem _ (List.mem_cons_self)))))
      have y5 := tj1 (m5 _ (List.mem_cons_of_mem _ (List.mem_cons_of_mem _ (List.mem_cons_of_mem _ (List.mem_cons_of_mem _ (List.mem_cons_self))))))
      have y6 : ρ3.1 60128 = ρ.1 60128 := tj1 (m5 _ (List.mem_cons_of_mem _ (List.mem_cons_of_mem _ (List.mem_cons_of_mem _ (List.mem_cons_of_mem _ (List.mem_cons_of_mem _ (List.mem_cons_self)))))))
      exact ih ρ3 (by omega) m1 m2.1 m4 (by rw [y5]; exact hk1) (fun ρ4 n1 n2 n3 n4 n5 n6 n7 => kont ρ4 n1 n2 n3 (n4.trans y1) (n5.trans y2) (by rw [n6, y6]) (by rw [n7, y4, y3]; rfl))
    · refine AT_of (q := q_sjN) rfl rfl (SEM_run kR_x kR_0 (Cs := []) (fun C hC => by cases hC) c_sumj_f (Q := w_sjN) hv 150 (b1 := false) (b2 := true) k_sjN k1 (fkc (decide_eq_false hc) (fkc f1 (fkc f2 (fk0 k2)))) i0k k4 (fun p hp ρ3 m1 m2 m3 m4 m5 => ?_))
      rw [List.mem_singleton.mp hp] at m2 m3 m5 ⊢
      have y1 := tj1 (m5 _ (List.mem_cons_self))
      have y2 := tj1 (m5 _ (List.mem_cons_of_mem _ (List.mem_cons_self)))
      have y3 : ρ3.1 60064 = crb (ρ.1 60004) (Int32.ofNat m) (ρ.1 60064) := by
        rw [tj1 (m5 _ (List.mem_cons_of_mem _ (List.mem_cons_of_mem _ (List.mem_cons_self)))), ← hK]
        unfold crb
        rw [if_neg hc]
        rfl
      have y4 : ρ3.1 60004 = ρ.1 60004 := tj1 (m5 _ (List.mem_cons_of_mem _ (List.mem_cons_of_mem _ (List.mem_cons_of_mem _ (List.mem_cons_self)))))
      have y5 := tj1 (m5 _ (List.mem_cons_of_mem _ (List.mem_cons_of_mem _ (List.mem_cons_of_mem _ (List.mem_cons_of_mem _ (List.mem_cons_self))))))
      have y6 : ρ3.1 60128 = ρ.1 60128 := tj1 (m5 _ (List.mem_cons_of_mem _ (List.mem_cons_of_mem _ (List.mem_cons_of_mem _ (List.mem_cons_of_mem _ (List.mem_cons_of_mem _ (List.mem_cons_self)))))))
      exact ih ρ3 (by omega) m1 m2.1 m4 (by rw [y5]; exact hk1) (fun ρ4 n1 n2 n3 n4 n5 n6 n7 => kont ρ4 n1 n2 n3 (n4.trans y1) (n5.trans y2) (by rw [n6, y6]) (by rw [n7, y4, y3]; rfl))
theorem crm_lt {s b : Int32} : 0 ≤ (crm s b).toInt ∧ (crm s b).toInt < 65536 := crb_lt
theorem sj_L {X : pX} {ρ0 : sR} (hv : vok X ρ0) : ∀ (n : Nat) (ρ : sR), kok X ρ kR → vok X ρ → agrM 65536 c_sumj.2.2.2.2.1.1 c_sumj.2.2.2.2.1.2 ρ ρ0 → ρ.1 60032 = ρ.1 60128 → ρ.1 60000 = ρ.1 60160 → 0 ≤ (ρ.1 60000).toInt → (ρ.1 60000).toInt < 65536 → 0 ≤ (ρ.1 60032).toInt → (ρ.1 60032).toInt ≤ 160 → (ρ.1 1292).toInt - (ρ.1 60032).toInt ≤ n → AT X zJ c_sumj 4 ρ0 ρ q_sjL := by
  intro n
  induction n with
  | zero =>
    intro ρ k1 k2 k4 e1 e2 a1 a2 b1 b2 hn
    refine AT_of (q := q_sjD) rfl rfl (t_sjD hv ρ k1 (fkc (decide_eq_false (nlt_i (show (ρ.1 1292).toInt ≤ (ρ.1 60032).toInt by omega))) (fkc (decide_eq_false (nlt_i (show (ρ.1 1292).toInt ≤ (ρ.1 60128).toInt by rw [← e1]; omega))) (fkc (decide_eq_true e2) (fkc (decide_eq_false (nlt_i (show (0 : Int32).toInt ≤ (ρ.1 60000).toInt from a1))) (fkc (decide_eq_false (nlt_i (show (ρ.1 60000).toInt ≤ (65535 : Int32).toInt by show _ ≤ (65535 : Int); omega))) (fk0 k2)))))) i0k k4)
  | succ n ih =>
    intro ρ k1 k2 k4 e1 e2 a1 a2 b1 b2 hn
    by_cases hlt : (ρ.1 60032).toInt < (ρ.1 1292).toInt
    · have hz : 0 ≤ (ρ.1 1292).toInt ∧ (ρ.1 1292).toInt ≤ 160 := k2.1 1292 (0, 160) rfl
      refine AT_of (q := q_sjA) rfl rfl (SEM_run kR_x kR_0 (Cs := []) (fun C hC => by cases hC) c_sumj_f (Q := w_sjA) hv 150 (b1 := true) (b2 := true) k_sjA k1 (fkc (decide_eq_true (lt_i hlt)) (fkc (decide_eq_true (lt_i (show (ρ.1 60128).toInt < (ρ.1 1292).toInt by rw [← e1]; exact hlt))) (fkc (decide_eq_false (nlt_i (show (0 : Int32).toInt ≤ (ρ.1 60032).toInt from b1))) (fkc (decide_eq_false (nlt_i (show (ρ.1 60032).toInt ≤ (159 : Int32).toInt by show _ ≤ (159 : Int); omega))) (fkc (decide_eq_false (nlt_i (show (0 : Int32).toInt ≤ (ρ.1 60128).toInt by rw [← e1]; exact b1))) (fkc (decide_eq_false (nlt_i (show (ρ.1 60128).toInt ≤ (159 : Int32).toInt by rw [← e1]; show _ ≤ (159 : Int); omega))) (fk0 k2))))))) i0k k4 (fun p hp ρ3 m1 m2 m3 m4 m5 => ?_))
      rw [List.mem_singleton.mp hp] at m2 m3 m5 ⊢
      generalize hb : ρ.2.2.1 2052 (ρ.1 60032).toNatClampNeg = bb
      have hbr : 0 ≤ bb.toInt ∧ bb.toInt ≤ 255 := by
        rw [← hb]
        exact k2.2 2052 (.arg 60032) (0, 255) rfl
      have y1 : ρ3.1 60000 = crc (ρ.1 60000) bb := by
        rw [tj1 (m5 _ (List.mem_cons_self)), ← hb]
        rfl
      have y2 : ρ3.1 60032 = ρ.1 60032 + 1 := tj1 (m5 _ (List.mem_cons_of_mem _ (List.mem_cons_self)))
      have y3 : ρ3.1 60064 = ρ.1 60160 := tj1 (m5 _ (List.mem_cons_of_mem _ (List.mem_cons_of_mem _ (List.mem_cons_self))))
      have y4 : ρ3.1 60004 = bb := by
        rw [tj1 (m5 _ (List.mem_cons_of_mem _ (List.mem_cons_of_mem _ (List.mem_cons_of_mem _ (List.mem_cons_self))))), ← hb, e1]
        rfl
      have y5 : ρ3.1 60096 = 7 := tj1 (m5 _ (List.mem_cons_of_mem _ (List.mem_cons_of_mem _ (List.mem_cons_of_mem _ (List.mem_cons_of_mem _ (List.mem_cons_self))))))
      have y6 : ρ3.1 60128 = ρ.1 60128 := tj1 (m5 _ (List.mem_cons_of_mem _ (List.mem_cons_of_mem _ (List.mem_cons_of_mem _ (List.mem_cons_of_mem _ (List.mem_cons_of_mem _ (List.mem_cons_self)))))))
      have hcr : crc (ρ.1 60000) bb = crm (ρ.1 60160) bb := by
        rw [← e2]
        exact crc_eq (xb_small (k := 16) a1 a2) (xb_small (k := 8) hbr.1 (by show _ < (256 : Int); omega))
      have hi1 : (ρ.1 60032 + 1).toInt = (ρ.1 60032).toInt + 1 := s_add (y := 1) (by show _ ≤ _ + (1 : Int); omega) (by show _ + (1 : Int) ≤ _; omega)
      refine sj_i hv 8 ρ3 (by omega) m1 m2.1 m4 (by rw [y5]; rfl) (fun ρ4 n1 n2 n3 n4 n5 n6 n7 => ?_)
      have hZ : ρ4.1 1292 = ρ.1 1292 := ((n3.1 1292 (by decide) (by decide)).1).trans ((k4.1 1292 (by decide) (by decide)).1).symm
      have hl := crm_lt (s := ρ.1 60160) (b := bb)
      rw [y4, y3, crf_8] at n7
      have e9 : ρ4.1 60000 = ρ4.1 60160 := by rw [n4, y1, n7, hcr]
      exact ih ρ4 n1 n2 n3 (by rw [n5, y2, n6, y6, e1]) e9 (by rw [e9, n7]; exact hl.1) (by rw [e9, n7]; exact hl.2) (by rw [n5, y2, hi1]; omega) (by rw [n5, y2, hi1]; omega) (by rw [hZ, n5, y2, hi1]; omega)
    · refine AT_of (q := q_sjD) rfl rfl (t_sjD hv ρ k1 (fkc (decide_eq_false (nlt_i (show (ρ.1 1292).toInt ≤ (ρ.1 60032).toInt by omega))) (fkc (decide_eq_false (nlt_i (show (ρ.1 1292).toInt ≤ (ρ.1 60128).toInt by rw [← e1]; omega))) (fkc (decide_eq_true e2) (fkc (decide_eq_false (nlt_i (show (0 : Int32).toInt ≤ (ρ.1 60000).toInt from a1))) (fkc (decide_eq_false (nlt_i (show (ρ.1 60000).toInt ≤ (65535 : Int32).toInt by show _ ≤ (65535 : Int); omega))) (fk0 k2)))))) i0k k4)
theorem t_sjL0 {X : pX} {ρ0 : sR} (hv : vok X ρ0) : CUTOK X kR zJ c_sumj 4 ρ0 q_sjL0 := CUTOK_AT (fun ρ k1 k2 _ k4 => by
  have h1 : ρ.1 60000 = 0 := of_decide_eq_true (k2.2 _ (List.mem_cons_self))
  have h2 : ρ.1 60160 = 0 := of_decide_eq_true (k2.2 _ (List.mem_cons_of_mem _ (List.mem_cons_self)))
  have h3 : ρ.1 60032 = 0 := of_decide_eq_true (k2.2 _ (List.mem_cons_of_mem _ (List.mem_cons_of_mem _ (List.mem_cons_self))))
  have h4 : ρ.1 60128 = 0 := of_decide_eq_true (k2.2 _ (List.mem_cons_of_mem _ (List.mem_cons_of_mem _ (List.mem_cons_of_mem _ (List.mem_cons_self)))))
  have hz : 0 ≤ (ρ.1 1292).toInt ∧ (ρ.1 1292).toInt ≤ 160 := k2.1.1 1292 (0, 160) rfl
  have z0 : (0 : Int32).toInt = 0 := rfl
  exact AT_of (q := q_sjL) rfl rfl (sj_L hv 160 ρ k1 k2.1 k4 (h3.trans h4.symm) (h1.trans h2.symm) (by rw [h1, z0]; omega) (by rw [h1, z0]; omega) (by rw [h3, z0]; omega) (by rw [h3, z0]; omega) (by rw [h3, z0]; omega)))
theorem s_sumj {X : pX} : SREL X pF pdfl mt_all kR zJ c_sumj := SREL_QC kR_x kR_0 (Cs := []) (fun C hC => by cases hC) (d := 4) rfl c_sumj_f (Q := [q_sjL0]) (fun ρ0 hv q hq => by rw [List.mem_singleton.mp hq]; exact t_sjL0 hv) (QC_run 80 e_sumj)
