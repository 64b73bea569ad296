set_option maxRecDepth 20000
noncomputable def c_kwp0q : sC := ((55, 278, 8), ([tr 42, .int 112, tr 77, .arg 60000, .arg 60096], [tr 219, .arg 1308, .int 112]), ([42, 44, 46, 47, 77], [219, 232, 233, 334, 222]), [((2, .arg 60000, .int 0), false), ((2, .int 1024, .add (.arg 60000) (.arg 60096)), false), ((0, .arg 19328, .arg 60096), true), ((2, .arg 60096, .int 0), false), ((2, .int 144, .arg 60096), false), ((2, .int 1024, .arg 60000), false), ((0, .rem (.arg 60096) (.int 12), .int 0), true), ((112, .add (.arg 60000) (.add (.elem (.arg 1380) (.int 0)) (.add (.int 0) (.elem (.arg 2212) (.int 0)))), .arg 60096), true), ((103, .add (.elem (.arg 64452) (.int 0)) (.elem (.arg 64484) (.int 0)), .int 144), true)], ([1330, 1586, 60032], [64452, 64484]), (none, some (.int 0)), [((0, .arg 1330, .arg 60096), true), ((0, .arg 1586, .arg 60096), true), ((103, .add (.elem (.arg 64452) (.int 0)) (.elem (.arg 64484) (.int 0)), .int 144), true)], ([], []))
theorem c_kwp0q_f : cfine zKWp 65536 c_kwp0q = true := by decide +kernel
noncomputable def zf98zzzcc_0 : sQ × Bool := ((103, .add (.elem (.arg 64452) (.int 0)) (.elem (.arg 64484) (.int 0)), .arg 60032), true)
noncomputable def zf98zzzcc_1 : sQ × Bool := ((112, .add (.arg 60096) (.add (.elem (.arg 64452) (.int 0)) (.add (.arg 60096) (.elem (.arg 64484) (.int 0)))), .sub (.int 144) (.arg 60096)), true)
noncomputable def zf98zzzcc_2 : sQ × Bool := ((112, .add (.arg 60000) (.add (.elem (.arg 1380) (.int 0)) (.add (.int 0) (.elem (.arg 64452) (.int 0)))), .arg 60096), true)
noncomputable def zf98zzzcc_3 : sQ × Bool := ((2, .arg 60032, .int 0), false)
noncomputable def zf98zzzcc_4 : sQ × Bool := ((2, .arg 60096, .arg 60032), false)
noncomputable def zf98zzzcc_5 : sQ × Bool := ((0, .arg 19328, .arg 60096), true)
noncomputable def zf98zzzcc_6 : sQ × Bool := ((2, .arg 60096, .int 0), false)
noncomputable def zf98zzzcc_7 : sQ × Bool := ((2, .int 144, .arg 60096), false)
noncomputable def zf98zzzcc_8 : sQ × Bool := ((0, .arg 1330, .arg 60096), true)
noncomputable def zf98zzzcc_9 : sQ × Bool := ((112, .add (.arg 60000) (.add (.elem (.arg 1380) (.int 0)) (.add (.int 0) (.elem (.arg 2212) (.int 0)))), .arg 60096), true)
noncomputable def q_kwp0L : sCut := ((fr 0 55 35 [] [], [fBot], 7), (fr 0 278 21 [(0, tr 219), (1, .arg 1308), (2, .int 112), (3, .int 0), (4, .arg 60032)] [], [fBot], 7), [zf98zzzcc_0, zf98zzzcc_1, zf98zzzcc_2, zf98zzzcc_3, zf98zzzcc_4, zf98zzzcc_5, zf98zzzcc_6, zf98zzzcc_7, zf98zzzcc_8, zf98zzzcc_9], [])
noncomputable def zf98zzzcc_10 : sQ × Bool := ((2, .sub (.arg 60096) (.arg 60032), .arg 65024), true)
noncomputable def q_kwp0LL : sCut := ((fr 0 55 35 [] [], [fBot], 7), (fr 0 278 21 [(0, tr 219), (1, .arg 1308), (2, .int 112), (3, .int 0), (4, .arg 60032)] [], [fBot], 7), [zf98zzzcc_10, zf98zzzcc_0, zf98zzzcc_1, zf98zzzcc_2, zf98zzzcc_3, zf98zzzcc_4, zf98zzzcc_5, zf98zzzcc_6, zf98zzzcc_7, zf98zzzcc_8, zf98zzzcc_9], [])
noncomputable def q_kwp0LT : sCut := ((fr 0 55 35 [] [], [fBot], 7), (fr 0 278 21 [(0, tr 219), (1, .arg 1308), (2, .int 112), (3, .int 0), (4, .arg 60032)] [], [fBot], 7), [zf98zzzcc_10, zf98zzzcc_5, zf98zzzcc_6, zf98zzzcc_7, zf98zzzcc_8, zf98zzzcc_9], [])
noncomputable def q_kwp0ST : sCut := ((fr 0 55 35 [] [], [fBot], 7), (fr 0 278 21 [(0, tr 219), (1, .arg 1308), (2, .int 112), (3, .int 0), (4, .arg 60032)] [], [fBot], 7), [zf98zzzcc_5, zf98zzzcc_6, zf98zzzcc_7, zf98zzzcc_8, zf98zzzcc_9], [])
noncomputable def zf98zzzcc_11 : sQ × Bool := ((0, .sub (.arg 60096) (.arg 60032), .arg 65024), true)
noncomputable def q_kwp0E : sCut := ((fr 0 55 35 [] [], [fBot], 7), (fr 0 278 21 [(0, tr 219), (1, .arg 1308), (2, .int 112), (3, .int 0), (4, .arg 60032)] [], [fBot], 7), [zf98zzzcc_11, zf98zzzcc_0, zf98zzzcc_1, zf98zzzcc_2, zf98zzzcc_3, zf98zzzcc_4, zf98zzzcc_5, zf98zzzcc_6, zf98zzzcc_7, zf98zzzcc_8, zf98zzzcc_9], [])
noncomputable def zf98zzzcc_12 : sQ × Bool := ((2, .arg 60032, .arg 60096), true)
noncomputable def zf98zzzcc_13 : sQ × Bool := ((2, .arg 60032, .arg 19328), true)
noncomputable def zf98zzzcc_14 : sQ × Bool := ((2, .int 143, .arg 60032), false)
noncomputable def zf98zzzcc_15 : sQ × Bool := ((2, .sub (.arg 60096) (.add (.arg 60032) (.int 1)), .arg 65024), true)
noncomputable def q_kwp0En : sCut := ((fr 0 55 35 [] [], [fBot], 7), (fr 0 278 21 [(0, tr 219), (1, .arg 1308), (2, .int 112), (3, .int 0), (4, .arg 60032)] [], [fBot], 7), [zf98zzzcc_12, zf98zzzcc_13, zf98zzzcc_14, zf98zzzcc_15, zf98zzzcc_11, zf98zzzcc_0, zf98zzzcc_1, zf98zzzcc_2, zf98zzzcc_3, zf98zzzcc_4, zf98zzzcc_5, zf98zzzcc_6, zf98zzzcc_7, zf98zzzcc_8, zf98zzzcc_9], [])
noncomputable def w_kwp0En : List (sCut × List (Nat × sT) × List (Nat × sT × List (sT × sT))) := [(q_kwp0LT, [(60032, .add (.arg 60032) (.int 1))], [(64452, .arg 64452, []), (64484, .arg 64484, [(.arg 60032, .elem (.arg 2212) (.arg 60032))])])]
theorem k_kwp0En : cbody kR [] (cpl1 zKWp c_kwp0q [q_kwp0LT]) (cpl2 zKWp c_kwp0q [q_kwp0LT]) (cleafB kR zKWp c_kwp0q w_kwp0En) 120 false true q_kwp0En.2.2.1 q_kwp0En.2.2.2 (cst zKWp c_kwp0q.2.2.1.1 q_kwp0En.1) (cst zKWp c_kwp0q.2.2.1.2 q_kwp0En.2.1) = true := by decide +kernel
theorem t_kwp0En {X : pX} {ρ0 : sR} (hv : vok X ρ0) (hk_ : CUTOK X kR zKWp c_kwp0q 7 ρ0 q_kwp0LL) : CUTOK X kR zKWp c_kwp0q 7 ρ0 q_kwp0En := CUTOK_AT (fun ρ k1 hF hI k4 => AT_of (q := q_kwp0En) rfl rfl (SEM_runB kR_x kR_0 (Cs := []) (fun C hC => by cases hC) c_kwp0q_f (Q := w_kwp0En) hv 120 (b1 := false) (b2 := true) k_kwp0En k1 hF hI k4 (fun p hp ρ3 m1 m2 m3 m4 m5 m6 => by
  rw [List.mem_singleton.mp hp] at m2 m3 m5 m6 ⊢
  have v0 : (0 : Int) ≤ (ρ.1 60096).toInt := ri_lf (x := ρ.1 60096) (y := 0) (hF.2 _ (List.mem_cons_of_mem _ (List.mem_cons_of_mem _ (List.mem_cons_of_mem _ (List.mem_cons_of_mem _ (List.mem_cons_of_mem _ (List.mem_cons_of_mem _ (List.mem_cons_of_mem _ (List.mem_cons_of_mem _ (List.mem_cons_of_mem _ (List.mem_cons_of_mem _ (List.mem_cons_of_mem _ (List.mem_cons_self)))))))))))))
  have v1 : (ρ.1 60096).toInt ≤ 144 := ri_lf (x := 144) (y := ρ.1 60096) (hF.2 _ (List.mem_cons_of_mem _ (List.mem_cons_of_mem _ (List.mem_cons_of_mem _ (List.mem_cons_of_mem _ (List.mem_cons_of_mem _ (List.mem_cons_of_mem _ (List.mem_cons_of_mem _ (List.mem_cons_of_mem _ (List.mem_cons_of_mem _ (List.mem_cons_of_mem _ (List.mem_cons_of_mem _ (List.mem_cons_of_mem _ (List.mem_cons_self))))))))))))))
  have c0 : (0 : Int) ≤ (ρ.1 60032).toInt := ri_lf (x := ρ.1 60032) (y := 0) (hF.2 _ (List.mem_cons_of_mem _ (List.mem_cons_of_mem _ (List.mem_cons_of_mem _ (List.mem_cons_of_mem _ (List.mem_cons_of_mem _ (List.mem_cons_of_mem _ (List.mem_cons_of_mem _ (List.mem_cons_of_mem _ (List.mem_cons_self))))))))))
  have c1 : (ρ.1 60032).toInt ≤ (ρ.1 60096).toInt := ri_lf (x := ρ.1 60096) (y := ρ.1 60032) (hF.2 _ (List.mem_cons_of_mem _ (List.mem_cons_of_mem _ (List.mem_cons_of_mem _ (List.mem_cons_of_mem _ (List.mem_cons_of_mem _ (List.mem_cons_of_mem _ (List.mem_cons_of_mem _ (List.mem_cons_of_mem _ (List.mem_cons_of_mem _ (List.mem_cons_self)))))))))))
  have ek : (ρ.1 60032 + 1).toInt = (ρ.1 60032).toInt + 1 := s_add (y := 1) (by show _ ≤ _ + (1 : Int); omega) (by show _ + (1 : Int) ≤ _; omega)
  have en : ((144 : Int32) - ρ.1 60096).toInt = 144 - (ρ.1 60096).toInt := i_of (i_sb (show (144 : Int32) = Int32.ofInt 144 from rfl) (i_s _)) (by omega) (by omega)
  have t1 : ρ3.1 60032 = ρ.1 60032 + 1 := congrArg Prod.fst (m5 _ (List.mem_cons_self))
  have hP : ∀ j, ρ3.2.2.1 64452 j = ρ.2.2.1 64452 j := fun j => Value.int.inj (m6 (64452, .arg 64452, []) (List.mem_cons_self) j)
  have hQ : ∀ j, ρ3.2.2.1 64484 j = if (ρ.1 60032).toInt.toNat = j then ρ.2.2.1 2212 (ρ.1 60032).toInt.toNat else ρ.2.2.1 64484 j := fun j => by
    have hw : Value.int (ρ3.2.2.1 64484 j) = if (ρ.1 60032).toNatClampNeg = j then Value.int (ρ.2.2.1 2212 (ρ.1 60032).toNatClampNeg) else Value.int (ρ.2.2.1 64484 j) := m6 (64484, .arg 64484, [(.arg 60032, .elem (.arg 2212) (.arg 60032))]) (List.mem_cons_of_mem _ (List.mem_cons_self)) j
    rw [s_nat] at hw
    by_cases hj : (ρ.1 60032).toInt.toNat = j
    · rw [if_pos hj] at hw ⊢; exact Value.int.inj hw
    · rw [if_neg hj] at hw ⊢; exact Value.int.inj hw
  have eV : ρ3.1 60096 = ρ.1 60096 := (m4.1 60096 (by decide) (by decide)).1.trans (k4.1 60096 (by decide) (by decide)).1.symm
  have eA : ρ3.1 60000 = ρ.1 60000 := (m4.1 60000 (by decide) (by decide)).1.trans (k4.1 60000 (by decide) (by decide)).1.symm
  have eB : ρ3.2.2.1 1380 = ρ.2.2.1 1380 := (m4.2 1380 (by decide) (by decide)).1.trans (k4.2 1380 (by decide) (by decide)).1.symm
  have hl : (ρ.1 60032).toInt < (ρ.1 60096).toInt := ri_lt (x := ρ.1 60032) (y := ρ.1 60096) (hF.2 _ (List.mem_cons_self))
  have h3 := (k103 (by decide) (by decide) rfl).mp (hF.2 _ (List.mem_cons_of_mem _ (List.mem_cons_of_mem _ (List.mem_cons_of_mem _ (List.mem_cons_of_mem _ (List.mem_cons_of_mem _ (List.mem_cons_self)))))))
  have ht := (k112v (a := 64452) (b := 64484) (s := .arg 60096) (t := .arg 60096) (n := .sub (.int 144) (.arg 60096)) (by decide) (by decide) rfl rfl rfl).mp (hF.2 _ (List.mem_cons_of_mem _ (List.mem_cons_of_mem _ (List.mem_cons_of_mem _ (List.mem_cons_of_mem _ (List.mem_cons_of_mem _ (List.mem_cons_of_mem _ (List.mem_cons_self))))))))
  have hp := (k112v (a := 1380) (b := 64452) (s := .arg 60000) (t := .int 0) (n := .arg 60096) (by decide) (by decide) rfl rfl rfl).mp (hF.2 _ (List.mem_cons_of_mem _ (List.mem_cons_of_mem _ (List.mem_cons_of_mem _ (List.mem_cons_of_mem _ (List.mem_cons_of_mem _ (List.mem_cons_of_mem _ (List.mem_cons_of_mem _ (List.mem_cons_self)))))))))
  have hd := (k112v (a := 1380) (b := 2212) (s := .arg 60000) (t := .int 0) (n := .arg 60096) (by decide) (by decide) rfl rfl rfl).mp (hF.2 _ (List.mem_cons_of_mem _ (List.mem_cons_of_mem _ (List.mem_cons_of_mem _ (List.mem_cons_of_mem _ (List.mem_cons_of_mem _ (List.mem_cons_of_mem _ (List.mem_cons_of_mem _ (List.mem_cons_of_mem _ (List.mem_cons_of_mem _ (List.mem_cons_of_mem _ (List.mem_cons_of_mem _ (List.mem_cons_of_mem _ (List.mem_cons_of_mem _ (List.mem_cons_of_mem _ (List.mem_cons_self))))))))))))))))
  have x3 : sc X ρ3 (103, .add (.elem (.arg 64452) (.int 0)) (.elem (.arg 64484) (.int 0)), .arg 60032) = true := (k103 (by decide) (by decide) rfl).mpr (fun j hj => by
    have hj : (j : Int) < (ρ3.1 60032).toInt := hj
    rw [t1, ek] at hj
    rw [hP, hQ]
    by_cases e : (ρ.1 60032).toInt.toNat = j
    · rw [if_pos e, e]
      have a1 := hp j (show (j : Int) < (ρ.1 60096).toInt by omega)
      have a2 := hd j (show (j : Int) < (ρ.1 60096).toInt by omega)
      have a3 := a1.symm.trans a2
      have z0 : (0 : Int32).toInt.toNat + j = j := Nat.zero_add j
      rw [show (sd X ρ (.int 0)).1.toInt.toNat + j = j from z0] at a3
      exact a3
    · rw [if_neg e]
      exact h3 j (show (j : Int) < (ρ.1 60032).toInt by omega))
  have xt : sc X ρ3 (112, .add (.arg 60096) (.add (.elem (.arg 64452) (.int 0)) (.add (.arg 60096) (.elem (.arg 64484) (.int 0)))), .sub (.int 144) (.arg 60096)) = true := (k112v (a := 64452) (b := 64484) (s := .arg 60096) (t := .arg 60096) (n := .sub (.int 144) (.arg 60096)) (by decide) (by decide) rfl rfl rfl).mpr (fun j hj => by
    have hj : (j : Int) < ((144 : Int32) - ρ3.1 60096).toInt := hj
    rw [eV] at hj
    show ρ3.2.2.1 64452 ((ρ3.1 60096).toInt.toNat + j) = ρ3.2.2.1 64484 ((ρ3.1 60096).toInt.toNat + j)
    rw [eV, hP, hQ, if_neg (by omega)]
    exact ht j hj)
  have xp : sc X ρ3 (112, .add (.arg 60000) (.add (.elem (.arg 1380) (.int 0)) (.add (.int 0) (.elem (.arg 64452) (.int 0)))), .arg 60096) = true := (k112v (a := 1380) (b := 64452) (s := .arg 60000) (t := .int 0) (n := .arg 60096) (by decide) (by decide) rfl rfl rfl).mpr (fun j hj => by
    have hj : (j : Int) < (ρ3.1 60096).toInt := hj
    rw [eV] at hj
    show ρ3.2.2.1 1380 ((ρ3.1 60000).toInt.toNat + j) = ρ3.2.2.1 64452 ((0 : Int32).toInt.toNat + j)
    rw [eA, eB, hP]
    exact hp j hj)
  have y1 : sc X ρ3 (2, .arg 60032, .int 0) = false := di_lf (x := ρ3.1 60032) (y := 0) (by rw [t1, ek]; show (0 : Int) ≤ _; omega)
  have y2 : sc X ρ3 (2, .arg 60096, .arg 60032) = false := di_lf (x := ρ3.1 60096) (y := ρ3.1 60032) (by rw [t1, ek, eV]; omega)
  exact hk_ ρ3 m1 ⟨m2.1, fcn (m2.2 _ (List.mem_cons_self)) (fcn (x3) (fcn (xt) (fcn (xp) (fcn (y1) (fcn (y2) (fun f hf => m2.2 f (List.mem_cons_of_mem _ hf)))))))⟩ m3 m4)))
noncomputable def zf98zzzcc_16 : sQ × Bool := ((2, .arg 60032, .arg 19328), false)
noncomputable def zf98zzzcc_17 : sQ × Bool := ((2, .arg 19328, .int 0), false)
noncomputable def zf98zzzcc_18 : sQ × Bool := ((2, .int 144, .arg 19328), false)
noncomputable def zf98zzzcc_19 : sQ × Bool := ((103, .add (.elem (.arg 64452) (.int 0)) (.elem (.arg 64484) (.int 0)), .int 144), true)
noncomputable def q_kwp0Ee : sCut := ((fr 0 55 35 [] [], [fBot], 7), (fr 0 278 21 [(0, tr 219), (1, .arg 1308), (2, .int 112), (3, .int 0), (4, .arg 60032)] [], [fBot], 7), [zf98zzzcc_16, zf98zzzcc_17, zf98zzzcc_18, zf98zzzcc_19, zf98zzzcc_11, zf98zzzcc_0, zf98zzzcc_1, zf98zzzcc_2, zf98zzzcc_3, zf98zzzcc_4, zf98zzzcc_5, zf98zzzcc_6, zf98zzzcc_7, zf98zzzcc_8, zf98zzzcc_9], [])
theorem k_kwp0Ee : cbody kR [] (cpl1 zKWp c_kwp0q []) (cpl2 zKWp c_kwp0q []) (cleaf kR zKWp c_kwp0q []) 120 true true q_kwp0Ee.2.2.1 q_kwp0Ee.2.2.2 (cst zKWp c_kwp0q.2.2.1.1 q_kwp0Ee.1) (cst zKWp c_kwp0q.2.2.1.2 q_kwp0Ee.2.1) = true := by decide +kernel
theorem t_kwp0Ee {X : pX} {ρ0 : sR} (hv : vok X ρ0) (hk_ : CUTOK X kR zKWp c_kwp0q 7 ρ0 q_kwp0LL) : CUTOK X kR zKWp c_kwp0q 7 ρ0 q_kwp0Ee := CUT_run kR_x kR_0 (Cs := []) (fun C hC => by cases hC) c_kwp0q_f (Q := []) hv (fun q hq => by cases hq) 120 (b1 := true) (b2 := true) k_kwp0Ee
theorem t_kwp0E {X : pX} {ρ0 : sR} (hv : vok X ρ0) (hk_ : CUTOK X kR zKWp c_kwp0q 7 ρ0 q_kwp0LL) : CUTOK X kR zKWp c_kwp0q 7 ρ0 q_kwp0E := fun ρ k1 hF hI k4 => by
  have v0 : (0 : Int) ≤ (ρ.1 60096).toInt := ri_lf (x := ρ.1 60096) (y := 0) (hF.2 _ (List.mem_cons_of_mem _ (List.mem_cons_of_mem _ (List.mem_cons_of_mem _ (List.mem_cons_of_mem _ (List.mem_cons_of_mem _ (List.mem_cons_of_mem _ (List.mem_cons_of_mem _ (List.mem_cons_self)))))))))
  have v1 : (ρ.1 60096).toInt ≤ 144 := ri_lf (x := 144) (y := ρ.1 60096) (hF.2 _ (List.mem_cons_of_mem _ (List.mem_cons_of_mem _ (List.mem_cons_of_mem _ (List.mem_cons_of_mem _ (List.mem_cons_of_mem _ (List.mem_cons_of_mem _ (List.mem_cons_of_mem _ (List.mem_cons_of_mem _ (List.mem_cons_self))))))))))
  have c0 : (0 : Int) ≤ (ρ.1 60032).toInt := ri_lf (x := ρ.1 60032) (y := 0) (hF.2 _ (List.mem_cons_of_mem _ (List.mem_cons_of_mem _ (List.mem_cons_of_mem _ (List.mem_cons_of_mem _ (List.mem_cons_self))))))
  have c1 : (ρ.1 60032).toInt ≤ (ρ.1 60096).toInt := ri_lf (x := ρ.1 60096) (y := ρ.1 60032) (hF.2 _ (List.mem_cons_of_mem _ (List.mem_cons_of_mem _ (List.mem_cons_of_mem _ (List.mem_cons_of_mem _ (List.mem_cons_of_mem _ (List.mem_cons_self)))))))
  have ek : (ρ.1 60032 + 1).toInt = (ρ.1 60032).toInt + 1 := s_add (y := 1) (by show _ ≤ _ + (1 : Int); omega) (by show _ + (1 : Int) ≤ _; omega)
  have en : ((144 : Int32) - ρ.1 60096).toInt = 144 - (ρ.1 60096).toInt := i_of (i_sb (show (144 : Int32) = Int32.ofInt 144 from rfl) (i_s _)) (by omega) (by omega)
  have eD : ρ.1 19328 = ρ.1 60096 := of_decide_eq_true (hF.2 _ (List.mem_cons_of_mem _ (List.mem_cons_of_mem _ (List.mem_cons_of_mem _ (List.mem_cons_of_mem _ (List.mem_cons_of_mem _ (List.mem_cons_of_mem _ (List.mem_cons_self))))))))
  have hgg : ρ.1 60096 - ρ.1 60032 = ρ.1 65024 := of_decide_eq_true (hF.2 _ (List.mem_cons_self))
  have em : (ρ.1 60096 - ρ.1 60032).toInt = (ρ.1 60096).toInt - (ρ.1 60032).toInt := i_of (by rw [i_sb (i_s (ρ.1 60096)) (i_s (ρ.1 60032))]) (by omega) (by omega)
  have e1 : (ρ.1 60096 - (ρ.1 60032 + 1)).toInt = (ρ.1 60096).toInt - (ρ.1 60032).toInt - 1 := i_of (n := (ρ.1 60096).toInt - (ρ.1 60032).toInt - 1) (by rw [i_sb (i_s (ρ.1 60096)) (i_s (ρ.1 60032 + 1)), ek]; congr 1; omega) (by omega) (by omega)
  by_cases hl : (ρ.1 60032).toInt < (ρ.1 60096).toInt
  · exact t_kwp0En hv hk_ ρ k1 ⟨hF.1, fcn (di_lt (x := ρ.1 60032) (y := ρ.1 60096) hl) (fcn (di_lt (x := ρ.1 60032) (y := ρ.1 19328) (by rw [eD]; exact hl)) (fcn (di_lf (x := 143) (y := ρ.1 60032) (show _ ≤ (143 : Int) by omega)) (fcn (di_lt (x := ρ.1 60096 - (ρ.1 60032 + 1)) (y := ρ.1 65024) (by rw [← hgg, em, e1]; omega)) (hF.2))))⟩ hI k4
  have h3 := (k103 (by decide) (by decide) rfl).mp (hF.2 _ (List.mem_cons_of_mem _ (List.mem_cons_self)))
  have ht := (k112v (a := 64452) (b := 64484) (s := .arg 60096) (t := .arg 60096) (n := .sub (.int 144) (.arg 60096)) (by decide) (by decide) rfl rfl rfl).mp (hF.2 _ (List.mem_cons_of_mem _ (List.mem_cons_of_mem _ (List.mem_cons_self))))
  have x3 : sc X ρ (103, .add (.elem (.arg 64452) (.int 0)) (.elem (.arg 64484) (.int 0)), .int 144) = true := (k103 (by decide) (by decide) rfl).mpr (fun j hj => by
    have hj : (j : Int) < 144 := hj
    by_cases e : (j : Int) < (ρ.1 60032).toInt
    · exact h3 j e
    · have := ht (j - (ρ.1 60096).toInt.toNat) (show ((j - (ρ.1 60096).toInt.toNat : Nat) : Int) < ((144 : Int32) - ρ.1 60096).toInt by rw [en]; omega)
      have z : (ρ.1 60096).toInt.toNat + (j - (ρ.1 60096).toInt.toNat) = j := by omega
      have this : ρ.2.2.1 64452 ((ρ.1 60096).toInt.toNat + (j - (ρ.1 60096).toInt.toNat)) = ρ.2.2.1 64484 ((ρ.1 60096).toInt.toNat + (j - (ρ.1 60096).toInt.toNat)) := this
      rw [z] at this
      exact this)
  exact t_kwp0Ee hv hk_ ρ k1 ⟨hF.1, fcn (di_lf (x := ρ.1 60032) (y := ρ.1 19328) (by rw [eD]; omega)) (fcn (di_lf (x := ρ.1 19328) (y := 0) (by rw [eD]; exact v0)) (fcn (di_lf (x := 144) (y := ρ.1 19328) (by rw [eD]; exact v1)) (fcn (x3) (hF.2))))⟩ hI k4
theorem t_kwp0L {X : pX} {ρ0 : sR} (hv : vok X ρ0) : CUTOK X kR zKWp c_kwp0q 7 ρ0 q_kwp0L := CUT_again (g := 65024) (mt := .sub (.arg 60096) (.arg 60032)) kR_x (by decide +kernel) (by decide) (by decide) (by decide) (by decide +kernel) (by decide +kernel) (by decide +kernel) (by decide +kernel) (by decide +kernel) (fun ρ0 hv hk => t_kwp0E hv hk) ρ0 hv
theorem kwp0_go {X : pX} {ρ0 ρ ρ3 : sR} (hv : vok X ρ0) (k2 : fall X ρ c_kwp0q.2.2.2.1) (m1 : kok X ρ3 kR) (m2 : fok X ρ3 q_kwp0ST.2.2.1) (m3 : iok X ρ3 []) (m4 : agrM 65536 c_kwp0q.2.2.2.2.1.1 c_kwp0q.2.2.2.2.1.2 ρ3 ρ0) (k4 : agrM 65536 c_kwp0q.2.2.2.2.1.1 c_kwp0q.2.2.2.2.1.2 ρ ρ0) (t1 : ρ3.1 60032 = 0) {m : Nat} (hm : (ρ.1 60096).toInt = m) (hP : ∀ j, bden X ρ3 (.arg 64452) j = aden X ρ (.arg 64452) (cpW 1380 60000 m) j) (hQ : ∀ j, bden X ρ3 (.arg 64484) j = bden X ρ (.arg 64484) j) : AT X zKWp c_kwp0q 7 ρ0 ρ3 q_kwp0ST := by
  have v0 : (0 : Int) ≤ (ρ.1 60096).toInt := ri_lf (x := ρ.1 60096) (y := 0) (k2 _ (List.mem_cons_of_mem _ (List.mem_cons_of_mem _ (List.mem_cons_of_mem _ (List.mem_cons_self)))))
  have v1 : (ρ.1 60096).toInt ≤ 144 := ri_lf (x := 144) (y := ρ.1 60096) (k2 _ (List.mem_cons_of_mem _ (List.mem_cons_of_mem _ (List.mem_cons_of_mem _ (List.mem_cons_of_mem _ (List.mem_cons_self))))))
  have a0 : (0 : Int) ≤ (ρ.1 60000).toInt := ri_lf (x := ρ.1 60000) (y := 0) (k2 _ (List.mem_cons_self))
  have a1 : (ρ.1 60000).toInt ≤ 1024 := ri_lf (x := 1024) (y := ρ.1 60000) (k2 _ (List.mem_cons_of_mem _ (List.mem_cons_of_mem _ (List.mem_cons_of_mem _ (List.mem_cons_of_mem _ (List.mem_cons_of_mem _ (List.mem_cons_self)))))))
  have eV : ρ3.1 60096 = ρ.1 60096 := (m4.1 60096 (by decide) (by decide)).1.trans (k4.1 60096 (by decide) (by decide)).1.symm
  have eA : ρ3.1 60000 = ρ.1 60000 := (m4.1 60000 (by decide) (by decide)).1.trans (k4.1 60000 (by decide) (by decide)).1.symm
  have eB : ρ3.2.2.1 1380 = ρ.2.2.1 1380 := (m4.2 1380 (by decide) (by decide)).1.trans (k4.2 1380 (by decide) (by decide)).1.symm
  have hP : ∀ j, ρ3.2.2.1 64452 j = if j < m then ρ.2.2.1 1380 ((ρ.1 60000).toInt.toNat + j) else ρ.2.2.1 64452 j := fun j => by
    have h := hP j
    rw [cp_v (by decide) (by decide) a0 (by omega) m (by omega)] at h
    exact Value.int.inj h
  have hQ : ∀ j, ρ3.2.2.1 64484 j = ρ.2.2.1 64484 j := fun j => Value.int.inj (hQ j)
  have h3 := (k103 (by decide) (by decide) rfl).mp (k2 _ (List.mem_cons_of_mem _ (List.mem_cons_of_mem _ (List.mem_cons_of_mem _ (List.mem_cons_of_mem _ (List.mem_cons_of_mem _ (List.mem_cons_of_mem _ (List.mem_cons_of_mem _ (List.mem_cons_of_mem _ (List.mem_cons_self))))))))))
  have en : ((144 : Int32) - ρ.1 60096).toInt = 144 - (ρ.1 60096).toInt := i_of (i_sb (show (144 : Int32) = Int32.ofInt 144 from rfl) (i_s _)) (by omega) (by omega)
  have x3 : sc X ρ3 (103, .add (.elem (.arg 64452) (.int 0)) (.elem (.arg 64484) (.int 0)), .arg 60032) = true := (k103 (by decide) (by decide) rfl).mpr (fun j hj => by
    have hj : (j : Int) < (ρ3.1 60032).toInt := hj
    rw [t1] at hj
    have z0 : (0 : Int32).toInt = 0 := rfl
    omega)
  have xt : sc X ρ3 (112, .add (.arg 60096) (.add (.elem (.arg 64452) (.int 0)) (.add (.arg 60096) (.elem (.arg 64484) (.int 0)))), .sub (.int 144) (.arg 60096)) = true := (k112v (a := 64452) (b := 64484) (s := .arg 60096) (t := .arg 60096) (n := .sub (.int 144) (.arg 60096)) (by decide) (by decide) rfl rfl rfl).mpr (fun j hj => by
    have hj : (j : Int) < ((144 : Int32) - ρ3.1 60096).toInt := hj
    rw [eV, en] at hj
    show ρ3.2.2.1 64452 ((ρ3.1 60096).toInt.toNat + j) = ρ3.2.2.1 64484 ((ρ3.1 60096).toInt.toNat + j)
    rw [eV, hP, hQ, if_neg (by omega)]
    exact h3 _ (show (((ρ.1 60096).toInt.toNat + j : Nat) : Int) < 144 by omega))
  have xp : sc X ρ3 (112, .add (.arg 60000) (.add (.elem (.arg 1380) (.int 0)) (.add (.int 0) (.elem (.arg 64452) (.int 0)))), .arg 60096) = true := (k112v (a := 1380) (b := 64452) (s := .arg 60000) (t := .int 0) (n := .arg 60096) (by decide) (by decide) rfl rfl rfl).mpr (fun j hj => by
    have hj : (j : Int) < (ρ3.1 60096).toInt := hj
    rw [eV] at hj
    show ρ3.2.2.1 1380 ((ρ3.1 60000).toInt.toNat + j) = ρ3.2.2.1 64452 ((0 : Int32).toInt.toNat + j)
    have z0 : (0 : Int32).toInt.toNat + j = j := Nat.zero_add j
    rw [z0, eA, eB, hP, if_pos (by omega)])
  have y1 : sc X ρ3 (2, .arg 60032, .int 0) = false := di_lf (x := ρ3.1 60032) (y := 0) (by rw [t1]; exact Int.le_refl _)
  have y2 : sc X ρ3 (2, .arg 60096, .arg 60032) = false := di_lf (x := ρ3.1 60096) (y := ρ3.1 60032) (by rw [t1, eV]; exact v0)
  exact AT_of (q := q_kwp0L) rfl rfl (t_kwp0L hv ρ3 m1 ⟨m2.1, fcn x3 (fcn xt (fcn xp (fcn y1 (fcn y2 m2.2))))⟩ m3 m4)
noncomputable def zf98zzzcc_20 : sQ × Bool := ((0, .arg 60096, .int 0), true)
noncomputable def zf98zzzcc_21 : sQ × Bool := ((0, .arg 19328, .int 0), true)
noncomputable def zf98zzzcc_22 : sQ × Bool := ((2, .int 1024, .arg 60000), false)
noncomputable def zf98zzzcc_23 : sQ × Bool := ((2, .arg 60000, .int 0), false)
noncomputable def zf98zzzcc_24 : sQ × Bool := ((2, .int 1024, .add (.arg 60000) (.arg 60096)), false)
noncomputable def zf98zzzcc_25 : sQ × Bool := ((0, .rem (.arg 60096) (.int 12), .int 0), true)
noncomputable def q_kwp0v0 : sCut := ((fr 0 55 0 [(0, tr 42), (1, .int 112), (2, tr 77), (3, .arg 60000), (4, .arg 60096)] [], [fBot], 7), (fr 0 278 0 [(0, tr 219), (1, .arg 1308), (2, .int 112)] [], [fBot], 7), [zf98zzzcc_20, zf98zzzcc_21, zf98zzzcc_22, zf98zzzcc_23, zf98zzzcc_24, zf98zzzcc_5, zf98zzzcc_6, zf98zzzcc_7, zf98zzzcc_22, zf98zzzcc_25, zf98zzzcc_9, zf98zzzcc_19], [])
noncomputable def w_kwp0v0 : List (sCut × List (Nat × sT) × List (Nat × sT × List (sT × sT))) := [(q_kwp0ST, [(60032, .int 0)], [(64452, .arg 64452, cpW 1380 60000 0), (64484, .arg 64484, [])])]
theorem k_kwp0v0 : cbody kR [] (cpl1 zKWp c_kwp0q [q_kwp0ST]) (cpl2 zKWp c_kwp0q [q_kwp0ST]) (cleafB kR zKWp c_kwp0q w_kwp0v0) 160 true true q_kwp0v0.2.2.1 q_kwp0v0.2.2.2 (cst zKWp c_kwp0q.2.2.1.1 q_kwp0v0.1) (cst zKWp c_kwp0q.2.2.1.2 q_kwp0v0.2.1) = true := by decide +kernel
theorem t_kwp0v0 {X : pX} {ρ0 : sR} (hv : vok X ρ0) : CUTOK X kR zKWp c_kwp0q 7 ρ0 q_kwp0v0 := CUTOK_AT (fun ρ k1 hF hI k4 => AT_of (q := q_kwp0v0) rfl rfl (SEM_runB kR_x kR_0 (Cs := []) (fun C hC => by cases hC) c_kwp0q_f (Q := w_kwp0v0) hv 160 (b1 := true) (b2 := true) k_kwp0v0 k1 hF hI k4 (fun p hp ρ3 m1 m2 m3 m4 m5 m6 => by
  rw [List.mem_singleton.mp hp] at m2 m3 m5 m6 ⊢
  exact kwp0_go hv (fun f hf => hF.2 f (List.mem_cons_of_mem _ (List.mem_cons_of_mem _ (List.mem_cons_of_mem _ hf)))) m1 m2 m3 m4 k4 (congrArg Prod.fst (m5 _ (List.mem_cons_self))) (m := 0) (by rw [show ρ.1 60096 = 0 from of_decide_eq_true (hF.2 _ (List.mem_cons_self))]; rfl) (fun j => m6 (64452, .arg 64452, cpW 1380 60000 0) (List.mem_cons_self) j) (fun j => m6 (64484, .arg 64484, []) (List.mem_cons_of_mem _ (List.mem_cons_self)) j))))
noncomputable def zf98zzzcc_26 : sQ × Bool := ((0, .arg 60096, .int 12), true)
noncomputable def zf98zzzcc_27 : sQ × Bool := ((0, .arg 19328, .int 12), true)
noncomputable def zf98zzzcc_28 : sQ × Bool := ((2, .int 1012, .arg 60000), false)
noncomputable def q_kwp0v12 : sCut := ((fr 0 55 0 [(0, tr 42), (1, .int 112), (2, tr 77), (3, .arg 60000), (4, .arg 60096)] [], [fBot], 7), (fr 0 278 0 [(0, tr 219), (1, .arg 1308), (2, .int 112)] [], [fBot], 7), [zf98zzzcc_26, zf98zzzcc_27, zf98zzzcc_28, zf98zzzcc_23, zf98zzzcc_24, zf98zzzcc_5, zf98zzzcc_6, zf98zzzcc_7, zf98zzzcc_22, zf98zzzcc_25, zf98zzzcc_9, zf98zzzcc_19], [])
noncomputable def w_kwp0v12 : List (sCut × List (Nat × sT) × List (Nat × sT × List (sT × sT))) := [(q_kwp0ST, [(60032, .int 0)], [(64452, .arg 64452, cpW 1380 60000 12), (64484, .arg 64484, [])])]
theorem k_kwp0v12 : cbody kR [] (cpl1 zKWp c_kwp0q [q_kwp0ST]) (cpl2 zKWp c_kwp0q [q_kwp0ST]) (cleafB kR zKWp c_kwp0q w_kwp0v12) 160 true true q_kwp0v12.2.2.1 q_kwp0v12.2.2.2 (cst zKWp c_kwp0q.2.2.1.1 q_kwp0v12.1) (cst zKWp c_kwp0q.2.2.1.2 q_kwp0v12.2.1) = true := by decide +kernel
theorem t_kwp0v12 {X : pX} {ρ0 : sR} (hv : vok X ρ0) : CUTOK X kR zKWp c_kwp0q 7 ρ0 q_kwp0v12 := CUTOK_AT (fun ρ k1 hF hI k4 => AT_of (q := q_kwp0v12) rfl rfl (SEM_runB kR_x kR_0 (Cs := []) (fun C hC => by cases hC) c_kwp0q_f (Q := w_kwp0v12) hv 160 (b1 := true) (b2 := true) k_kwp0v12 k1 hF hI k4 (fun p hp ρ3 m1 m2 m3 m4 m5 m6 => by
  rw [List.mem_singleton.mp hp] at m2 m3 m5 m6 ⊢
  exact kwp0_go hv (fun f hf => hF.2 f (List.mem_cons_of_mem _ (List.mem_cons_of_mem _ (List.mem_cons_of_mem _ hf)))) m1 m2 m3 m4 k4 (congrArg Prod.fst (m5 _ (List.mem_cons_self))) (m := 12) (by rw [show ρ.1 60096 = 12 from of_decide_eq_true (hF.2 _ (List.mem_cons_self))]; rfl) (fun j => m6 (64452, .arg 64452, cpW 1380 60000 12) (List.mem_cons_self) j) (fun j => m6 (64484, .arg 64484, []) (List.mem_cons_of_mem _ (List.mem_cons_self)) j))))
noncomputable def zf98zzzcc_29 : sQ × Bool := ((0, .arg 60096, .int 24), true)
noncomputable def zf98zzzcc_30 : sQ × Bool := ((0, .arg 19328, .int 24), true)
noncomputable def zf98zzzcc_31 : sQ × Bool := ((2, .int 1000, .arg 60000), false)
noncomputable def q_kwp0v24 : sCut := ((fr 0 55 0 [(0, tr 42), (1, .int 112), (2, tr 77), (3, .arg 60000), (4, .arg 60096)] [], [fBot], 7), (fr 0 278 0 [(0, tr 219), (1, .arg 1308), (2, .int 112)] [], [fBot], 7), [zf98zzzcc_29, zf98zzzcc_30, zf98zzzcc_31, zf98zzzcc_23, zf98zzzcc_24, zf98zzzcc_5, zf98zzzcc_6, zf98zzzcc_7, zf98zzzcc_22, zf98zzzcc_25, zf98zzzcc_9, zf98zzzcc_19], [])
noncomputable def w_kwp0v24 : List (sCut × List (Nat × sT) × List (Nat × sT × List (sT × sT))) := [(q_kwp0ST, [(60032, .int 0)], [(64452, .arg 64452, cpW 1380 60000 24), (64484, .arg 64484, [])])]
theorem k_kwp0v24 : cbody kR [] (cpl1 zKWp c_kwp0q [q_kwp0ST]) (cpl2 zKWp c_kwp0q [q_kwp0ST]) (cleafB kR zKWp c_kwp0q w_kwp0v24) 160 true true q_kwp0v24.2.2.1 q_kwp0v24.2.2.2 (cst zKWp c_kwp0q.2.2.1.1 q_kwp0v24.1) (cst zKWp c_kwp0q.2.2.1.2 q_kwp0v24.2.1) = true := by decide +kernel
theorem t_kwp0v24 {X : pX} {ρ0 : sR} (hv : vok X ρ0) : CUTOK X kR zKWp c_kwp0q 7 ρ0 q_kwp0v24 := CUTOK_AT (fun ρ k1 hF hI k4 => AT_of (q := q_kwp0v24) rfl rfl (SEM_runB kR_x kR_0 (Cs := []) (fun C hC => by cases hC) c_kwp0q_f (Q := w_kwp0v24) hv 160 (b1 := true) (b2 := true) k_kwp0v24 k1 hF hI k4 (fun p hp ρ3 m1 m2 m3 m4 m5 m6 => by
  rw [List.mem_singleton.mp hp] at m2 m3 m5 m6 ⊢
  exact kwp0_go hv (fun f hf => hF.2 f (List.mem_cons_of_mem _ (List.mem_cons_of_mem _ (List.mem_cons_of_mem _ hf)))) m1 m2 m3 m4 k4 (congrArg Prod.fst (m5 _ (List.mem_cons_self))) (m := 24) (by rw [show ρ.1 60096 = 24 from of_decide_eq_true (hF.2 _ (List.mem_cons_self))]; rfl) (fun j => m6 (64452, .arg 64452, cpW 1380 60000 24) (List.mem_cons_self) j) (fun j => m6 (64484, .arg 64484, []) (List.mem_cons_of_mem _ (List.mem_cons_self)) j))))
noncomputable def zf98zzzcc_32 : sQ × Bool := ((0, .arg 60096, .int 36), true)
noncomputable def zf98zzzcc_33 : sQ × Bool := ((0, .arg 19328, .int 36), true)
noncomputable def zf98zzzcc_34 : sQ × Bool := ((2, .int 988, .arg 60000), false)
noncomputable def q_kwp0v36 : sCut := ((fr 0 55 0 [(0, tr 42), (1, .int 112), (2, tr 77), (3, .arg 60000), (4, .arg 60096)] [], [fBot], 7), (fr 0 278 0 [(0, tr 219), (1, .arg 1308), (2, .int 112)] [], [fBot], 7), [zf98zzzcc_32, zf98zzzcc_33, zf98zzzcc_34, zf98zzzcc_23, zf98zzzcc_24, zf98zzzcc_5, zf98zzzcc_6, zf98zzzcc_7, zf98zzzcc_22, zf98zzzcc_25, zf98zzzcc_9, zf98zzzcc_19], [])
noncomputable def w_kwp0v36 : List (sCut × List (Nat × sT) × List (Nat × sT × List (sT × sT))) := [(q_kwp0ST, [(60032, .int 0)], [(64452, .arg 64452, cpW 1380 60000 36), (64484, .arg 64484, [])])]
theorem k_kwp0v36 : cbody kR [] (cpl1 zKWp c_kwp0q [q_kwp0ST]) (cpl2 zKWp c_kwp0q [q_kwp0ST]) (cleafB kR zKWp c_kwp0q w_kwp0v36) 160 true true q_kwp0v36.2.2.1 q_kwp0v36.2.2.2 (cst zKWp c_kwp0q.2.2.1.1 q_kwp0v36.1) (cst zKWp c_kwp0q.2.2.1.2 q_kwp0v36.2.1) = true := by decide +kernel
theorem t_kwp0v36 {X : pX} {ρ0 : sR} (hv : vok X ρ0) : CUTOK X kR zKWp c_kwp0q 7 ρ0 q_kwp0v36 := CUTOK_AT (fun ρ k1 hF hI k4 => AT_of (q := q_kwp0v36) rfl rfl (SEM_runB kR_x kR_0 (Cs := []) (fun C hC => by cases hC) c_kwp0q_f (Q := w_kwp0v36) hv 160 (b1 := true) (b2 := true) k_kwp0v36 k1 hF hI k4 (fun p hp ρ3 m1 m2 m3 m4 m5 m6 => by
  rw [List.mem_singleton.mp hp] at m2 m3 m5 m6 ⊢
  exact kwp0_go hv (fun f hf => hF.2 f (List.mem_cons_of_mem _ (List.mem_cons_of_mem _ (List.mem_cons_of_mem _ hf)))) m1 m2 m3 m4 k4 (congrArg Prod.fst (m5 _ (List.mem_cons_self))) (m := 36) (by rw [show ρ.1 60096 = 36 from of_decide_eq_true (hF.2 _ (List.mem_cons_self))]; rfl) (fun j => m6 (64452, .arg 64452, cpW 1380 60000 36) (List.mem_cons_self) j) (fun j => m6 (64484, .arg 64484, []) (List.mem_cons_of_mem _ (List.mem_cons_self)) j))))
noncomputable def zf98zzzcc_35 : sQ × Bool := ((0, .arg 60096, .int 48), true)
noncomputable def zf98zzzcc_36 : sQ × Bool := ((0, .arg 19328, .int 48), true)
noncomputable def zf98zzzcc_37 : sQ × Bool := ((2, .int 976, .arg 60000), false)
noncomputable def q_kwp0v48 : sCut := ((fr 0 55 0 [(0, tr 42), (1, .int 112), (2, tr 77), (3, .arg 60000), (4, .arg 60096)] [], [fBot], 7), (fr 0 278 0 [(0, tr 219), (1, .arg 1308), (2, .int 112)] [], [fBot], 7), [zf98zzzcc_35, zf98zzzcc_36, zf98zzzcc_37, zf98zzzcc_23, zf98zzzcc_24, zf98zzzcc_5, zf98zzzcc_6, zf98zzzcc_7, zf98zzzcc_22, zf98zzzcc_25, zf98zzzcc_9, zf98zzzcc_19], [])
noncomputable def w_kwp0v48 : List (sCut × List (Nat × sT) × List (Nat × sT × List (sT × sT))) := [(q_kwp0ST, [(60032, .int 0)], [(64452, .arg 64452, cpW 1380 60000 48), (64484, .arg 64484, [])])]
theorem k_kwp0v48 : cbody kR [] (cpl1 zKWp c_kwp0q [q_kwp0ST]) (cpl2 zKWp c_kwp0q [q_kwp0ST]) (cleafB kR zKWp c_kwp0q w_kwp0v48) 160 true true q_kwp0v48.2.2.1 q_kwp0v48.2.2.2 (cst zKWp c_kwp0q.2.2.1.1 q_kwp0v48.1) (cst zKWp c_kwp0q.2.2.1.2 q_kwp0v48.2.1) = true := by decide +kernel
theorem t_kwp0v48 {X : pX} {ρ0 : sR} (hv : vok X ρ0) : CUTOK X kR zKWp c_kwp0q 7 ρ0 q_kwp0v48 := CUTOK_AT (fun ρ k1 hF hI k4 => AT_of (q := q_kwp0v48) rfl rfl (SEM_runB kR_x kR_0 (Cs := []) (fun C hC => by cases hC) c_kwp0q_f (Q := w_kwp0v48) hv 160 (b1 := true) (b2 := true) k_kwp0v48 k1 hF hI k4 (fun p hp ρ3 m1 m2 m3 m4 m5 m6 => by
  rw [List.mem_singleton.mp hp] at m2 m3 m5 m6 ⊢
  exact kwp0_go hv (fun f hf => hF.2 f (List.mem_cons_of_mem _ (List.mem_cons_of_mem _ (List.mem_cons_of_mem _ hf)))) m1 m2 m3 m4 k4 (congrArg Prod.fst (m5 _ (List.mem_cons_self))) (m := 48) (by rw [show ρ.1 60096 = 48 from of_decide_eq_true (hF.2 _ (List.mem_cons_self))]; rfl) (fun j => m6 (64452, .arg 64452, cpW 1380 60000 48) (List.mem_cons_self) j) (fun j => m6 (64484, .arg 64484, []) (List.mem_cons_of_mem _ (List.mem_cons_self)) j))))
noncomputable def zf98zzzcc_38 : sQ × Bool := ((0, .arg 60096, .int 60), true)
noncomputable def zf98zzzcc_39 : sQ × Bool := ((0, .arg 19328, .int 60), true)
noncomputable def zf98zzzcc_40 : sQ × Bool := ((2, .int 964, .arg 60000), false)
noncomputable def q_kwp0v60 : sCut := ((fr 0 55 0 [(0, tr 42), (1, .int 112), (2, tr 77), (3, .arg 60000), (4, .arg 60096)] [], [fBot], 7), (fr 0 278 0 [(0, tr 219), (1, .arg 1308), (2, .int 112)] [], [fBot], 7), [zf98zzzcc_38, zf98zzzcc_39, zf98zzzcc_40, zf98zzzcc_23, zf98zzzcc_24, zf98zzzcc_5, zf98zzzcc_6, zf98zzzcc_7, zf98zzzcc_22, zf98zzzcc_25, zf98zzzcc_9, zf98zzzcc_19], [])
noncomputable def w_kwp0v60 : List (sCut × List (Nat × sT) × List (Nat × sT × List (sT × sT))) := [(q_kwp0ST, [(60032, .int 0)], [(64452, .arg 64452, cpW 1380 60000 60), (64484, .arg 64484, [])])]
theorem k_kwp0v60 : cbody kR [] (cpl1 zKWp c_kwp0q [q_kwp0ST]) (cpl2 zKWp c_kwp0q [q_kwp0ST]) (cleafB kR zKWp c_kwp0q w_kwp0v60) 160 true true q_kwp0v60.2.2.1 q_kwp0v60.2.2.2 (cst zKWp c_kwp0q.2.2.1.1 q_kwp0v60.1) (cst zKWp c_kwp0q.2.2.1.2 q_kwp0v60.2.1) = true := by decide +kernel
theorem t_kwp0v60 {X : pX} {ρ0 : sR} (hv : vok X ρ0) : CUTOK X kR zKWp c_kwp0q 7 ρ0 q_kwp0v60 := CUTOK_AT (fun ρ k1 hF hI k4 => AT_of (q := q_kwp0v60) rfl rfl (SEM_runB kR_x kR_0 (Cs := []) (fun C hC => by cases hC) c_kwp0q_f (Q := w_kwp0v60) hv 160 (b1 := true) (b2 := true) k_kwp0v60 k1 hF hI k4 (fun p hp ρ3 m1 m2 m3 m4 m5 m6 => by
  rw [List.mem_singleton.mp hp] at m2 m3 m5 m6 ⊢
  exact kwp0_go hv (fun f hf => hF.2 f (List.mem_cons_of_mem _ (List.mem_cons_of_mem _ (List.mem_cons_of_mem _ hf)))) m1 m2 m3 m4 k4 (congrArg Prod.fst (m5 _ (List.mem_cons_self))) (m := 60) (by rw [show ρ.1 60096 = 60 from of_decide_eq_true (hF.2 _ (List.mem_cons_self))]; rfl) (fun j => m6 (64452, .arg 64452, cpW 1380 60000 60) (List.mem_cons_self) j) (fun j => m6 (64484, .arg 64484, []) (List.mem_cons_of_mem _ (List.mem_cons_self)) j))))
noncomputable def zf98zzzcc_41 : sQ × Bool := ((0, .arg 60096, .int 72), true)
noncomputable def zf98zzzcc_42 : sQ × Bool := ((0, .arg 19328, .int 72), true)
noncomputable def zf98zzzcc_43 : sQ × Bool := ((2, .int 952, .arg 60000), false)
noncomputable def q_kwp0v72 : sCut := ((fr 0 55 0 [(0, tr 42), (1, .int 112), (2, tr 77), (3, .arg 60000), (4, .arg 60096)] [], [fBot], 7), (fr 0 278 0 [(0, tr 219), (1, .arg 1308), (2, .int 112)] [], [fBot], 7), [zf98zzzcc_41, zf98zzzcc_42, zf98zzzcc_43, zf98zzzcc_23, zf98zzzcc_24, zf98zzzcc_5, zf98zzzcc_6, zf98zzzcc_7, zf98zzzcc_22, zf98zzzcc_25, zf98zzzcc_9, zf98zzzcc_19], [])
noncomputable def w_kwp0v72 : List (sCut × List (Nat × sT) × List (Nat × sT × List (sT × sT))) := [(q_kwp0ST, [(60032, .int 0)], [(64452, .arg 64452, cpW 1380 60000 72), (64484, .arg 64484, [])])]
theorem k_kwp0v72 : cbody kR [] (cpl1 zKWp c_kwp0q [q_kwp0ST]) (cpl2 zKWp c_kwp0q [q_kwp0ST]) (cleafB kR zKWp c_kwp0q w_kwp0v72) 160 true true q_kwp0v72.2.2.1 q_kwp0v72.2.2.2 (cst zKWp c_kwp0q.2.2.1.1 q_kwp0v72.1) (cst zKWp c_kwp0q.2.2.1.2 q_kwp0v72.2.1) = true := by decide +kernel
theorem t_kwp0v72 {X : pX} {ρ0 : sR} (hv : vok X ρ0) : CUTOK X kR zKWp c_kwp0q 7 ρ0 q_kwp0v72 := CUTOK_AT (fun ρ k1 hF hI k4 => AT_of (q := q_kwp0v72) rfl rfl (SEM_runB kR_x kR_0 (Cs := []) (fun C hC => by cases hC) c_kwp0q_f (Q := w_kwp0v72) hv 160 (b1 := true) (b2 := true) k_kwp0v72 k1 hF hI k4 (fun p hp ρ3 m1 m2 m3 m4 m5 m6 => by
  rw [List.mem_singleton.mp hp] at m2 m3 m5 m6 ⊢
  exact kwp0_go hv (fun f hf => hF.2 f (List.mem_cons_of_mem _ (List.mem_cons_of_mem _ (List.mem_cons_of_mem _ hf)))) m1 m2 m3 m4 k4 (congrArg Prod.fst (m5 _ (List.mem_cons_self))) (m := 72) (by rw [show ρ.1 60096 = 72 from of_decide_eq_true (hF.2 _ (List.mem_cons_self))]; rfl) (fun j => m6 (64452, .arg 64452, cpW 1380 60000 72) (List.mem_cons_self) j) (fun j => m6 (64484, .arg 64484, []) (List.mem_cons_of_mem _ (List.mem_cons_self)) j))))
noncomputable def zf98zzzcc_44 : sQ × Bool := ((0, .arg 60096, .int 84), true)
noncomputable def zf98zzzcc_45 : sQ × Bool := ((0, .arg 19328, .int 84), true)
noncomputable def zf98zzzcc_46 : sQ × Bool := ((2, .int 940, .arg 60000), false)
noncomputable def q_kwp0v84 : sCut := ((fr 0 55 0 [(0, tr 42), (1, .int 112), (2, tr 77), (3, .arg 60000), (4, .arg 60096)] [], [fBot], 7), (fr 0 278 0 [(0, tr 219), (1, .arg 1308), (2, .int 112)] [], [fBot], 7), [zf98zzzcc_44, zf98zzzcc_45, zf98zzzcc_46, zf98zzzcc_23, zf98zzzcc_24, zf98zzzcc_5, zf98zzzcc_6, zf98zzzcc_7, zf98zzzcc_22, zf98zzzcc_25, zf98zzzcc_9, zf98zzzcc_19], [])
noncomputable def w_kwp0v84 : List (sCut × List (Nat × sT) × List (Nat × sT × List (sT × sT))) := [(q_kwp0ST, [(60032, .int 0)], [(64452, .arg 64452, cpW 1380 60000 84), (64484, .arg 64484, [])])]
theorem k_kwp0v84 : cbody kR [] (cpl1 zKWp c_kwp0q [q_kwp0ST]) (cpl2 zKWp c_kwp0q [q_kwp0ST]) (cleafB kR zKWp c_kwp0q w_kwp0v84) 160 true true q_kwp0v84.2.2.1 q_kwp0v84.2.2.2 (cst zKWp c_kwp0q.2.2.1.1 q_kwp0v84.1) (cst zKWp c_kwp0q.2.2.1.2 q_kwp0v84.2.1) = true := by decide +kernel
theorem t_kwp0v84 {X : pX} {ρ0 : sR} (hv : vok X ρ0) : CUTOK X kR zKWp c_kwp0q 7 ρ0 q_kwp0v84 := CUTOK_AT (fun ρ k1 hF hI k4 => AT_of (q := q_kwp0v84) rfl rfl (SEM_runB kR_x kR_0 (Cs := []) (fun C hC => by cases hC) c_kwp0q_f (Q := w_kwp0v84) hv 160 (b1 := true) (b2 := true) k_kwp0v84 k1 hF hI k4 (fun p hp ρ3 m1 m2 m3 m4 m5 m6 => by
  rw [List.mem_singleton.mp hp] at m2 m3 m5 m6 ⊢
  exact kwp0_go hv (fun f hf => hF.2 f (List.mem_cons_of_mem _ (List.mem_cons_of_mem _ (List.mem_cons_of_mem _ hf)))) m1 m2 m3 m4 k4 (congrArg Prod.fst (m5 _ (List.mem_cons_self))) (m := 84) (by rw [show ρ.1 60096 = 84 from of_decide_eq_true (hF.2 _ (List.mem_cons_self))]; rfl) (fun j => m6 (64452, .arg 64452, cpW 1380 60000 84) (List.mem_cons_self) j) (fun j => m6 (64484, .arg 64484, []) (List.mem_cons_of_mem _ (List.mem_cons_self)) j))))
noncomputable def zf98zzzcc_47 : sQ × Bool := ((0, .arg 60096, .int 96), true)
noncomputable def zf98zzzcc_48 : sQ × Bool := ((0, .arg 19328, .int 96), true)
noncomputable def zf98zzzcc_49 : sQ × Bool := ((2, .int 928, .arg 60000), false)
noncomputable def q_kwp0v96 : sCut := ((fr 0 55 0 [(0, tr 42), (1, .int 112), (2, tr 77), (3, .arg 60000), (4, .arg 60096)] [], [fBot], 7), (fr 0 278 0 [(0, tr 219), (1, .arg 1308), (2, .int 112)] [], [fBot], 7), [zf98zzzcc_47, zf98zzzcc_48, zf98zzzcc_49, zf98zzzcc_23, zf98zzzcc_24, zf98zzzcc_5, zf98zzzcc_6, zf98zzzcc_7, zf98zzzcc_22, zf98zzzcc_25, zf98zzzcc_9, zf98zzzcc_19], [])
noncomputable def w_kwp0v96 : List (sCut × List (Nat × sT) × List (Nat × sT × List (sT × sT))) := [(q_kwp0ST, [(60032, .int 0)], [(64452, .arg 64452, cpW 1380 60000 96), (64484, .arg 64484, [])])]
theorem k_kwp0v96 : cbody kR [] (cpl1 zKWp c_kwp0q [q_kwp0ST]) (cpl2 zKWp c_kwp0q [q_kwp0ST]) (cleafB kR zKWp c_kwp0q w_kwp0v96) 160 true true q_kwp0v96.2.2.1 q_kwp0v96.2.2.2 (cst zKWp c_kwp0q.2.2.1.1 q_kwp0v96.1) (cst zKWp c_kwp0q.2.2.1.2 q_kwp0v96.2.1) = true := by decide +kernel
theorem t_kwp0v96 {X : pX} {ρ0 : sR} (hv : vok X ρ0) : CUTOK X kR zKWp c_kwp0q 7 ρ0 q_kwp0v96 := CUTOK_AT (fun ρ k1 hF hI k4 => AT_of (q := q_kwp0v96) rfl rfl (SEM_runB kR_x kR_0 (Cs := []) (fun C hC => by cases hC) c_kwp0q_f (Q := w_kwp0v96) hv 160 (b1 := true) (b2 := true) k_kwp0v96 k1 hF hI k4 (fun p hp ρ3 m1 m2 m3 m4 m5 m6 => by
  rw [List.mem_singleton.mp hp] at m2 m3 m5 m6 ⊢
  exact kwp0_go hv (fun f hf => hF.2 f (List.mem_cons_of_mem _ (List.mem_cons_of_mem _ (List.mem_cons_of_mem _ hf)))) m1 m2 m3 m4 k4 (congrArg Prod.fst (m5 _ (List.mem_cons_self))) (m := 96) (by rw [show ρ.1 60096 = 96 from of_decide_eq_true (hF.2 _ (List.mem_cons_self))]; rfl) (fun j => m6 (64452, .arg 64452, cpW 1380 60000 96) (List.mem_cons_self) j) (fun j => m6 (64484, .arg 64484, []) (List.mem_cons_of_mem _ (List.mem_cons_self)) j))))
noncomputable def zf98zzzcc_50 : sQ × Bool := ((0, .arg 60096, .int 108), true)
noncomputable def zf98zzzcc_51 : sQ × Bool := ((0, .arg 19328, .int 108), true)
noncomputable def zf98zzzcc_52 : sQ × Bool := ((2, .int 916, .arg 60000), false)
noncomputable def q_kwp0v108 : sCut := ((fr 0 55 0 [(0, tr 42), (1, .int 112), (2, tr 77), (3, .arg 60000), (4, .arg 60096)] [], [fBot], 7), (fr 0 278 0 [(0, tr 219), (1, .arg 1308), (2, .int 112)] [], [fBot], 7), [zf98zzzcc_50, zf98zzzcc_51, zf98zzzcc_52, zf98zzzcc_23, zf98zzzcc_24, zf98zzzcc_5, zf98zzzcc_6, zf98zzzcc_7, zf98zzzcc_22, zf98zzzcc_25, zf98zzzcc_9, zf98zzzcc_19], [])
noncomputable def w_kwp0v108 : List (sCut × List (Nat × sT) × List (Nat × sT × List (sT × sT))) := [(q_kwp0ST, [(60032, .int 0)], [(64452, .arg 64452, cpW 1380 60000 108), (64484, .arg 64484, [])])]
theorem k_kwp0v108 : cbody kR [] (cpl1 zKWp c_kwp0q [q_kwp0ST]) (cpl2 zKWp c_kwp0q [q_kwp0ST]) (cleafB kR zKWp c_kwp0q w_kwp0v108) 160 true true q_kwp0v108.2.2.1 q_kwp0v108.2.2.2 (cst zKWp c_kwp0q.2.2.1.1 q_kwp0v108.1) (cst zKWp c_kwp0q.2.2.1.2 q_kwp0v108.2.1) = true := by decide +kernel
theorem t_kwp0v108 {X : pX} {ρ0 : sR} (hv : vok X ρ0) : CUTOK X kR zKWp c_kwp0q 7 ρ0 q_kwp0v108 := CUTOK_AT (fun ρ k1 hF hI k4 => AT_of (q := q_kwp0v108) rfl rfl (SEM_runB kR_x kR_0 (Cs := []) (fun C hC => by cases hC) c_kwp0q_f (Q := w_kwp0v108) hv 160 (b1 := true) (b2 := true) k_kwp0v108 k1 hF hI k4 (fun p hp ρ3 m1 m2 m3 m4 m5 m6 => by
  rw [List.mem_singleton.mp hp] at m2 m3 m5 m6 ⊢
  exact kwp0_go hv (fun f hf => hF.2 f (List.mem_cons_of_mem _ (List.mem_cons_of_mem _ (List.mem_cons_of_mem _ hf)))) m1 m2 m3 m4 k4 (congrArg Prod.fst (m5 _ (List.mem_cons_self))) (m := 108) (by rw [show ρ.1 60096 = 108 from of_decide_eq_true (hF.2 _ (List.mem_cons_self))]; rfl) (fun j => m6 (64452, .arg 64452, cpW 1380 60000 108) (List.mem_cons_self) j) (fun j => m6 (64484, .arg 64484, []) (List.mem_cons_of_mem _ (List.mem_cons_self)) j))))
noncomputable def zf98zzzcc_53 : sQ × Bool := ((0, .arg 60096, .int 120), true)
noncomputable def zf98zzzcc_54 : sQ × Bool := ((0, .arg 19328, .int 120), true)
noncomputable def zf98zzzcc_55 : sQ × Bool := ((2, .int 904, .arg 60000), false)
noncomputable def q_kwp0v120 : sCut := ((fr 0 55 0 [(0, tr 42), (1, .int 112), (2, tr 77), (3, .arg 60000), (4, .arg 60096)] [], [fBot], 7), (fr 0 278 0 [(0, tr 219), (1, .arg 1308), (2, .int 112)] [], [fBot], 7), [zf98zzzcc_53, zf98zzzcc_54, zf98zzzcc_55, zf98zzzcc_23, zf98zzzcc_24, zf98zzzcc_5, zf98zzzcc_6, zf98zzzcc_7, zf98zzzcc_22, zf98zzzcc_25, zf98zzzcc_9, zf98zzzcc_19], [])
noncomputable def w_kwp0v120 : List (sCut × List (Nat × sT) × List (Nat × sT × List (sT × sT))) := [(q_kwp0ST, [(60032, .int 0)], [(64452, .arg 64452, cpW 1380 60000 120), (64484, .arg 64484, [])])]
theorem k_kwp0v120 : cbody kR [] (cpl1 zKWp c_kwp0q [q_kwp0ST]) (cpl2 zKWp c_kwp0q [q_kwp0ST]) (cleafB kR zKWp c_kwp0q w_kwp0v120) 160 true true q_kwp0v120.2.2.1 q_kwp0v120.2.2.2 (cst zKWp c_kwp0q.2.2.1.1 q_kwp0v120.1) (cst zKWp c_kwp0q.2.2.1.2 q_kwp0v120.2.1) = true := by decide +kernel
theorem t_kwp0v120 {X : pX} {ρ0 : sR} (hv : vok X ρ0) : CUTOK X kR zKWp c_kwp0q 7 ρ0 q_kwp0v120 := CUTOK_AT (fun ρ k1 hF hI k4 => AT_of (q := q_kwp0v120) rfl rfl (SEM_runB kR_x kR_0 (Cs := []) (fun C hC => by cases hC) c_kwp0q_f (Q := w_kwp0v120) hv 160 (b1 := true) (b2 := true) k_kwp0v120 k1 hF hI k4 (fun p hp ρ3 m1 m2 m3 m4 m5 m6 => by
  rw [List.mem_singleton.mp hp] at m2 m3 m5 m6 ⊢
  exact kwp0_go hv (fun f hf => hF.2 f (List.mem_cons_of_mem _ (List.mem_cons_of_mem _ (List.mem_cons_of_mem _ hf)))) m1 m2 m3 m4 k4 (congrArg Prod.fst (m5 _ (List.mem_cons_self))) (m := 120) (by rw [show ρ.1 60096 = 120 from of_decide_eq_true (hF.2 _ (List.mem_cons_self))]; rfl) (fun j => m6 (64452, .arg 64452, cpW 1380 60000 120) (List.mem_cons_self) j) (fun j => m6 (64484, .arg 64484, []) (List.mem_cons_of_mem _ (List.mem_cons_self)) j))))
noncomputable def zf98zzzcc_56 : sQ × Bool := ((0, .arg 60096, .int 132), true)
noncomputable def zf98zzzcc_57 : sQ × Bool := ((0, .arg 19328, .int 132), true)
noncomputable def zf98zzzcc_58 : sQ × Bool := ((2, .int 892, .arg 60000), false)
noncomputable def q_kwp0v132 : sCut := ((fr 0 55 0 [(0, tr 42), (1, .int 112), (2, tr 77), (3, .arg 60000), (4, .arg 60096)] [], [fBot], 7), (fr 0 278 0 [(0, tr 219), (1, .arg 1308), (2, .int 112)] [], [fBot], 7), [zf98zzzcc_56, zf98zzzcc_57, zf98zzzcc_58, zf98zzzcc_23, zf98zzzcc_24, zf98zzzcc_5, zf98zzzcc_6, zf98zzzcc_7, zf98zzzcc_22, zf98zzzcc_25, zf98zzzcc_9, zf98zzzcc_19], [])
noncomputable def w_kwp0v132 : List (sCut × List (Nat × sT) × List (Nat × sT × List (sT × sT))) := [(q_kwp0ST, [(60032, .int 0)], [(64452, .arg 64452, cpW 1380 60000 132), (64484, .arg 64484, [])])]
theorem k_kwp0v132 : cbody kR [] (cpl1 zKWp c_kwp0q [q_kwp0ST]) (cpl2 zKWp c_kwp0q [q_kwp0ST]) (cleafB kR zKWp c_kwp0q w_kwp0v132) 160 true true q_kwp0v132.2.2.1 q_kwp0v132.2.2.2 (cst zKWp c_kwp0q.2.2.1.1 q_kwp0v132.1) (cst zKWp c_kwp0q.2.2.1.2 q_kwp0v132.2.1) = true := by decide +kernel
theorem t_kwp0v132 {X : pX} {ρ0 : sR} (hv : vok X ρ0) : CUTOK X kR zKWp c_kwp0q 7 ρ0 q_kwp0v132 := CUTOK_AT (fun ρ k1 hF hI k4 => AT_of (q := q_kwp0v132) rfl rfl (SEM_runB kR_x kR_0 (Cs := []) (fun C hC => by cases hC) c_kwp0q_f (Q := w_kwp0v132) hv 160 (b1 := true) (b2 := true) k_kwp0v132 k1 hF hI k4 (fun p hp ρ3 m1 m2 m3 m4 m5 m6 => by
  rw [List.mem_singleton.mp hp] at m2 m3 m5 m6 ⊢
  exact kwp0_go hv (fun f hf => hF.2 f (List.mem_cons_of_mem _ (List.mem_cons_of_mem _ (List.mem_cons_of_mem _ hf)))) m1 m2 m3 m4 k4 (congrArg Prod.fst (m5 _ (List.mem_cons_self))) (m := 132) (by rw [show ρ.1 60096 = 132 from of_decide_eq_true (hF.2 _ (List.mem_cons_self))]; rfl) (fun j => m6 (64452, .arg 64452, cpW 1380 60000 132) (List.mem_cons_self) j) (fun j => m6 (64484, .arg 64484, []) (List.mem_cons_of_mem _ (List.mem_cons_self)) j))))
noncomputable def zf98zzzcc_59 : sQ × Bool := ((0, .arg 60096, .int 144), true)
noncomputable def zf98zzzcc_60 : sQ × Bool := ((0, .arg 19328, .int 144), true)
noncomputable def zf98zzzcc_61 : sQ × Bool := ((2, .int 880, .arg 60000), false)
noncomputable def q_kwp0v144 : sCut := ((fr 0 55 0 [(0, tr 42), (1, .int 112), (2, tr 77), (3, .arg 60000), (4, .arg 60096)] [], [fBot], 7), (fr 0 278 0 [(0, tr 219), (1, .arg 1308), (2, .int 112)] [], [fBot], 7), [zf98zzzcc_59, zf98zzzcc_60, zf98zzzcc_61, zf98zzzcc_23, zf98zzzcc_24, zf98zzzcc_5, zf98zzzcc_6, zf98zzzcc_7, zf98zzzcc_22, zf98zzzcc_25, zf98zzzcc_9, zf98zzzcc_19], [])
noncomputable def w_kwp0v144 : List (sCut × List (Nat × sT) × List (Nat × sT × List (sT × sT))) := [(q_kwp0ST, [(60032, .int 0)], [(64452, .arg 64452, cpW 1380 60000 144), (64484, .arg 64484, [])])]
theorem k_kwp0v144 : cbody kR [] (cpl1 zKWp c_kwp0q [q_kwp0ST]) (cpl2 zKWp c_kwp0q [q_kwp0ST]) (cleafB kR zKWp c_kwp0q w_kwp0v144) 160 true true q_kwp0v144.2.2.1 q_kwp0v144.2.2.2 (cst zKWp c_kwp0q.2.2.1.1 q_kwp0v144.1) (cst zKWp c_kwp0q.2.2.1.2 q_kwp0v144.2.1) = true := by decide +kernel
theorem t_kwp0v144 {X : pX} {ρ0 : sR} (hv : vok X ρ0) : CUTOK X kR zKWp c_kwp0q 7 ρ0 q_kwp0v144 := CUTOK_AT (fun ρ k1 hF hI k4 => AT_of (q := q_kwp0v144) rfl rfl (SEM_runB kR_x kR_0 (Cs := []) (fun C hC => by cases hC) c_kwp0q_f (Q := w_kwp0v144) hv 160 (b1 := true) (b2 := true) k_kwp0v144 k1 hF hI k4 (fun p hp ρ3 m1 m2 m3 m4 m5 m6 => by
  rw [List.mem_singleton.mp hp] at m2 m3 m5 m6 ⊢
  exact kwp0_go hv (fun f hf => hF.2 f (List.mem_cons_of_mem _ (List.mem_cons_of_mem _ (List.mem_cons_of_mem _ hf)))) m1 m2 m3 m4 k4 (congrArg Prod.fst (m5 _ (List.mem_cons_self))) (m := 144) (by rw [show ρ.1 60096 = 144 from of_decide_eq_true (hF.2 _ (List.mem_cons_self))]; rfl) (fun j => m6 (64452, .arg 64452, cpW 1380 60000 144) (List.mem_cons_self) j) (fun j => m6 (64484, .arg 64484, []) (List.mem_cons_of_mem _ (List.mem_cons_self)) j))))
noncomputable def q_kwp0 : sCut := ((fr 0 55 0 [(0, tr 42), (1, .int 112), (2, tr 77), (3, .arg 60000), (4, .arg 60096)] [], [fBot], 7), (fr 0 278 0 [(0, tr 219), (1, .arg 1308), (2, .int 112)] [], [fBot], 7), [zf98zzzcc_23, zf98zzzcc_24, zf98zzzcc_5, zf98zzzcc_6, zf98zzzcc_7, zf98zzzcc_22, zf98zzzcc_25, zf98zzzcc_9, zf98zzzcc_19], [])
theorem t_kwp0 {X : pX} {ρ0 : sR} (hv : vok X ρ0) : CUTOK X kR zKWp c_kwp0q 7 ρ0 q_kwp0 := fun ρ k1 hF hI k4 => by
  have v0 : (0 : Int) ≤ (ρ.1 60096).toInt := ri_lf (x := ρ.1 60096) (y := 0) (hF.2 _ (List.mem_cons_of_mem _ (List.mem_cons_of_mem _ (List.mem_cons_of_mem _ (List.mem_cons_self)))))
  have v1 : (ρ.1 60096).toInt ≤ 144 := ri_lf (x := 144) (y := ρ.1 60096) (hF.2 _ (List.mem_cons_of_mem _ (List.mem_cons_of_mem _ (List.mem_cons_of_mem _ (List.mem_cons_of_mem _ (List.mem_cons_self))))))
  have a0 : (0 : Int) ≤ (ρ.1 60000).toInt := ri_lf (x := ρ.1 60000) (y := 0) (hF.2 _ (List.mem_cons_self))
  have a1 : (ρ.1 60000).toInt ≤ 1024 := ri_lf (x := 1024) (y := ρ.1 60000) (hF.2 _ (List.mem_cons_of_mem _ (List.mem_cons_of_mem _ (List.mem_cons_of_mem _ (List.mem_cons_of_mem _ (List.mem_cons_of_mem _ (List.mem_cons_self)))))))
  have ea : (ρ.1 60000 + ρ.1 60096).toInt = (ρ.1 60000).toInt + (ρ.1 60096).toInt := s_add (by omega) (by omega)
  have a2 : (ρ.1 60000 + ρ.1 60096).toInt ≤ 1024 := ri_lf (x := 1024) (y := ρ.1 60000 + ρ.1 60096) (hF.2 _ (List.mem_cons_of_mem _ (List.mem_cons_self)))
  rw [ea] at a2
  have eD : ρ.1 19328 = ρ.1 60096 := of_decide_eq_true (hF.2 _ (List.mem_cons_of_mem _ (List.mem_cons_of_mem _ (List.mem_cons_self))))
  have hz : (ρ.1 60096).toInt % 12 = 0 := rem_12 v0 (of_decide_eq_true (hF.2 _ (List.mem_cons_of_mem _ (List.mem_cons_of_mem _ (List.mem_cons_of_mem _ (List.mem_cons_of_mem _ (List.mem_cons_of_mem _ (List.mem_cons_of_mem _ (List.mem_cons_self)))))))))
  rcases (show (ρ.1 60096).toInt = 0 ∨ (ρ.1 60096).toInt = 12 ∨ (ρ.1 60096).toInt = 24 ∨ (ρ.1 60096).toInt = 36 ∨ (ρ.1 60096).toInt = 48 ∨ (ρ.1 60096).toInt = 60 ∨ (ρ.1 60096).toInt = 72 ∨ (ρ.1 60096).toInt = 84 ∨ (ρ.1 60096).toInt = 96 ∨ (ρ.1 60096).toInt = 108 ∨ (ρ.1 60096).toInt = 120 ∨ (ρ.1 60096).toInt = 132 ∨ (ρ.1 60096).toInt = 144 by omega) with h | h | h | h | h | h | h | h | h | h | h | h | h
  · have e : ρ.1 60096 = 0 := Int32.toInt_inj.mp h
    exact t_kwp0v0 hv ρ k1 ⟨hF.1, fcn (decide_eq_true e) (fcn (decide_eq_true (eD.trans e)) (fcn (di_lf (x := 1024) (y := ρ.1 60000) (show _ ≤ (1024 : Int) by omega)) hF.2))⟩ hI k4
  · have e : ρ.1 60096 = 12 := Int32.toInt_inj.mp h
    exact t_kwp0v12 hv ρ k1 ⟨hF.1, fcn (decide_eq_true e) (fcn (decide_eq_true (eD.trans e)) (fcn (di_lf (x := 1012) (y := ρ.1 60000) (show _ ≤ (1012 : Int) by omega)) hF.2))⟩ hI k4
  · have e : ρ.1 60096 = 24 := Int32.toInt_inj.mp h
    exact t_kwp0v24 hv ρ k1 ⟨hF.1, fcn (decide_eq_true e) (fcn (decide_eq_true (eD.trans e)) (fcn (di_lf (x := 1000) (y := ρ.1 60000) (show _ ≤ (1000 : Int) by omega)) hF.2))⟩ hI k4
  · have e : ρ.1 60096 = 36 := Int32.toInt_inj.mp h
    exact t_kwp0v36 hv ρ k1 ⟨hF.1, fcn (decide_eq_true e) (fcn (decide_eq_true (eD.trans e)) (fcn (di_lf (x := 988) (y := ρ.1 60000) (show _ ≤ (988 : Int) by omega)) hF.2))⟩ hI k4
  · have e : ρ.1 60096 = 48 := Int32.toInt_inj.mp h
    exact t_kwp0v48 hv ρ k1 ⟨hF.1, fcn (decide_eq_true e) (fcn (decide_eq_true (eD.trans e)) (fcn (di_lf (x := 976) (y := ρ.1 60000) (show _ ≤ (976 : Int) by omega)) hF.2))⟩ hI k4
  · have e : ρ.1 60096 = 60 := Int32.toInt_inj.mp h
    exact t_kwp0v60 hv ρ k1 ⟨hF.1, fcn (decide_eq_true e) (fcn (decide_eq_true (eD.trans e)) (fcn (di_lf (x := 964) (y := ρ.1 60000) (show _ ≤ (964 : Int) by omega)) hF.2))⟩ hI k4
  · have e : ρ.1 60096 = 72 := Int32.toInt_inj.mp h
    exact t_kwp0v72 hv ρ k1 ⟨hF.1, fcn (decide_eq_true e) (fcn (decide_eq_true (eD.trans e)) (fcn (di_lf (x := 952) (y := ρ.1 60000) (show _ ≤ (952 : Int) by omega)) hF.2))⟩ hI k4
  · have e : ρ.1 60096 = 84 := Int32.toInt_inj.mp h
    exact t_kwp0v84 hv ρ k1 ⟨hF.1, fcn (decide_eq_true e) (fcn (decide_eq_true (eD.trans e)) (fcn (di_lf (x := 940) (y := ρ.1 60000) (show _ ≤ (940 : Int) by omega)) hF.2))⟩ hI k4
  · have e : ρ.1 60096 = 96 := Int32.toInt_inj.mp h
    exact t_kwp0v96 hv ρ k1 ⟨hF.1, fcn (decide_eq_true e) (fcn (decide_eq_true (eD.trans e)) (fcn (di_lf (x := 928) (y := ρ.1 60000) (show _ ≤ (928 : Int) by omega)) hF.2))⟩ hI k4
  · have e : ρ.1 60096 = 108 := Int32.toInt_inj.mp h
    exact t_kwp0v108 hv ρ k1 ⟨hF.1, fcn (decide_eq_true e) (fcn (decide_eq_true (eD.trans e)) (fcn (di_lf (x := 916) (y := ρ.1 60000) (show _ ≤ (916 : Int) by omega)) hF.2))⟩ hI k4
  · have e : ρ.1 60096 = 120 := Int32.toInt_inj.mp h
    exact t_kwp0v120 hv ρ k1 ⟨hF.1, fcn (decide_eq_true e) (fcn (decide_eq_true (eD.trans e)) (fcn (di_lf (x := 904) (y := ρ.1 60000) (show _ ≤ (904 : Int) by omega)) hF.2))⟩ hI k4
  · have e : ρ.1 60096 = 132 := Int32.toInt_inj.mp h
    exact t_kwp0v132 hv ρ k1 ⟨hF.1, fcn (decide_eq_true e) (fcn (decide_eq_true (eD.trans e)) (fcn (di_lf (x := 892) (y := ρ.1 60000) (show _ ≤ (892 : Int) by omega)) hF.2))⟩ hI k4
  · have e : ρ.1 60096 = 144 := Int32.toInt_inj.mp h
    exact t_kwp0v144 hv ρ k1 ⟨hF.1, fcn (decide_eq_true e) (fcn (decide_eq_true (eD.trans e)) (fcn (di_lf (x := 880) (y := ρ.1 60000) (show _ ≤ (880 : Int) by omega)) hF.2))⟩ hI k4
theorem s_kwp0q {X : pX} : SREL X pF pdfl mt_all kR zKWp c_kwp0q := SREL_enter (d := 7) (q := q_kwp0) rfl c_kwp0q_f (fun ρ0 hv => t_kwp0 hv) rfl rfl rfl rfl
noncomputable def c_kwp0 : sC := (c_kwp0q.1, c_kwp0q.2.1, c_kwp0q.2.2.1, [((2, .arg 60000, .int 0), false), ((2, .int 1024, .add (.arg 60000) (.arg 60096)), false), ((0, .arg 19328, .arg 60096), true), ((2, .arg 60096, .int 0), false), ((2, .int 144, .arg 60096), false), ((2, .int 1024, .arg 60000), false), ((0, .rem (.arg 60096) (.int 12), .int 0), true), ((112, .add (.arg 60000) (.add (.elem (.arg 1380) (.int 0)) (.add (.int 0) (.elem (.arg 2212) (.int 0)))), .arg 60096), true)], (c_kwp0q.2.2.2.2.1.1, [64452, 64484, 1316]), (none, some (.int 0)), [((0, .arg 1330, .arg 60096), true), ((0, .arg 1586, .arg 60096), true)], ([], []))
theorem c_kwp0_f : cfine zWB 65536 c_kwp0 = true := by decide +kernel
theorem s_kwp0 {X : pX} : SREL X pF pdfl mt_all kR zWB c_kwp0 := SREL_share (p := 64452) (q := 64484) (s := 1316) (k := 46) (km := 232) (D := 1308) (n := 144) (c := 2276) (len := 144) (m := 576) s_kwp0q kR_0 kR_x (by decide) (by decide) (by decide +kernel) (by decide +kernel) (by decide) (by decide) (by decide) (by decide) (by decide) (by decide) (by decide) (by decide) (by decide) rfl rfl (by decide) (by decide) (by decide) (by decide) (by decide) rfl rfl rfl rfl (by decide +kernel) (by decide +kernel) (by decide +kernel) (by decide +kernel) (fun i hi => hi) (fun x hx => ⟨fun h => hx (by
    rcases List.mem_cons.mp h with h | h
    · rw [h]; exact List.mem_cons_self
    · rw [List.mem_singleton.mp h]; exact List.mem_cons_of_mem _ List.mem_cons_self), fun e => hx (by rw [e]; exact List.mem_cons_self), fun e => hx (by rw [e]; exact List.mem_cons_of_mem _ List.mem_cons_self), fun e => hx (by rw [e]; exact List.mem_cons_of_mem _ (List.mem_cons_of_mem _ List.mem_cons_self))⟩)
  (fun ρ kk ff ii => ⟨by
    have al : alk (fun _ => false) (fun i => i == 64452 || (i == 64484 || i == 1316)) (rsI 64484 (ρ.2.2.1 1316) (rsI 64452 (ρ.2.2.1 1316) ρ)) ρ := ⟨fun i _ => ⟨rfl, rfl⟩, fun x hx => by
      simp only [Bool.or_eq_false_iff, beq_eq_false_iff_ne, ne_eq] at hx
      exact ⟨(if_neg hx.2.1).trans (if_neg hx.1), rfl⟩⟩
    have h := nod_fall al (F := c_kwp0.2.2.2.1) (by decide +kernel) ff.2
    have h3 : sc X (rsI 64484 (ρ.2.2.1 1316) (rsI 64452 (ρ.2.2.1 1316) ρ)) (103, .add (.elem (.arg 64452) (.int 0)) (.elem (.arg 64484) (.int 0)), .int 144) = true := (k103 (by decide) (by decide) rfl).mpr (fun j _ => congrFun (rsI_pq (by decide)) j)
    exact fcn (h _ (List.mem_cons_self)) (fcn (h _ (List.mem_cons_of_mem _ (List.mem_cons_self))) (fcn (h _ (List.mem_cons_of_mem _ (List.mem_cons_of_mem _ (List.mem_cons_self)))) (fcn (h _ (List.mem_cons_of_mem _ (List.mem_cons_of_mem _ (List.mem_cons_of_mem _ (List.mem_cons_self))))) (fcn (h _ (List.mem_cons_of_mem _ (List.mem_cons_of_mem _ (List.mem_cons_of_mem _ (List.mem_cons_of_mem _ (List.mem_cons_self)))))) (fcn (h _ (List.mem_cons_of_mem _ (List.mem_cons_of_mem _ (List.mem_cons_of_mem _ (List.mem_cons_of_mem _ (List.mem_cons_of_mem _ (List.mem_cons_self))))))) (fcn (h _ (List.mem_cons_of_mem _ (List.mem_cons_of_mem _ (List.mem_cons_of_mem _ (List.mem_cons_of_mem _ (List.mem_cons_of_mem _ (List.mem_cons_of_mem _ (List.mem_cons_self)))))))) (fcn (h _ (List.mem_cons_of_mem _ (List.mem_cons_of_mem _ (List.mem_cons_of_mem _ (List.mem_cons_of_mem _ (List.mem_cons_of_mem _ (List.mem_cons_of_mem _ (List.mem_cons_of_mem _ (List.mem_cons_self))))))))) (fcn (h3) (fun f hf => by cases hf))))))))), fun c hc => by cases hc⟩)
  (fun ρ2 f2 i2 => ⟨fun j hj => (k103 (by decide) (by decide) rfl).mp (f2.2 _ (List.mem_cons_of_mem _ (List.mem_cons_of_mem _ (List.mem_cons_self)))) j (show (j : Int) < 144 by omega), nod_fall (ρ1 := rsI 1316 (ρ2.2.2.1 64452) ρ2) (ρ2 := ρ2) (V := fun _ => false) (R := fun i => i == 64452 || (i == 64484 || i == 1316)) ⟨fun i hi => ⟨rfl, rfl⟩, fun x hx => by
    simp only [Bool.or_eq_false_iff, beq_eq_false_iff_ne, ne_eq] at hx
    exact ⟨if_neg hx.2.2, rfl⟩⟩ (by decide +kernel) (fcn (f2.2 _ (List.mem_cons_self)) (fcn (f2.2 _ (List.mem_cons_of_mem _ (List.mem_cons_self))) (fun f hf => by cases hf))), fun c hc => by cases hc⟩)
noncomputable def c_kwp1q : sC := ((55, 278, 8), ([tr 42, .int 112, tr 78, .arg 60000, .arg 60096], [tr 219, .arg 1308, .int 112]), ([42, 44, 46, 47, 78], [219, 232, 233, 334, 222]), [((2, .arg 60000, .int 0), false), ((2, .int 1024, .add (.arg 60000) (.arg 60096)), false), ((0, .arg 19328, .arg 60096), true), ((2, .arg 60096, .int 0), false), ((2, .int 144, .arg 60096), false), ((2, .int 1024, .arg 60000), false), ((0, .rem (.arg 60096) (.int 12), .int 0), true), ((112, .add (.arg 60000) (.add (.elem (.arg 1412) (.int 0)) (.add (.int 0) (.elem (.arg 2212) (.int 0)))), .arg 60096), true), ((103, .add (.elem (.arg 64452) (.int 0)) (.elem (.arg 64484) (.int 0)), .int 144), true)], ([1330, 1586, 60032], [64452, 64484]), (none, some (.int 0)), [((0, .arg 1330, .arg 60096), true), ((0, .arg 1586, .arg 60096), true), ((103, .add (.elem (.arg 64452) (.int 0)) (.elem (.arg 64484) (.int 0)), .int 144), true)], ([], []))
theorem c_kwp1q_f : cfine zKWp 65536 c_kwp1q = true := by decide +kernel
noncomputable def zf98zzzcc_62 : sQ × Bool := ((112, .add (.arg 60000) (.add (.elem (.arg 1412) (.int 0)) (.add (.int 0) (.elem (.arg 64452) (.int 0)))), .arg 60096), true)
noncomputable def zf98zzzcc_63 : sQ × Bool := ((112, .add (.arg 60000) (.add (.elem (.arg 1412) (.int 0)) (.add (.int 0) (.elem (.arg 2212) (.int 0)))), .arg 60096), true)
noncomputable def q_kwp1L : sCut := ((fr 0 55 35 [] [], [fBot], 7), (fr 0 278 21 [(0, tr 219), (1, .arg 1308), (2, .int 112), (3, .int 0), (4, .arg 60032)] [], [fBot], 7), [zf98zzzcc_0, zf98zzzcc_1, zf98zzzcc_62, zf98zzzcc_3, zf98zzzcc_4, zf98zzzcc_5, zf98zzzcc_6, zf98zzzcc_7, zf98zzzcc_8, zf98zzzcc_63], [])
noncomputable def q_kwp1LL : sCut := ((fr 0 55 35 [] [], [fBot], 7), (fr 0 278 21 [(0, tr 219), (1, .arg 1308), (2, .int 112), (3, .int 0), (4, .arg 60032)] [], [fBot], 7), [zf98zzzcc_10, zf98zzzcc_0, zf98zzzcc_1, zf98zzzcc_62, zf98zzzcc_3, zf98zzzcc_4, zf98zzzcc_5, zf98zzzcc_6, zf98zzzcc_7, zf98zzzcc_8, zf98zzzcc_63], [])
noncomputable def q_kwp1LT : sCut := ((fr 0 55 35 [] [], [fBot], 7), (fr 0 278 21 [(0, tr 219), (1, .arg 1308), (2, .int 112), (3, .int 0), (4, .arg 60032)] [], [fBot], 7), [zf98zzzcc_10, zf98zzzcc_5, zf98zzzcc_6, zf98zzzcc_7, zf98zzzcc_8, zf98zzzcc_63], [])
noncomputable def q_kwp1ST : sCut := ((fr 0 55 35 [] [], [fBot], 7), (fr 0 278 21 [(0, tr 219), (1, .arg 1308), (2, .int 112), (3, .int 0), (4, .arg 60032)] [], [fBot], 7), [zf98zzzcc_5, zf98zzzcc_6, zf98zzzcc_7, zf98zzzcc_8, zf98zzzcc_63], [])
noncomputable def q_kwp1E : sCut := ((fr 0 55 35 [] [], [fBot], 7), (fr 0 278 21 [(0, tr 219), (1, .arg 1308), (2, .int 112), (3, .int 0), (4, .arg 60032)] [], [fBot], 7), [zf98zzzcc_11, zf98zzzcc_0, zf98zzzcc_1, zf98zzzcc_62, zf98zzzcc_3, zf98zzzcc_4, zf98zzzcc_5, zf98zzzcc_6, zf98zzzcc_7, zf98zzzcc_8, zf98zzzcc_63], [])
noncomputable def q_kwp1En : sCut := ((fr 0 55 35 [] [], [fBot], 7), (fr 0 278 21 [(0, tr 219), (1, .arg 1308), (2, .int 112), (3, .int 0), (4, .arg 60032)] [], [fBot], 7), [zf98zzzcc_12, zf98zzzcc_13, zf98zzzcc_14, zf98zzzcc_15, zf98zzzcc_11, zf98zzzcc_0, zf98zzzcc_1, zf98zzzcc_62, zf98zzzcc_3, zf98zzzcc_4, zf98zzzcc_5, zf98zzzcc_6, zf98zzzcc_7, zf98zzzcc_8, zf98zzzcc_63], [])
noncomputable def w_kwp1En : List (sCut × List (Nat × sT) × List (Nat × sT × List (sT × sT))) := [(q_kwp1LT, [(60032, .add (.arg 60032) (.int 1))], [(64452, .arg 64452, []), (64484, .arg 64484, [(.arg 60032, .elem (.arg 2212) (.arg 60032))])])]
theorem k_kwp1En : cbody kR [] (cpl1 zKWp c_kwp1q [q_kwp1LT]) (cpl2 zKWp c_kwp1q [q_kwp1LT]) (cleafB kR zKWp c_kwp1q w_kwp1En) 120 false true q_kwp1En.2.2.1 q_kwp1En.2.2.2 (cst zKWp c_kwp1q.2.2.1.1 q_kwp1En.1) (cst zKWp c_kwp1q.2.2.1.2 q_kwp1En.2.1) = true := by decide +kernel
theorem t_kwp1En {X : pX} {ρ0 : sR} (hv : vok X ρ0) (hk_ : CUTOK X kR zKWp c_kwp1q 7 ρ0 q_kwp1LL) : CUTOK X kR zKWp c_kwp1q 7 ρ0 q_kwp1En := CUTOK_AT (fun ρ k1 hF hI k4 => AT_of (q := q_kwp1En) rfl rfl (SEM_runB kR_x kR_0 (Cs := []) (fun C hC => by cases hC) c_kwp1q_f (Q := w_kwp1En) hv 120 (b1 := false) (b2 := true) k_kwp1En k1 hF hI k4 (fun p hp ρ3 m1 m2 m3 m4 m5 m6 => by
  rw [List.mem_singleton.mp hp] at m2 m3 m5 m6 ⊢
  have v0 : (0 : Int) ≤ (ρ.1 60096).toInt := ri_lf (x := ρ.1 60096) (y := 0) (hF.2 _ (List.mem_cons_of_mem _ (List.mem_cons_of_mem _ (List.mem_cons_of_mem _ (List.mem_cons_of_mem _ (List.mem_cons_of_mem _ (List.mem_cons_of_mem _ (List.mem_cons_of_mem _ (List.mem_cons_of_mem _ (List.mem_cons_of_mem _ (List.mem_cons_of_mem _ (List.mem_cons_of_mem _ (List.mem_cons_self)))))))))))))
  have v1 : (ρ.1 60096).toInt ≤ 144 := ri_lf (x := 144) (y := ρ.1 60096) (hF.2 _ (List.mem_cons_of_mem _ (List.mem_cons_of_mem _ (List.mem_cons_of_mem _ (List.mem_cons_of_mem _ (List.mem_cons_of_mem _ (List.mem_cons_of_mem _ (List.mem_cons_of_mem _ (List.mem_cons_of_mem _ (List.mem_cons_of_mem _ (List.mem_cons_of_mem _ (List.mem_cons_of_mem _ (List.mem_cons_of_mem _ (List.mem_cons_self))))))))))))))
  have c0 : (0 : Int) ≤ (ρ.1 60032).toInt := ri_lf (x := ρ.1 60032) (y := 0) (hF.2 _ (List.mem_cons_of_mem _ (List.mem_cons_of_mem _ (List.mem_cons_of_mem _ (List.mem_cons_of_mem _ (List.mem_cons_of_mem _ (List.mem_cons_of_mem _ (List.mem_cons_of_mem _ (List.mem_cons_of_mem _ (List.mem_cons_self))))))))))
  have c1 : (ρ.1 60032).toInt ≤ (ρ.1 60096).toInt := ri_lf (x := ρ.1 60096) (y := ρ.1 60032) (hF.2 _ (List.mem_cons_of_mem _ (List.mem_cons_of_mem _ (List.mem_cons_of_mem _ (List.mem_cons_of_mem _ (List.mem_cons_of_mem _ (List.mem_cons_of_mem _ (List.mem_cons_of_mem _ (List.mem_cons_of_mem _ (List.mem_cons_of_mem _ (List.mem_cons_self)))))))))))
  have ek : (ρ.1 60032 + 1).toInt = (ρ.1 60032).toInt + 1 := s_add (y := 1) (by show _ ≤ _ + (1 : Int); omega) (by show _ + (1 : Int) ≤ _; omega)
  have en : ((144 : Int32) - ρ.1 60096).toInt = 144 - (ρ.1 60096).toInt := i_of (i_sb (show (144 : Int32) = Int32.ofInt 144 from rfl) (i_s _)) (by omega) (by omega)
  have t1 : ρ3.1 60032 = ρ.1 60032 + 1 := congrArg Prod.fst (m5 _ (List.mem_cons_self))
  have hP : ∀ j, ρ3.2.2.1 64452 j = ρ.2.2.1 64452 j := fun j => Value.int.inj (m6 (64452, .arg 64452, []) (List.mem_cons_self) j)
  have hQ : ∀ j, ρ3.2.2.1 64484 j = if (ρ.1 60032).toInt.toNat = j then ρ.2.2.1 2212 (ρ.1 60032).toInt.toNat else ρ.2.2.1 64484 j := fun j => by
    have hw : Value.int (ρ3.2.2.1 64484 j) = if (ρ.1 60032).toNatClampNeg = j then Value.int (ρ.2.2.1 2212 (ρ.1 60032).toNatClampNeg) else Value.int (ρ.2.2.1 64484 j) := m6 (64484, .arg 64484, [(.arg 60032, .elem (.arg 2212) (.arg 60032))]) (List.mem_cons_of_mem _ (List.mem_cons_self)) j
    rw [s_nat] at hw
    by_cases hj : (ρ.1 60032).toInt.toNat = j
    · rw [if_pos hj] at hw ⊢; exact Value.int.inj hw
    · rw [if_neg hj] at hw ⊢; exact Value.int.inj hw
  have eV : ρ3.1 60096 = ρ.1 60096 := (m4.1 60096 (by decide) (by decide)).1.trans (k4.1 60096 (by decide) (by decide)).1.symm
  have eA : ρ3.1 60000 = ρ.1 60000 := (m4.1 60000 (by decide) (by decide)).1.trans (k4.1 60000 (by decide) (by decide)).1.symm
  have eB : ρ3.2.2.1 1412 = ρ.2.2.1 1412 := (m4.2 1412 (by decide) (by decide)).1.trans (k4.2 1412 (by decide) (by decide)).1.symm
  have hl : (ρ.1 60032).toInt < (ρ.1 60096).toInt := ri_lt (x := ρ.1 60032) (y := ρ.1 60096) (hF.2 _ (List.mem_cons_self))
  have h3 := (k103 (by decide) (by decide) rfl).mp (hF.2 _ (List.mem_cons_of_mem _ (List.mem_cons_of_mem _ (List.mem_cons_of_mem _ (List.mem_cons_of_mem _ (List.mem_cons_of_mem _ (List.mem_cons_self)))))))
  have ht := (k112v (a := 64452) (b := 64484) (s := .arg 60096) (t := .arg 60096) (n := .sub (.int 144) (.arg 60096)) (by decide) (by decide) rfl rfl rfl).mp (hF.2 _ (List.mem_cons_of_mem _ (List.mem_cons_of_mem _ (List.mem_cons_of_mem _ (List.mem_cons_of_mem _ (List.mem_cons_of_mem _ (List.mem_cons_of_mem _ (List.mem_cons_self))))))))
  have hp := (k112v (a := 1412) (b := 64452) (s := .arg 60000) (t := .int 0) (n := .arg 60096) (by decide) (by decide) rfl rfl rfl).mp (hF.2 _ (List.mem_cons_of_mem _ (List.mem_cons_of_mem _ (List.mem_cons_of_mem _ (List.mem_cons_of_mem _ (List.mem_cons_of_mem _ (List.mem_cons_of_mem _ (List.mem_cons_of_mem _ (List.mem_cons_self)))))))))
  have hd := (k112v (a := 1412) (b := 2212) (s := .arg 60000) (t := .int 0) (n := .arg 60096) (by decide) (by decide) rfl rfl rfl).mp (hF.2 _ (List.mem_cons_of_mem _ (List.mem_cons_of_mem _ (List.mem_cons_of_mem _ (List.mem_cons_of_mem _ (List.mem_cons_of_mem _ (List.mem_cons_of_mem _ (List.mem_cons_of_mem _ (List.mem_cons_of_mem _ (List.mem_cons_of_mem _ (List.mem_cons_of_mem _ (List.mem_cons_of_mem _ (List.mem_cons_of_mem _ (List.mem_cons_of_mem _ (List.mem_cons_of_mem _ (List.mem_cons_self))))))))))))))))
  have x3 : sc X ρ3 (103, .add (.elem (.arg 64452) (.int 0)) (.elem (.arg 64484) (.int 0)), .arg 60032) = true := (k103 (by decide) (by decide) rfl).mpr (fun j hj => by
    have hj : (j : Int) < (ρ3.1 60032).toInt := hj
    rw [t1, ek] at hj
    rw [hP, hQ]
    by_cases e : (ρ.1 60032).toInt.toNat = j
    · rw [if_pos e, e]
      have a1 := hp j (show (j : Int) < (ρ.1 60096).toInt by omega)
      have a2 := hd j (show (j : Int) < (ρ.1 60096).toInt by omega)
      have a3 := a1.symm.trans a2
      have z0 : (0 : Int32).toInt.toNat + j = j := Nat.zero_add j
      rw [show (sd X ρ (.int 0)).1.toInt.toNat + j = j from z0] at a3
      exact a3
    · rw [if_neg e]
      exact h3 j (show (j : Int) < (ρ.1 60032).toInt by omega))
  have xt : sc X ρ3 (112, .add (.arg 60096) (.add (.elem (.arg 64452) (.int 0)) (.add (.arg 60096) (.elem (.arg 64484) (.int 0)))), .sub (.int 144) (.arg 60096)) = true := (k112v (a := 64452) (b := 64484) (s := .arg 60096) (t := .arg 60096) (n := .sub (.int 144) (.arg 60096)) (by decide) (by decide) rfl rfl rfl).mpr (fun j hj => by
    have hj : (j : Int) < ((144 : Int32) - ρ3.1 60096).toInt := hj
    rw [eV] at hj
    show ρ3.2.2.1 64452 ((ρ3.1 60096).toInt.toNat + j) = ρ3.2.2.1 64484 ((ρ3.1 60096).toInt.toNat + j)
    rw [eV, hP, hQ, if_neg (by omega)]
    exact ht j hj)
  have xp : sc X ρ3 (112, .add (.arg 60000) (.add (.elem (.arg 1412) (.int 0)) (.add (.int 0) (.elem (.arg 64452) (.int 0)))), .arg 60096) = true := (k112v (a := 1412) (b := 64452) (s := .arg 60000) (t := .int 0) (n := .arg 60096) (by decide) (by decide) rfl rfl rfl).mpr (fun j hj => by
    have hj : (j : Int) < (ρ3.1 60096).toInt := hj
    rw [eV] at hj
    show ρ3.2.2.1 1412 ((ρ3.1 60000).toInt.toNat + j) = ρ3.2.2.1 64452 ((0 : Int32).toInt.toNat + j)
    rw [eA, eB, hP]
    exact hp j hj)
  have y1 : sc X ρ3 (2, .arg 60032, .int 0) = false := di_lf (x := ρ3.1 60032) (y := 0) (by rw [t1, ek]; show (0 : Int) ≤ _; omega)
  have y2 : sc X ρ3 (2, .arg 60096, .arg 60032) = false := di_lf (x := ρ3.1 60096) (y := ρ3.1 60032) (by rw [t1, ek, eV]; omega)
  exact hk_ ρ3 m1 ⟨m2.1, fcn (m2.2 _ (List.mem_cons_self)) (fcn (x3) (fcn (xt) (fcn (xp) (fcn (y1) (fcn (y2) (fun f hf => m2.2 f (List.mem_cons_of_mem _ hf)))))))⟩ m3 m4)))
noncomputable def q_kwp1Ee : sCut := ((fr 0 55 35 [] [], [fBot], 7), (fr 0 278 21 [(0, tr 219), (1, .arg 1308), (2, .int 112), (3, .int 0), (4, .arg 60032)] [], [fBot], 7), [zf98zzzcc_16, zf98zzzcc_17, zf98zzzcc_18, zf98zzzcc_19, zf98zzzcc_11, zf98zzzcc_0, zf98zzzcc_1, zf98zzzcc_62, zf98zzzcc_3, zf98zzzcc_4, zf98zzzcc_5, zf98zzzcc_6, zf98zzzcc_7, zf98zzzcc_8, zf98zzzcc_63], [])
theorem k_kwp1Ee : cbody kR [] (cpl1 zKWp c_kwp1q []) (cpl2 zKWp c_kwp1q []) (cleaf kR zKWp c_kwp1q []) 120 true true q_kwp1Ee.2.2.1 q_kwp1Ee.2.2.2 (cst zKWp c_kwp1q.2.2.1.1 q_kwp1Ee.1) (cst zKWp c_kwp1q.2.2.1.2 q_kwp1Ee.2.1) = true := by decide +kernel
theorem t_kwp1Ee {X : pX} {ρ0 : sR} (hv : vok X ρ0) (hk_ : CUTOK X kR zKWp c_kwp1q 7 ρ0 q_kwp1LL) : CUTOK X kR zKWp c_kwp1q 7 ρ0 q_kwp1Ee := CUT_run kR_x kR_0 (Cs := []) (fun C hC => by cases hC) c_kwp1q_f (Q := []) hv (fun q hq => by cases hq) 120 (b1 := true) (b2 := true) k_kwp1Ee
theorem t_kwp1E {X : pX} {ρ0 : sR} (hv : vok X ρ0) (hk_ : CUTOK X kR zKWp c_kwp1q 7 ρ0 q_kwp1LL) : CUTOK X kR zKWp c_kwp1q 7 ρ0 q_kwp1E := fun ρ k1 hF hI k4 => by
  have v0 : (0 : Int) ≤ (ρ.1 60096).toInt := ri_lf (x := ρ.1 60096) (y := 0) (hF.2 _ (List.mem_cons_of_mem _ (List.mem_cons_of_mem _ (List.mem_cons_of_mem _ (List.mem_cons_of_mem _ (List.mem_cons_of_mem _ (List.mem_cons_of_mem _ (List.mem_cons_of_mem _ (List.mem_cons_self)))))))))
  have v1 : (ρ.1 60096).toInt ≤ 144 := ri_lf (x := 144) (y := ρ.1 60096) (hF.2 _ (List.mem_cons_of_mem _ (List.mem_cons_of_mem _ (List.mem_cons_of_mem _ (List.mem_cons_of_mem _ (List.mem_cons_of_mem _ (List.mem_cons_of_mem _ (List.mem_cons_of_mem _ (List.mem_cons_of_mem _ (List.mem_cons_self))))))))))
  have c0 : (0 : Int) ≤ (ρ.1 60032).toInt := ri_lf (x := ρ.1 60032) (y := 0) (hF.2 _ (List.mem_cons_of_mem _ (List.mem_cons_of_mem _ (List.mem_cons_of_mem _ (List.mem_cons_of_mem _ (List.mem_cons_self))))))
  have c1 : (ρ.1 60032).toInt ≤ (ρ.1 60096).toInt := ri_lf (x := ρ.1 60096) (y := ρ.1 60032) (hF.2 _ (List.mem_cons_of_mem _ (List.mem_cons_of_mem _ (List.mem_cons_of_mem _ (List.mem_cons_of_mem _ (List.mem_cons_of_mem _ (List.mem_cons_self)))))))
  have ek : (ρ.1 60032 + 1).toInt = (ρ.1 60032).toInt + 1 := s_add (y := 1) (by show _ ≤ _ + (1 : Int); omega) (by show _ + (1 : Int) ≤ _; omega)
  have en : ((144 : Int32) - ρ.1 60096).toInt = 144 - (ρ.1 60096).toInt := i_of (i_sb (show (144 : Int32) = Int32.ofInt 144 from rfl) (i_s _)) (by omega) (by omega)
  have eD : ρ.1 19328 = ρ.1 60096 := of_decide_eq_true (hF.2 _ (List.mem_cons_of_mem _ (List.mem_cons_of_mem _ (List.mem_cons_of_mem _ (List.mem_cons_of_mem _ (List.mem_cons_of_mem _ (List.mem_cons_of_mem _ (List.mem_cons_self))))))))
  have hgg : ρ.1 60096 - ρ.1 60032 = ρ.1 65024 := of_decide_eq_true (hF.2 _ (List.mem_cons_self))
  have em : (ρ.1 60096 - ρ.1 60032).toInt = (ρ.1 60096).toInt - (ρ.1 60032).toInt := i_of (by rw [i_sb (i_s (ρ.1 60096)) (i_s (ρ.1 60032))]) (by omega) (by omega)
  have e1 : (ρ.1 60096 - (ρ.1 60032 + 1)).toInt = (ρ.1 60096).toInt - (ρ.1 60032).toInt - 1 := i_of (n := (ρ.1 60096).toInt - (ρ.1 60032).toInt - 1) (by rw [i_sb (i_s (ρ.1 60096)) (i_s (ρ.1 60032 + 1)), ek]; congr 1; omega) (by omega) (by omega)
  by_cases hl : (ρ.1 60032).toInt < (ρ.1 60096).toInt
  · exact t_kwp1En hv hk_ ρ k1 ⟨hF.1, fcn (di_lt (x := ρ.1 60032) (y := ρ.1 60096) hl) (fcn (di_lt (x := ρ.1 60032) (y := ρ.1 19328) (by rw [eD]; exact hl)) (fcn (di_lf (x := 143) (y := ρ.1 60032) (show _ ≤ (143 : Int) by omega)) (fcn (di_lt (x := ρ.1 60096 - (ρ.1 60032 + 1)) (y := ρ.1 65024) (by rw [← hgg, em, e1]; omega)) (hF.2))))⟩ hI k4
  have h3 := (k103 (by decide) (by decide) rfl).mp (hF.2 _ (List.mem_cons_of_mem _ (List.mem_cons_self)))
  have ht := (k112v (a := 64452) (b := 64484) (s := .arg 60096) (t := .arg 60096) (n := .sub (.int 144) (.arg 60096)) (by decide) (by decide) rfl rfl rfl).mp (hF.2 _ (List.mem_cons_of_mem _ (List.mem_cons_of_mem _ (List.mem_cons_self))))
  have x3 : sc X ρ (103, .add (.elem (.arg 64452) (.int 0)) (.elem (.arg 64484) (.int 0)), .int 144) = true := (k103 (by decide) (by decide) rfl).mpr (fun j hj => by
    have hj : (j : Int) < 144 := hj
    by_cases e : (j : Int) < (ρ.1 60032).toInt
    · exact h3 j e
    · have := ht (j - (ρ.1 60096).toInt.toNat) (show ((j - (ρ.1 60096).toInt.toNat : Nat) : Int) < ((144 : Int32) - ρ.1 60096).toInt by rw [en]; omega)
      have z : (ρ.1 60096).toInt.toNat + (j - (ρ.1 60096).toInt.toNat) = j := by omega
      have this : ρ.2.2.1 64452 ((ρ.1 60096).toInt.toNat + (j - (ρ.1 60096).toInt.toNat)) = ρ.2.2.1 64484 ((ρ.1 60096).toInt.toNat + (j - (ρ.1 60096).toInt.toNat)) := this
      rw [z] at this
      exact this)
  exact t_kwp1Ee hv hk_ ρ k1 ⟨hF.1, fcn (di_lf (x := ρ.1 60032) (y := ρ.1 19328) (by rw [eD]; omega)) (fcn (di_lf (x := ρ.1 19328) (y := 0) (by rw [eD]; exact v0)) (fcn (di_lf (x := 144) (y := ρ.1 19328) (by rw [eD]; exact v1)) (fcn (x3) (hF.2))))⟩ hI k4
theorem t_kwp1L {X : pX} {ρ0 : sR} (hv : vok X ρ0) : CUTOK X kR zKWp c_kwp1q 7 ρ0 q_kwp1L := CUT_again (g := 65024) (mt := .sub (.arg 60096) (.arg 60032)) kR_x (by decide +kernel) (by decide) (by decide) (by decide) (by decide +kernel) (by decide +kernel) (by decide +kernel) (by decide +kernel) (by decide +kernel) (fun ρ0 hv hk => t_kwp1E hv hk) ρ0 hv
theorem kwp1_go {X : pX} {ρ0 ρ ρ3 : sR} (hv : vok X ρ0) (k2 : fall X ρ c_kwp1q.2.2.2.1) (m1 : kok X ρ3 kR) (m2 : fok X ρ3 q_kwp1ST.2.2.1) (m3 : iok X ρ3 []) (m4 : agrM 65536 c_kwp1q.2.2.2.2.1.1 c_kwp1q.2.2.2.2.1.2 ρ3 ρ0) (k4 : agrM 65536 c_kwp1q.2.2.2.2.1.1 c_kwp1q.2.2.2.2.1.2 ρ ρ0) (t1 : ρ3.1 60032 = 0) {m : Nat} (hm : (ρ.1 60096).toInt = m) (hP : ∀ j, bden X ρ3 (.arg 64452) j = aden X ρ (.arg 64452) (cpW 1412 60000 m) j) (hQ : ∀ j, bden X ρ3 (.arg 64484) j = bden X ρ (.arg 64484) j) : AT X zKWp c_kwp1q 7 ρ0 ρ3 q_kwp1ST := by
  have v0 : (0 : Int) ≤ (ρ.1 60096).toInt := ri_lf (x := ρ.1 60096) (y := 0) (k2 _ (List.mem_cons_of_mem _ (List.mem_cons_of_mem _ (List.mem_cons_of_mem _ (List.mem_cons_self)))))
  have v1 : (ρ.1 60096).toInt ≤ 144 := ri_lf (x := 144) (y := ρ.1 60096) (k2 _ (List.mem_cons_of_mem _ (List.mem_cons_of_mem _ (List.mem_cons_of_mem _ (List.mem_cons_of_mem _ (List.mem_cons_self))))))
  have a0 : (0 : Int) ≤ (ρ.1 60000).toInt := ri_lf (x := ρ.1 60000) (y := 0) (k2 _ (List.mem_cons_self))
  have a1 : (ρ.1 60000).toInt ≤ 1024 := ri_lf (x := 1024) (y := ρ.1 60000) (k2 _ (List.mem_cons_of_mem _ (List.mem_cons_of_mem _ (List.mem_cons_of_mem _ (List.mem_cons_of_mem _ (List.mem_cons_of_mem _ (List.mem_cons_self)))))))
  have eV : ρ3.1 60096 = ρ.1 60096 := (m4.1 60096 (by decide) (by decide)).1.trans (k4.1 60096 (by decide) (by decide)).1.symm
  have eA : ρ3.1 60000 = ρ.1 60000 := (m4.1 60000 (by decide) (by decide)).1.trans (k4.1 60000 (by decide) (by decide)).1.symm
  have eB : ρ3.2.2.1 1412 = ρ.2.2.1 1412 := (m4.2 1412 (by decide) (by decide)).1.trans (k4.2 1412 (by decide) (by decide)).1.symm
  have hP : ∀ j, ρ3.2.2.1 64452 j = if j < m then ρ.2.2.1 1412 ((ρ.1 60000).toInt.toNat + j) else ρ.2.2.1 64452 j := fun j => by
    have h := hP j
    rw [cp_v (by decide) (by decide) a0 (by omega) m (by omega)] at h
    exact Value.int.inj h
  have hQ : ∀ j, ρ3.2.2.1 64484 j = ρ.2.2.1 64484 j := fun j => Value.int.inj (hQ j)
  have h3 := (k103 (by decide) (by decide) rfl).mp (k2 _ (List.mem_cons_of_mem _ (List.mem_cons_of_mem _ (List.mem_cons_of_mem _ (List.mem_cons_of_mem _ (List.mem_cons_of_mem _ (List.mem_cons_of_mem _ (List.mem_cons_of_mem _ (List.mem_cons_of_mem _ (List.mem_cons_self))))))))))
  have en : ((144 : Int32) - ρ.1 60096).toInt = 144 - (ρ.1 60096).toInt := i_of (i_sb (show (144 : Int32) = Int32.ofInt 144 from rfl) (i_s _)) (by omega) (by omega)
  have x3 : sc X ρ3 (103, .add (.elem (.arg 64452) (.int 0)) (.elem (.arg 64484) (.int 0)), .arg 60032) = true := (k103 (by decide) (by decide) rfl).mpr (fun j hj => by
    have hj : (j : Int) < (ρ3.1 60032).toInt := hj
    rw [t1] at hj
    have z0 : (0 : Int32).toInt = 0 := rfl
    omega)
  have xt : sc X ρ3 (112, .add (.arg 60096) (.add (.elem (.arg 64452) (.int 0)) (.add (.arg 60096) (.elem (.arg 64484) (.int 0)))), .sub (.int 144) (.arg 60096)) = true := (k112v (a := 64452) (b := 64484) (s := .arg 60096) (t := .arg 60096) (n := .sub (.int 144) (.arg 60096)) (by decide) (by decide) rfl rfl rfl).mpr (fun j hj => by
    have hj : (j : Int) < ((144 : Int32) - ρ3.1 60096).toInt := hj
    rw [eV, en] at hj
    show ρ3.2.2.1 64452 ((ρ3.1 60096).toInt.toNat + j) = ρ3.2.2.1 64484 ((ρ3.1 60096).toInt.toNat + j)
    rw [eV, hP, hQ, if_neg (by omega)]
    exact h3 _ (show (((ρ.1 60096).toInt.toNat + j : Nat) : Int) < 144 by omega))
  have xp : sc X ρ3 (112, .add (.arg 60000) (.add (.elem (.arg 1412) (.int 0)) (.add (.int 0) (.elem (.arg 64452) (.int 0)))), .arg 60096) = true := (k112v (a := 1412) (b := 64452) (s := .arg 60000) (t := .int 0) (n := .arg 60096) (by decide) (by decide) rfl rfl rfl).mpr (fun j hj => by
    have hj : (j : Int) < (ρ3.1 60096).toInt := hj
    rw [eV] at hj
    show ρ3.2.2.1 1412 ((ρ3.1 60000).toInt.toNat + j) = ρ3.2.2.1 64452 ((0 : Int32).toInt.toNat + j)
    have z0 : (0 : Int32).toInt.toNat + j = j := Nat.zero_add j
    rw [z0, eA, eB, hP, if_pos (by omega)])
  have y1 : sc X ρ3 (2, .arg 60032, .int 0) = false := di_lf (x := ρ3.1 60032) (y := 0) (by rw [t1]; exact Int.le_refl _)
  have y2 : sc X ρ3 (2, .arg 60096, .arg 60032) = false := di_lf (x := ρ3.1 60096) (y := ρ3.1 60032) (by rw [t1, eV]; exact v0)
  exact AT_of (q := q_kwp1L) rfl rfl (t_kwp1L hv ρ3 m1 ⟨m2.1, fcn x3 (fcn xt (fcn xp (fcn y1 (fcn y2 m2.2))))⟩ m3 m4)
noncomputable def q_kwp1v0 : sCut := ((fr 0 55 0 [(0, tr 42), (1, .int 112), (2, tr 78), (3, .arg 60000), (4, .arg 60096)] [], [fBot], 7), (fr 0 278 0 [(0, tr 219), (1, .arg 1308), (2, .int 112)] [], [fBot], 7), [zf98zzzcc_20, zf98zzzcc_21, zf98zzzcc_22, zf98zzzcc_23, zf98zzzcc_24, zf98zzzcc_5, zf98zzzcc_6, zf98zzzcc_7, zf98zzzcc_22, zf98zzzcc_25, zf98zzzcc_63, zf98zzzcc_19], [])
noncomputable def w_kwp1v0 : List (sCut × List (Nat × sT) × List (Nat × sT × List (sT × sT))) := [(q_kwp1ST, [(60032, .int 0)], [(64452, .arg 64452, cpW 1412 60000 0), (64484, .arg 64484, [])])]
theorem k_kwp1v0 : cbody kR [] (cpl1 zKWp c_kwp1q [q_kwp1ST]) (cpl2 zKWp c_kwp1q [q_kwp1ST]) (cleafB kR zKWp c_kwp1q w_kwp1v0) 160 true true q_kwp1v0.2.2.1 q_kwp1v0.2.2.2 (cst zKWp c_kwp1q.2.2.1.1 q_kwp1v0.1) (cst zKWp c_kwp1q.2.2.1.2 q_kwp1v0.2.1) = true := by decide +kernel
theorem t_kwp1v0 {X : pX} {ρ0 : sR} (hv : vok X ρ0) : CUTOK X kR zKWp c_kwp1q 7 ρ0 q_kwp1v0 := CUTOK_AT (fun ρ k1 hF hI k4 => AT_of (q := q_kwp1v0) rfl rfl (SEM_runB kR_x kR_0 (Cs := []) (fun C hC => by cases hC) c_kwp1q_f (Q := w_kwp1v0) hv 160 (b1 := true) (b2 := true) k_kwp1v0 k1 hF hI k4 (fun p hp ρ3 m1 m2 m3 m4 m5 m6 => by
  rw [List.mem_singleton.mp hp] at m2 m3 m5 m6 ⊢
  exact kwp1_go hv (fun f hf => hF.2 f (List.mem_cons_of_mem _ (List.mem_cons_of_mem _ (List.mem_cons_of_mem _ hf)))) m1 m2 m3 m4 k4 (congrArg Prod.fst (m5 _ (List.mem_cons_self))) (m := 0) (by rw [show ρ.1 60096 = 0 from of_decide_eq_true (hF.2 _ (List.mem_cons_self))]; rfl) (fun j => m6 (64452, .arg 64452, cpW 1412 60000 0) (List.mem_cons_self) j) (fun j => m6 (64484, .arg 64484, []) (List.mem_cons_of_mem _ (List.mem_cons_self)) j))))
noncomputable def q_kwp1v12 : sCut := ((fr 0 55 0 [(0, tr 42), (1, .int 112), (2, tr 78), (3, .arg 60000), (4, .arg 60096)] [], [fBot], 7), (fr 0 278 0 [(0, tr 219), (1, .arg 1308), (2, .int 112)] [], [fBot], 7), [zf98zzzcc_26, zf98zzzcc_27, zf98zzzcc_28, zf98zzzcc_23, zf98zzzcc_24, zf98zzzcc_5, zf98zzzcc_6, zf98zzzcc_7, zf98zzzcc_22, zf98zzzcc_25, zf98zzzcc_63, zf98zzzcc_19], [])
noncomputable def w_kwp1v12 : List (sCut × List (Nat × sT) × List (Nat × sT × List (sT × sT))) := [(q_kwp1ST, [(60032, .int 0)], [(64452, .arg 64452, cpW 1412 60000 12), (64484, .arg 64484, [])])]
theorem k_kwp1v12 : cbody kR [] (cpl1 zKWp c_kwp1q [q_kwp1ST]) (cpl2 zKWp c_kwp1q [q_kwp1ST]) (cleafB kR zKWp c_kwp1q w_kwp1v12) 160 true true q_kwp1v12.2.2.1 q_kwp1v12.2.2.2 (cst zKWp c_kwp1q.2.2.1.1 q_kwp1v12.1) (cst zKWp c_kwp1q.2.2.1.2 q_kwp1v12.2.1) = true := by decide +kernel
theorem t_kwp1v12 {X : pX} {ρ0 : sR} (hv : vok X ρ0) : CUTOK X kR zKWp c_kwp1q 7 ρ0 q_kwp1v12 := CUTOK_AT (fun ρ k1 hF hI k4 => AT_of (q := q_kwp1v12) rfl rfl (SEM_runB kR_x kR_0 (Cs := []) (fun C hC => by cases hC) c_kwp1q_f (Q := w_kwp1v12) hv 160 (b1 := true) (b2 := true) k_kwp1v12 k1 hF hI k4 (fun p hp ρ3 m1 m2 m3 m4 m5 m6 => by
  rw [List.mem_singleton.mp hp] at m2 m3 m5 m6 ⊢
  exact kwp1_go hv (fun f hf => hF.2 f (List.mem_cons_of_mem _ (List.mem_cons_of_mem _ (List.mem_cons_of_mem _ hf)))) m1 m2 m3 m4 k4 (congrArg Prod.fst (m5 _ (List.mem_cons_self))) (m := 12) (by rw [show ρ.1 60096 = 12 from of_decide_eq_true (hF.2 _ (List.mem_cons_self))]; rfl) (fun j => m6 (64452, .arg 64452, cpW 1412 60000 12) (List.mem_cons_self) j) (fun j => m6 (64484, .arg 64484, []) (List.mem_cons_of_mem _ (List.mem_cons_self)) j))))
noncomputable def q_kwp1v24 : sCut := ((fr 0 55 0 [(0, tr 42), (1, .int 112), (2, tr 78), (3, .arg 60000), (4, .arg 60096)] [], [fBot], 7), (fr 0 278 0 [(0, tr 219), (1, .arg 1308), (2, .int 112)] [], [fBot], 7), [zf98zzzcc_29, zf98zzzcc_30, zf98zzzcc_31, zf98zzzcc_23, zf98zzzcc_24, zf98zzzcc_5, zf98zzzcc_6, zf98zzzcc_7, zf98zzzcc_22, zf98zzzcc_25, zf98zzzcc_63, zf98zzzcc_19], [])
noncomputable def w_kwp1v24 : List (sCut × List (Nat × sT) × List (Nat × sT × List (sT × sT))) := [(q_kwp1ST, [(60032, .int 0)], [(64452, .arg 64452, cpW 1412 60000 24), (64484, .arg 64484, [])])]
theorem k_kwp1v24 : cbody kR [] (cpl1 zKWp c_kwp1q [q_kwp1ST]) (cpl2 zKWp c_kwp1q [q_kwp1ST]) (cleafB kR zKWp c_kwp1q w_kwp1v24) 160 true true q_kwp1v24.2.2.1 q_kwp1v24.2.2.2 (cst zKWp c_kwp1q.2.2.1.1 q_kwp1v24.1) (cst zKWp c_kwp1q.2.2.1.2 q_kwp1v24.2.1) = true := by decide +kernel
theorem t_kwp1v24 {X : pX} {ρ0 : sR} (hv : vok X ρ0) : CUTOK X kR zKWp c_kwp1q 7 ρ0 q_kwp1v24 := CUTOK_AT (fun ρ k1 hF hI k4 => AT_of (q := q_kwp1v24) rfl rfl (SEM_runB kR_x kR_0 (Cs := []) (fun C hC => by cases hC) c_kwp1q_f (Q := w_kwp1v24) hv 160 (b1 := true) (b2 := true) k_kwp1v24 k1 hF hI k4 (fun p hp ρ3 m1 m2 m3 m4 m5 m6 => by
  rw [List.mem_singleton.mp hp] at m2 m3 m5 m6 ⊢
  exact kwp1_go hv (fun f hf => hF.2 f (List.mem_cons_of_mem _ (List.mem_cons_of_mem _ (List.mem_cons_of_mem _ hf)))) m1 m2 m3 m4 k4 (congrArg Prod.fst (m5 _ (List.mem_cons_self))) (m := 24) (by rw [show ρ.1 60096 = 24 from of_decide_eq_true (hF.2 _ (List.mem_cons_self))]; rfl) (fun j => m6 (64452, .arg 64452, cpW 1412 60000 24) (List.mem_cons_self) j) (fun j => m6 (64484, .arg 64484, []) (List.mem_cons_of_mem _ (List.mem_cons_self)) j))))
noncomputable def q_kwp1v36 : sCut := ((fr 0 55 0 [(0, tr 42), (1, .int 112), (2, tr 78), (3, .arg 60000), (4, .arg 60096)] [], [fBot], 7), (fr 0 278 0 [(0, tr 219), (1, .arg 1308), (2, .int 112)] [], [fBot], 7), [zf98zzzcc_32, zf98zzzcc_33, zf98zzzcc_34, zf98zzzcc_23, zf98zzzcc_24, zf98zzzcc_5, zf98zzzcc_6, zf98zzzcc_7, zf98zzzcc_22, zf98zzzcc_25, zf98zzzcc_63, zf98zzzcc_19], [])
noncomputable def w_kwp1v36 : List (sCut × List (Nat × sT) × List (Nat × sT × List (sT × sT))) := [(q_kwp1ST, [(60032, .int 0)], [(64452, .arg 64452, cpW 1412 60000 36), (64484, .arg 64484, [])])]
theorem k_kwp1v36 : cbody kR [] (cpl1 zKWp c_kwp1q [q_kwp1ST]) (cpl2 zKWp c_kwp1q [q_kwp1ST]) (cleafB kR zKWp c_kwp1q w_kwp1v36) 160 true true q_kwp1v36.2.2.1 q_kwp1v36.2.2.2 (cst zKWp c_kwp1q.2.2.1.1 q_kwp1v36.1) (cst zKWp c_kwp1q.2.2.1.2 q_kwp1v36.2.1) = true := by decide +kernel
theorem t_kwp1v36 {X : pX} {ρ0 : sR} (hv : vok X ρ0) : CUTOK X kR zKWp c_kwp1q 7 ρ0 q_kwp1v36 := CUTOK_AT (fun ρ k1 hF hI k4 => AT_of (q := q_kwp1v36) rfl rfl (SEM_runB kR_x kR_0 (Cs := []) (fun C hC => by cases hC) c_kwp1q_f (Q := w_kwp1v36) hv 160 (b1 := true) (b2 := true) k_kwp1v36 k1 hF hI k4 (fun p hp ρ3 m1 m2 m3 m4 m5 m6 => by
  rw [List.mem_singleton.mp hp] at m2 m3 m5 m6 ⊢
  exact kwp1_go hv (fun f hf => hF.2 f (List.mem_cons_of_mem _ (List.mem_cons_of_mem _ (List.mem_cons_of_mem _ hf)))) m1 m2 m3 m4 k4 (congrArg Prod.fst (m5 _ (List.mem_cons_self))) (m := 36) (by rw [show ρ.1 60096 = 36 from of_decide_eq_true (hF.2 _ (List.mem_cons_self))]; rfl) (fun j => m6 (64452, .arg 64452, cpW 1412 60000 36) (List.mem_cons_self) j) (fun j => m6 (64484, .arg 64484, []) (List.mem_cons_of_mem _ (List.mem_cons_self)) j))))
noncomputable def q_kwp1v48 : sCut := ((fr 0 55 0 [(0, tr 42), (1, .int 112), (2, tr 78), (3, .arg 60000), (4, .arg 60096)] [], [fBot], 7), (fr 0 278 0 [(0, tr 219), (1, .arg 1308), (2, .int 112)] [], [fBot], 7), [zf98zzzcc_35, zf98zzzcc_36, zf98zzzcc_37, zf98zzzcc_23, zf98zzzcc_24, zf98zzzcc_5, zf98zzzcc_6, zf98zzzcc_7, zf98zzzcc_22, zf98zzzcc_25, zf98zzzcc_63, zf98zzzcc_19], [])
noncomputable def w_kwp1v48 : List (sCut × List (Nat × sT) × List (Nat × sT × List (sT × sT))) := [(q_kwp1ST, [(60032, .int 0)], [(64452, .arg 64452, cpW 1412 60000 48), (64484, .arg 64484, [])])]
theorem k_kwp1v48 : cbody kR [] (cpl1 zKWp c_kwp1q [q_kwp1ST]) (cpl2 zKWp c_kwp1q [q_kwp1ST]) (cleafB kR zKWp c_kwp1q w_kwp1v48) 160 true true q_kwp1v48.2.2.1 q_kwp1v48.2.2.2 (cst zKWp c_kwp1q.2.2.1.1 q_kwp1v48.1) (cst zKWp c_kwp1q.2.2.1.2 q_kwp1v48.2.1) = true := by decide +kernel
theorem t_kwp1v48 {X : pX} {ρ0 : sR} (hv : vok X ρ0) : CUTOK X kR zKWp c_kwp1q 7 ρ0 q_kwp1v48 := CUTOK_AT (fun ρ k1 hF hI k4 => AT_of (q := q_kwp1v48) rfl rfl (SEM_runB kR_x kR_0 (Cs := []) (fun C hC => by cases hC) c_kwp1q_f (Q := w_kwp1v48) hv 160 (b1 := true) (b2 := true) k_kwp1v48 k1 hF hI k4 (fun p hp ρ3 m1 m2 m3 m4 m5 m6 => by
  rw [List.mem_singleton.mp hp] at m2 m3 m5 m6 ⊢
  exact kwp1_go hv (fun f hf => hF.2 f (List.mem_cons_of_mem _ (List.mem_cons_of_mem _ (List.mem_cons_of_mem _ hf)))) m1 m2 m3 m4 k4 (congrArg Prod.fst (m5 _ (List.mem_cons_self))) (m := 48) (by rw [show ρ.1 60096 = 48 from of_decide_eq_true (hF.2 _ (List.mem_cons_self))]; rfl) (fun j => m6 (64452, .arg 64452, cpW 1412 60000 48) (List.mem_cons_self) j) (fun j => m6 (64484, .arg 64484, []) (List.mem_cons_of_mem _ (List.mem_cons_self)) j))))
noncomputable def q_kwp1v60 : sCut := ((fr 0 55 0 [(0, tr 42), (1, .int 112), (2, tr 78), (3, .arg 60000), (4, .arg 60096)] [], [fBot], 7), (fr 0 278 0 [(0, tr 219), (1, .arg 1308), (2, .int 112)] [], [fBot], 7), [zf98zzzcc_38, zf98zzzcc_39, zf98zzzcc_40, zf98zzzcc_23, zf98zzzcc_24, zf98zzzcc_5, zf98zzzcc_6, zf98zzzcc_7, zf98zzzcc_22, zf98zzzcc_25, zf98zzzcc_63, zf98zzzcc_19], [])
noncomputable def w_kwp1v60 : List (sCut × List (Nat × sT) × List (Nat × sT × List (sT × sT))) := [(q_kwp1ST, [(60032, .int 0)], [(64452, .arg 64452, cpW 1412 60000 60), (64484, .arg 64484, [])])]
theorem k_kwp1v60 : cbody kR [] (cpl1 zKWp c_kwp1q [q_kwp1ST]) (cpl2 zKWp c_kwp1q [q_kwp1ST]) (cleafB kR zKWp c_kwp1q w_kwp1v60) 160 true true q_kwp1v60.2.2.1 q_kwp1v60.2.2.2 (cst zKWp c_kwp1q.2.2.1.1 q_kwp1v60.1) (cst zKWp c_kwp1q.2.2.1.2 q_kwp1v60.2.1) = true := by decide +kernel
theorem t_kwp1v60 {X : pX} {ρ0 : sR} (hv : vok X ρ0) : CUTOK X kR zKWp c_kwp1q 7 ρ0 q_kwp1v60 := CUTOK_AT (fun ρ k1 hF hI k4 => AT_of (q := q_kwp1v60) rfl rfl (SEM_runB kR_x kR_0 (Cs := []) (fun C hC => by cases hC) c_kwp1q_f (Q := w_kwp1v60) hv 160 (b1 := true) (b2 := true) k_kwp1v60 k1 hF hI k4 (fun p hp ρ3 m1 m2 m3 m4 m5 m6 => by
  rw [List.mem_singleton.mp hp] at m2 m3 m5 m6 ⊢
  exact kwp1_go hv (fun f hf => hF.2 f (List.mem_cons_of_mem _ (List.mem_cons_of_mem _ (List.mem_cons_of_mem _ hf)))) m1 m2 m3 m4 k4 (congrArg Prod.fst (m5 _ (List.mem_cons_self))) (m := 60) (by rw [show ρ.1 60096 = 60 from of_decide_eq_true (hF.2 _ (List.mem_cons_self))]; rfl) (fun j => m6 (64452, .arg 64452, cpW 1412 60000 60) (List.mem_cons_self) j) (fun j => m6 (64484, .arg 64484, []) (List.mem_cons_of_mem _ (List.mem_cons_self)) j))))
noncomputable def q_kwp1v72 : sCut := ((fr 0 55 0 [(0, tr 42), (1, .int 112), (2, tr 78), (3, .arg 60000), (4, .arg 60096)] [], [fBot], 7), (fr 0 278 0 [(0, tr 219), (1, .arg 1308), (2, .int 112)] [], [fBot], 7), [zf98zzzcc_41, zf98zzzcc_42, zf98zzzcc_43, zf98zzzcc_23, zf98zzzcc_24, zf98zzzcc_5, zf98zzzcc_6, zf98zzzcc_7, zf98zzzcc_22, zf98zzzcc_25, zf98zzzcc_63, zf98zzzcc_19], [])
noncomputable def w_kwp1v72 : List (sCut × List (Nat × sT) × List (Nat × sT × List (sT × sT))) := [(q_kwp1ST, [(60032, .int 0)], [(64452, .arg 64452, cpW 1412 60000 72), (64484, .arg 64484, [])])]
theorem k_kwp1v72 : cbody kR [] (cpl1 zKWp c_kwp1q [q_kwp1ST]) (cpl2 zKWp c_kwp1q [q_kwp1ST]) (cleafB kR zKWp c_kwp1q w_kwp1v72) 160 true true q_kwp1v72.2.2.1 q_kwp1v72.2.2.2 (cst zKWp c_kwp1q.2.2.1.1 q_kwp1v72.1) (cst zKWp c_kwp1q.2.2.1.2 q_kwp1v72.2.1) = true := by decide +kernel
theorem t_kwp1v72 {X : pX} {ρ0 : sR} (hv : vok X ρ0) : CUTOK X kR zKWp c_kwp1q 7 ρ0 q_kwp1v72 := CUTOK_AT (fun ρ k1 hF hI k4 => AT_of (q := q_kwp1v72) rfl rfl (SEM_runB kR_x kR_0 (Cs := []) (fun C hC => by cases hC) c_kwp1q_f (Q := w_kwp1v72) hv 160 (b1 := true) (b2 := true) k_kwp1v72 k1 hF hI k4 (fun p hp ρ3 m1 m2 m3 m4 m5 m6 => by
  rw [List.mem_singleton.mp hp] at m2 m3 m5 m6 ⊢
  exact kwp1_go hv (fun f hf => hF.2 f (List.mem_cons_of_mem _ (List.mem_cons_of_mem _ (List.mem_cons_of_mem _ hf)))) m1 m2 m3 m4 k4 (congrArg Prod.fst (m5 _ (List.mem_cons_self))) (m := 72) (by rw [show ρ.1 60096 = 72 from of_decide_eq_true (hF.2 _ (List.mem_cons_self))]; rfl) (fun j => m6 (64452, .arg 64452, cpW 1412 60000 72) (List.mem_cons_self) j) (fun j => m6 (64484, .arg 64484, []) (List.mem_cons_of_mem _ (List.mem_cons_self)) j))))
noncomputable def q_kwp1v84 : sCut := ((fr 0 55 0 [(0, tr 42), (1, .int 112), (2, tr 78), (3, .arg 60000), (4, .arg 60096)] [], [fBot], 7), (fr 0 278 0 [(0, tr 219), (1, .arg 1308), (2, .int 112)] [], [fBot], 7), [zf98zzzcc_44, zf98zzzcc_45, zf98zzzcc_46, zf98zzzcc_23, zf98zzzcc_24, zf98zzzcc_5, zf98zzzcc_6, zf98zzzcc_7, zf98zzzcc_22, zf98zzzcc_25, zf98zzzcc_63, zf98zzzcc_19], [])
noncomputable def w_kwp1v84 : List (sCut × List (Nat × sT) × List (Nat × sT × List (sT × sT))) := [(q_kwp1ST, [(60032, .int 0)], [(64452, .arg 64452, cpW 1412 60000 84), (64484, .arg 64484, [])])]
theorem k_kwp1v84 : cbody kR [] (cpl1 zKWp c_kwp1q [q_kwp1ST]) (cpl2 zKWp c_kwp1q [q_kwp1ST]) (cleafB kR zKWp c_kwp1q w_kwp1v84) 160 true true q_kwp1v84.2.2.1 q_kwp1v84.2.2.2 (cst zKWp c_kwp1q.2.2.1.1 q_kwp1v84.1) (cst zKWp c_kwp1q.2.2.1.2 q_kwp1v84.2.1) = true := by decide +kernel
theorem t_kwp1v84 {X : pX} {ρ0 : sR} (hv : vok X ρ0) : CUTOK X kR zKWp c_kwp1q 7 ρ0 q_kwp1v84 := CUTOK_AT (fun ρ k1 hF hI k4 => AT_of (q := q_kwp1v84) rfl rfl (SEM_runB kR_x kR_0 (Cs := []) (fun C hC => by cases hC) c_kwp1q_f (Q := w_kwp1v84) hv 160 (b1 := true) (b2 := true) k_kwp1v84 k1 hF hI k4 (fun p hp ρ3 m1 m2 m3 m4 m5 m6 => by
  rw [List.mem_singleton.mp hp] at m2 m3 m5 m6 ⊢
  exact kwp1_go hv (fun f hf => hF.2 f (List.mem_cons_of_mem _ (List.mem_cons_of_mem _ (List.mem_cons_of_mem _ hf)))) m1 m2 m3 m4 k4 (congrArg Prod.fst (m5 _ (List.mem_cons_self))) (m := 84) (by rw [show ρ.1 60096 = 84 from of_decide_eq_true (hF.2 _ (List.mem_cons_self))]; rfl) (fun j => m6 (64452, .arg 64452, cpW 1412 60000 84) (List.mem_cons_self) j) (fun j => m6 (64484, .arg 64484, []) (List.mem_cons_of_mem _ (List.mem_cons_self)) j))))
noncomputable def q_kwp1v96 : sCut := ((fr 0 55 0 [(0, tr 42), (1, .int 112), (2, tr 78), (3, .arg 60000), (4, .arg 60096)] [], [fBot], 7), (fr 0 278 0 [(0, tr 219), (1, .arg 1308), (2, .int 112)] [], [fBot], 7), [zf98zzzcc_47, zf98zzzcc_48, zf98zzzcc_49, zf98zzzcc_23, zf98zzzcc_24, zf98zzzcc_5, zf98zzzcc_6, zf98zzzcc_7, zf98zzzcc_22, zf98zzzcc_25, zf98zzzcc_63, zf98zzzcc_19], [])
noncomputable def w_kwp1v96 : List (sCut × List (Nat × sT) × List (Nat × sT × List (sT × sT))) := [(q_kwp1ST, [(60032, .int 0)], [(64452, .arg 64452, cpW 1412 60000 96), (64484, .arg 64484, [])])]
theorem k_kwp1v96 : cbody kR [] (cpl1 zKWp c_kwp1q [q_kwp1ST]) (cpl2 zKWp c_kwp1q [q_kwp1ST]) (cleafB kR zKWp c_kwp1q w_kwp1v96) 160 true true q_kwp1v96.2.2.1 q_kwp1v96.2.2.2 (cst zKWp c_kwp1q.2.2.1.1 q_kwp1v96.1) (cst zKWp c_kwp1q.2.2.1.2 q_kwp1v96.2.1) = true := by decide +kernel
theorem t_kwp1v96 {X : pX} {ρ0 : sR} (hv : vok X ρ0) : CUTOK X kR zKWp c_kwp1q 7 ρ0 q_kwp1v96 := CUTOK_AT (fun ρ k1 hF hI k4 => AT_of (q := q_kwp1v96) rfl rfl (SEM_runB kR_x kR_0 (Cs := []) (fun C hC => by cases hC) c_kwp1q_f (Q := w_kwp1v96) hv 160 (b1 := true) (b2 := true) k_kwp1v96 k1 hF hI k4 (fun p hp ρ3 m1 m2 m3 m4 m5 m6 => by
  rw [List.mem_singleton.mp hp] at m2 m3 m5 m6 ⊢
  exact kwp1_go hv (fun f hf => hF.2 f (List.mem_cons_of_mem _ (List.mem_cons_of_mem _ (List.mem_cons_of_mem _ hf)))) m1 m2 m3 m4 k4 (congrArg Prod.fst (m5 _ (List.mem_cons_self))) (m := 96) (by rw [show ρ.1 60096 = 96 from of_decide_eq_true (hF.2 _ (List.mem_cons_self))]; rfl) (fun j => m6 (64452, .arg 64452, cpW 1412 60000 96) (List.mem_cons_self) j) (fun j => m6 (64484, .arg 64484, []) (List.mem_cons_of_mem _ (List.mem_cons_self)) j))))
noncomputable def q_kwp1v108 : sCut := ((fr 0 55 0 [(0, tr 42), (1, .int 112), (2, tr 78), (3, .arg 60000), (4, .arg 60096)] [], [fBot], 7), (fr 0 278 0 [(0, tr 219), (1, .arg 1308), (2, .int 112)] [], [fBot], 7), [zf98zzzcc_50, zf98zzzcc_51, zf98zzzcc_52, zf98zzzcc_23, zf98zzzcc_24, zf98zzzcc_5, zf98zzzcc_6, zf98zzzcc_7, zf98zzzcc_22, zf98zzzcc_25, zf98zzzcc_63, zf98zzzcc_19], [])
noncomputable def w_kwp1v108 : List (sCut × List (Nat × sT) × List (Nat × sT × List (sT × sT))) := [(q_kwp1ST, [(60032, .int 0)], [(64452, .arg 64452, cpW 1412 60000 108), (64484, .arg 64484, [])])]
theorem k_kwp1v108 : cbody kR [] (cpl1 zKWp c_kwp1q [q_kwp1ST]) (cpl2 zKWp c_kwp1q [q_kwp1ST]) (cleafB kR zKWp c_kwp1q w_kwp1v108) 160 true true q_kwp1v108.2.2.1 q_kwp1v108.2.2.2 (cst zKWp c_kwp1q.2.2.1.1 q_kwp1v108.1) (cst zKWp c_kwp1q.2.2.1.2 q_kwp1v108.2.1) = true := by decide +kernel
theorem t_kwp1v108 {X : pX} {ρ0 : sR} (hv : vok X ρ0) : CUTOK X kR zKWp c_kwp1q 7 ρ0 q_kwp1v108 := CUTOK_AT (fun ρ k1 hF hI k4 => AT_of (q := q_kwp1v108) rfl rfl (SEM_runB kR_x kR_0 (Cs := []) (fun C hC => by cases hC) c_kwp1q_f (Q := w_kwp1v108) hv 160 (b1 := true) (b2 := true) k_kwp1v108 k1 hF hI k4 (fun p hp ρ3 m1 m2 m3 m4 m5 m6 => by
  rw [List.mem_singleton.mp hp] at m2 m3 m5 m6 ⊢
  exact kwp1_go hv (fun f hf => hF.2 f (List.mem_cons_of_mem _ (List.mem_cons_of_mem _ (List.mem_cons_of_mem _ hf)))) m1 m2 m3 m4 k4 (congrArg Prod.fst (m5 _ (List.mem_cons_self))) (m := 108) (by rw [show ρ.1 60096 = 108 from of_decide_eq_true (hF.2 _ (List.mem_cons_self))]; rfl) (fun j => m6 (64452, .arg 64452, cpW 1412 60000 108) (List.mem_cons_self) j) (fun j => m6 (64484, .arg 64484, []) (List.mem_cons_of_mem _ (List.mem_cons_self)) j))))
noncomputable def q_kwp1v120 : sCut := ((fr 0 55 0 [(0, tr 42), (1, .int 112), (2, tr 78), (3, .arg 60000), (4, .arg 60096)] [], [fBot], 7), (fr 0 278 0 [(0, tr 219), (1, .arg 1308), (2, .int 112)] [], [fBot], 7), [zf98zzzcc_53, zf98zzzcc_54, zf98zzzcc_55, zf98zzzcc_23, zf98zzzcc_24, zf98zzzcc_5, zf98zzzcc_6, zf98zzzcc_7, zf98zzzcc_22, zf98zzzcc_25, zf98zzzcc_63, zf98zzzcc_19], [])
noncomputable def w_kwp1v120 : List (sCut × List (Nat × sT) × List (Nat × sT × List (sT × sT))) := [(q_kwp1ST, [(60032, .int 0)], [(64452, .arg 64452, cpW 1412 60000 120), (64484, .arg 64484, [])])]
theorem k_kwp1v120 : cbody kR [] (cpl1 zKWp c_kwp1q [q_kwp1ST]) (cpl2 zKWp c_kwp1q [q_kwp1ST]) (cleafB kR zKWp c_kwp1q w_kwp1v120) 160 true true q_kwp1v120.2.2.1 q_kwp1v120.2.2.2 (cst zKWp c_kwp1q.2.2.1.1 q_kwp1v120.1) (cst zKWp c_kwp1q.2.2.1.2 q_kwp1v120.2.1) = true := by decide +kernel
theorem t_kwp1v120 {X : pX} {ρ0 : sR} (hv : vok X ρ0) : CUTOK X kR zKWp c_kwp1q 7 ρ0 q_kwp1v120 := CUTOK_AT (fun ρ k1 hF hI k4 => AT_of (q := q_kwp1v120) rfl rfl (SEM_runB kR_x kR_0 (Cs := []) (fun C hC => by cases hC) c_kwp1q_f (Q := w_kwp1v120) hv 160 (b1 := true) (b2 := true) k_kwp1v120 k1 hF hI k4 (fun p hp ρ3 m1 m2 m3 m4 m5 m6 => by
  rw [List.mem_singleton.mp hp] at m2 m3 m5 m6 ⊢
  exact kwp1_go hv (fun f hf => hF.2 f (List.mem_cons_of_mem _ (List.mem_cons_of_mem _ (List.mem_cons_of_mem _ hf)))) m1 m2 m3 m4 k4 (congrArg Prod.fst (m5 _ (List.mem_cons_self))) (m := 120) (by rw [show ρ.1 60096 = 120 from of_decide_eq_true (hF.2 _ (List.mem_cons_self))]; rfl) (fun j => m6 (64452, .arg 64452, cpW 1412 60000 120) (List.mem_cons_self) j) (fun j => m6 (64484, .arg 64484, []) (List.mem_cons_of_mem _ (List.mem_cons_self)) j))))
noncomputable def q_kwp1v132 : sCut := ((fr 0 55 0 [(0, tr 42), (1, .int 112), (2, tr 78), (3, .arg 60000), (4, .arg 60096)] [], [fBot], 7), (fr 0 278 0 [(0, tr 219), (1, .arg 1308), (2, .int 112)] [], [fBot], 7), [zf98zzzcc_56, zf98zzzcc_57, zf98zzzcc_58, zf98zzzcc_23, zf98zzzcc_24, zf98zzzcc_5, zf98zzzcc_6, zf98zzzcc_7, zf98zzzcc_22, zf98zzzcc_25, zf98zzzcc_63, zf98zzzcc_19], [])
noncomputable def w_kwp1v132 : List (sCut × List (Nat × sT) × List (Nat × sT × List (sT × sT))) := [(q_kwp1ST, [(60032, .int 0)], [(64452, .arg 64452, cpW 1412 60000 132), (64484, .arg 64484, [])])]
theorem k_kwp1v132 : cbody kR [] (cpl1 zKWp c_kwp1q [q_kwp1ST]) (cpl2 zKWp c_kwp1q [q_kwp1ST]) (cleafB kR zKWp c_kwp1q w_kwp1v132) 160 true true q_kwp1v132.2.2.1 q_kwp1v132.2.2.2 (cst zKWp c_kwp1q.2.2.1.1 q_kwp1v132.1) (cst zKWp c_kwp1q.2.2.1.2 q_kwp1v132.2.1) = true := by decide +kernel
theorem t_kwp1v132 {X : pX} {ρ0 : sR} (hv : vok X ρ0) : CUTOK X kR zKWp c_kwp1q 7 ρ0 q_kwp1v132 := CUTOK_AT (fun ρ k1 hF hI k4 => AT_of (q := q_kwp1v132) rfl rfl (SEM_runB kR_x kR_0 (Cs := []) (fun C hC => by cases hC) c_kwp1q_f (Q := w_kwp1v132) hv 160 (b1 := true) (b2 := true) k_kwp1v132 k1 hF hI k4 (fun p hp ρ3 m1 m2 m3 m4 m5 m6 => by
  rw [List.mem_singleton.mp hp] at m2 m3 m5 m6 ⊢
  exact kwp1_go hv (fun f hf => hF.2 f (List.mem_cons_of_mem _ (List.mem_cons_of_mem _ (List.mem_cons_of_mem _ hf)))) m1 m2 m3 m4 k4 (congrArg Prod.fst (m5 _ (List.mem_cons_self))) (m := 132) (by rw [show ρ.1 60096 = 132 from of_decide_eq_true (hF.2 _ (List.mem_cons_self))]; rfl) (fun j => m6 (64452, .arg 64452, cpW 1412 60000 132) (List.mem_cons_self) j) (fun j => m6 (64484, .arg 64484, []) (List.mem_cons_of_mem _ (List.mem_cons_self)) j))))
noncomputable def q_kwp1v144 : sCut := ((fr 0 55 0 [(0, tr 42), (1, .int 112), (2, tr 78), (3, .arg 60000), (4, .arg 60096)] [], [fBot], 7), (fr 0 278 0 [(0, tr 219), (1, .arg 1308), (2, .int 112)] [], [fBot], 7), [zf98zzzcc_59, zf98zzzcc_60, zf98zzzcc_61, zf98zzzcc_23, zf98zzzcc_24, zf98zzzcc_5, zf98zzzcc_6, zf98zzzcc_7, zf98zzzcc_22, zf98zzzcc_25, zf98zzzcc_63, zf98zzzcc_19], [])
noncomputable def w_kwp1v144 : List (sCut × List (Nat × sT) × List (Nat × sT × List (sT × sT))) := [(q_kwp1ST, [(60032, .int 0)], [(64452, .arg 64452, cpW 1412 60000 144), (64484, .arg 64484, [])])]
theorem k_kwp1v144 : cbody kR [] (cpl1 zKWp c_kwp1q [q_kwp1ST]) (cpl2 zKWp c_kwp1q [q_kwp1ST]) (cleafB kR zKWp c_kwp1q w_kwp1v144) 160 true true q_kwp1v144.2.2.1 q_kwp1v144.2.2.2 (cst zKWp c_kwp1q.2.2.1.1 q_kwp1v144.1) (cst zKWp c_kwp1q.2.2.1.2 q_kwp1v144.2.1) = true := by decide +kernel
theorem t_kwp1v144 {X : pX} {ρ0 : sR} (hv : vok X ρ0) : CUTOK X kR zKWp c_kwp1q 7 ρ0 q_kwp1v144 := CUTOK_AT (fun ρ k1 hF hI k4 => AT_of (q := q_kwp1v144) rfl rfl (SEM_runB kR_x kR_0 (Cs := []) (fun C hC => by cases hC) c_kwp1q_f (Q := w_kwp1v144) hv 160 (b1 := true) (b2 := true) k_kwp1v144 k1 hF hI k4 (fun p hp ρ3 m1 m2 m3 m4 m5 m6 => by
  rw [List.mem_singleton.mp hp] at m2 m3 m5 m6 ⊢
  exact kwp1_go hv (fun f hf => hF.2 f (List.mem_cons_of_mem _ (List.mem_cons_of_mem _ (List.mem_cons_of_mem _ hf)))) m1 m2 m3 m4 k4 (congrArg Prod.fst (m5 _ (List.mem_cons_self))) (m := 144) (by rw [show ρ.1 60096 = 144 from of_decide_eq_true (hF.2 _ (List.mem_cons_self))]; rfl) (fun j => m6 (64452, .arg 64452, cpW 1412 60000 144) (List.mem_cons_self) j) (fun j => m6 (64484, .arg 64484, []) (List.mem_cons_of_mem _ (List.mem_cons_self)) j))))
noncomputable def q_kwp1 : sCut := ((fr 0 55 0 [(0, tr 42), (1, .int 112), (2, tr 78), (3, .arg 60000), (4, .arg 60096)] [], [fBot], 7), (fr 0 278 0 [(0, tr 219), (1, .arg 1308), (2, .int 112)] [], [fBot], 7), [zf98zzzcc_23, zf98zzzcc_24, zf98zzzcc_5, zf98zzzcc_6, zf98zzzcc_7, zf98zzzcc_22, zf98zzzcc_25, zf98zzzcc_63, zf98zzzcc_19], [])
theorem t_kwp1 {X : pX} {ρ0 : sR} (hv : vok X ρ0) : CUTOK X kR zKWp c_kwp1q 7 ρ0 q_kwp1 := fun ρ k1 hF hI k4 => by
  have v0 : (0 : Int) ≤ (ρ.1 60096).toInt := ri_lf (x := ρ.1 60096) (y := 0) (hF.2 _ (List.mem_cons_of_mem _ (List.mem_cons_of_mem _ (List.mem_cons_of_mem _ (List.mem_cons_self)))))
  have v1 : (ρ.1 60096).toInt ≤ 144 := ri_lf (x := 144) (y := ρ.1 60096) (hF.2 _ (List.mem_cons_of_mem _ (List.mem_cons_of_mem _ (List.mem_cons_of_mem _ (List.mem_cons_of_mem _ (List.mem_cons_self))))))
  have a0 : (0 : Int) ≤ (ρ.1 60000).toInt := ri_lf (x := ρ.1 60000) (y := 0) (hF.2 _ (List.mem_cons_self))
  have a1 : (ρ.1 60000).toInt ≤ 1024 := ri_lf (x := 1024) (y := ρ.1 60000) (hF.2 _ (List.mem_cons_of_mem _ (List.mem_cons_of_mem _ (List.mem_cons_of_mem _ (List.mem_cons_of_mem _ (List.mem_cons_of_mem _ (List.mem_cons_self)))))))
  have ea : (ρ.1 60000 + ρ.1 60096).toInt = (ρ.1 60000).toInt + (ρ.1 60096).toInt := s_add (by omega) (by omega)
  have a2 : (ρ.1 60000 + ρ.1 60096).toInt ≤ 1024 := ri_lf (x := 1024) (y := ρ.1 60000 + ρ.1 60096) (hF.2 _ (List.mem_cons_of_mem _ (List.mem_cons_self)))
  rw [ea] at a2
  have eD : ρ.1 19328 = ρ.1 60096 := of_decide_eq_true (hF.2 _ (List.mem_cons_of_mem _ (List.mem_cons_of_mem _ (List.mem_cons_self))))
  have hz : (ρ.1 60096).toInt % 12 = 0 := rem_12 v0 (of_decide_eq_true (hF.2 _ (List.mem_cons_of_mem _ (List.mem_cons_of_mem _ (List.mem_cons_of_mem _ (List.mem_cons_of_mem _ (List.mem_cons_of_mem _ (List.mem_cons_of_mem _ (List.mem_cons_self)))))))))
  rcases (show (ρ.1 60096).toInt = 0 ∨ (ρ.1 60096).toInt = 12 ∨ (ρ.1 60096).toInt = 24 ∨ (ρ.1 60096).toInt = 36 ∨ (ρ.1 60096).toInt = 48 ∨ (ρ.1 60096).toInt = 60 ∨ (ρ.1 60096).toInt = 72 ∨ (ρ.1 60096).toInt = 84 ∨ (ρ.1 60096).toInt = 96 ∨ (ρ.1 60096).toInt = 108 ∨ (ρ.1 60096).toInt = 120 ∨ (ρ.1 60096).toInt = 132 ∨ (ρ.1 60096).toInt = 144 by omega) with h | h | h | h | h | h | h | h | h | h | h | h | h
  · have e : ρ.1 60096 = 0 := Int32.toInt_inj.mp h
    exact t_kwp1v0 hv ρ k1 ⟨hF.1, fcn (decide_eq_true e) (fcn (decide_eq_true (eD.trans e)) (fcn (di_lf (x := 1024) (y := ρ.1 60000) (show _ ≤ (1024 : Int) by omega)) hF.2))⟩ hI k4
  · have e : ρ.1 60096 = 12 := Int32.toInt_inj.mp h
    exact t_kwp1v12 hv ρ k1 ⟨hF.1, fcn (decide_eq_true e) (fcn (decide_eq_true (eD.trans e)) (fcn (di_lf (x := 1012) (y := ρ.1 60000) (show _ ≤ (1012 : Int) by omega)) hF.2))⟩ hI k4
  · have e : ρ.1 60096 = 24 := Int32.toInt_inj.mp h
    exact t_kwp1v24 hv ρ k1 ⟨hF.1, fcn (decide_eq_true e) (fcn (decide_eq_true (eD.trans e)) (fcn (di_lf (x := 1000) (y := ρ.1 60000) (show _ ≤ (1000 : Int) by omega)) hF.2))⟩ hI k4
  · have e : ρ.1 60096 = 36 := Int32.toInt_inj.mp h
    exact t_kwp1v36 hv ρ k1 ⟨hF.1, fcn (decide_eq_true e) (fcn (decide_eq_true (eD.trans e)) (fcn (di_lf (x := 988) (y := ρ.1 60000) (show _ ≤ (988 : Int) by omega)) hF.2))⟩ hI k4
  · have e : ρ.1 60096 = 48 := Int32.toInt_inj.mp h
    exact t_kwp1v48 hv ρ k1 ⟨hF.1, fcn (decide_eq_true e) (fcn (decide_eq_true (eD.trans e)) (fcn (di_lf (x := 976) (y := ρ.1 60000) (show _ ≤ (976 : Int) by omega)) hF.2))⟩ hI k4
  · have e : ρ.1 60096 = 60 := Int32.toInt_inj.mp h
    exact t_kwp1v60 hv ρ k1 ⟨hF.1, fcn (decide_eq_true e) (fcn (decide_eq_true (eD.trans e)) (fcn (di_lf (x := 964) (y := ρ.1 60000) (show _ ≤ (964 : Int) by omega)) hF.2))⟩ hI k4
  · have e : ρ.1 60096 = 72 := Int32.toInt_inj.mp h
    exact t_kwp1v72 hv ρ k1 ⟨hF.1, fcn (decide_eq_true e) (fcn (decide_eq_true (eD.trans e)) (fcn (di_lf (x := 952) (y := ρ.1 60000) (show _ ≤ (952 : Int) by omega)) hF.2))⟩ hI k4
  · have e : ρ.1 60096 = 84 := Int32.toInt_inj.mp h
    exact t_kwp1v84 hv ρ k1 ⟨hF.1, fcn (decide_eq_true e) (fcn (decide_eq_true (eD.trans e)) (fcn (di_lf (x := 940) (y := ρ.1 60000) (show _ ≤ (940 : Int) by omega)) hF.2))⟩ hI k4
  · have e : ρ.1 60096 = 96 := Int32.toInt_inj.mp h
    exact t_kwp1v96 hv ρ k1 ⟨hF.1, fcn (decide_eq_true e) (fcn (decide_eq_true (eD.trans e)) (fcn (di_lf (x := 928) (y := ρ.1 60000) (show _ ≤ (928 : Int) by omega)) hF.2))⟩ hI k4
  · have e : ρ.1 60096 = 108 := Int32.toInt_inj.mp h
    exact t_kwp1v108 hv ρ k1 ⟨hF.1, fcn (decide_eq_true e) (fcn (decide_eq_true (eD.trans e)) (fcn (di_lf (x := 916) (y := ρ.1 60000) (show _ ≤ (916 : Int) by omega)) hF.2))⟩ hI k4
  · have e : ρ.1 60096 = 120 := Int32.toInt_inj.mp h
    exact t_kwp1v120 hv ρ k1 ⟨hF.1, fcn (decide_eq_true e) (fcn (decide_eq_true (eD.trans e)) (fcn (di_lf (x := 904) (y := ρ.1 60000) (show _ ≤ (904 : Int) by omega)) hF.2))⟩ hI k4
  · have e : ρ.1 60096 = 132 := Int32.toInt_inj.mp h
    exact t_kwp1v132 hv ρ k1 ⟨hF.1, fcn (decide_eq_true e) (fcn (decide_eq_true (eD.trans e)) (fcn (di_lf (x := 892) (y := ρ.1 60000) (show _ ≤ (892 : Int) by omega)) hF.2))⟩ hI k4
  · have e : ρ.1 60096 = 144 := Int32.toInt_inj.mp h
    exact t_kwp1v144 hv ρ k1 ⟨hF.1, fcn (decide_eq_true e) (fcn (decide_eq_true (eD.trans e)) (fcn (di_lf (x := 880) (y := ρ.1 60000) (show _ ≤ (880 : Int) by omega)) hF.2))⟩ hI k4
theorem s_kwp1q {X : pX} : SREL X pF pdfl mt_all kR zKWp c_kwp1q := SREL_enter (d := 7) (q := q_kwp1) rfl c_kwp1q_f (fun ρ0 hv => t_kwp1 hv) rfl rfl rfl rfl
noncomputable def c_kwp1 : sC := (c_kwp1q.1, c_kwp1q.2.1, c_kwp1q.2.2.1, [((2, .arg 60000, .int 0), false), ((2, .int 1024, .add (.arg 60000) (.arg 60096)), false), ((0, .arg 19328, .arg 60096), true), ((2, .arg 60096, .int 0), false), ((2, .int 144, .arg 60096), false), ((2, .int 1024, .arg 60000), false), ((0, .rem (.arg 60096) (.int 12), .int 0), true), ((112, .add (.arg 60000) (.add (.elem (.arg 1412) (.int 0)) (.add (.int 0) (.elem (.arg 2212) (.int 0)))), .arg 60096), true)], (c_kwp1q.2.2.2.2.1.1, [64452, 64484, 1316]), (none, some (.int 0)), [((0, .arg 1330, .arg 60096), true), ((0, .arg 1586, .arg 60096), true)], ([], []))
theorem c_kwp1_f : cfine zWB 65536 c_kwp1 = true := by decide +kernel
theorem s_kwp1 {X : pX} : SREL X pF pdfl mt_all kR zWB c_kwp1 := SREL_share (p := 64452) (q := 64484) (s := 1316) (k := 46) (km := 232) (D := 1308) (n := 144) (c := 2276) (len := 144) (m := 576) s_kwp1q kR_0 kR_x (by decide) (by decide) (by decide +kernel) (by decide +kernel) (by decide) (by decide) (by decide) (by decide) (by decide) (by decide) (by decide) (by decide) (by decide) rfl rfl (by decide) (by decide) (by decide) (by decide) (by decide) rfl rfl rfl rfl (by decide +kernel) (by decide +kernel) (by decide +kernel) (by decide +kernel) (fun i hi => hi) (fun x hx => ⟨fun h => hx (by
    rcases List.mem_cons.mp h with h | h
    · rw [h]; exact List.mem_cons_self
    · rw [List.mem_singleton.mp h]; exact List.mem_cons_of_mem _ List.mem_cons_self), fun e => hx (by rw [e]; exact List.mem_cons_self), fun e => hx (by rw [e]; exact List.mem_cons_of_mem _ List.mem_cons_self), fun e => hx (by rw [e]; exact List.mem_cons_of_mem _ (List.mem_cons_of_mem _ List.mem_cons_self))⟩)
  (fun ρ kk ff ii => ⟨by
    have al : alk (fun _ => false) (fun i => i == 64452 || (i == 64484 || i == 1316)) (rsI 64484 (ρ.2.2.1 1316) (rsI 64452 (ρ.2.2.1 1316) ρ)) ρ := ⟨fun i _ => ⟨rfl, rfl⟩, fun x hx => by
      simp only [Bool.or_eq_false_iff, beq_eq_false_iff_ne, ne_eq] at hx
      exact ⟨(if_neg hx.2.1).trans (if_neg hx.1), rfl⟩⟩
    have h := nod_fall al (F := c_kwp1.2.2.2.1) (by decide +kernel) ff.2
    have h3 : sc X (rsI 64484 (ρ.2.2.1 1316) (rsI 64452 (ρ.2.2.1 1316) ρ)) (103, .add (.elem (.arg 64452) (.int 0)) (.elem (.arg 64484) (.int 0)), .int 144) = true := (k103 (by decide) (by decide) rfl).mpr (fun j _ => congrFun (rsI_pq (by decide)) j)
    exact fcn (h _ (List.mem_cons_self)) (fcn (h _ (List.mem_cons_of_mem _ (List.mem_cons_self))) (fcn (h _ (List.mem_cons_of_mem _ (List.mem_cons_of_mem _ (List.mem_cons_self)))) (fcn (h _ (List.mem_cons_of_mem _ (List.mem_cons_of_mem _ (List.mem_cons_of_mem _ (List.mem_cons_self))))) (fcn (h _ (List.mem_cons_of_mem _ (List.mem_cons_of_mem _ (List.mem_cons_of_mem _ (List.mem_cons_of_mem _ (List.mem_cons_self)))))) (fcn (h _ (List.mem_cons_of_mem _ (List.mem_cons_of_mem _ (List.mem_cons_of_mem _ (List.mem_cons_of_mem _ (List.mem_cons_of_mem _ (List.mem_cons_self))))))) (fcn (h _ (List.mem_cons_of_mem _ (List.mem_cons_of_mem _ (List.mem_cons_of_mem _ (List.mem_cons_of_mem _ (List.mem_cons_of_mem _ (List.mem_cons_of_mem _ (List.mem_cons_self)))))))) (fcn (h _ (List.mem_cons_of_mem _ (List.mem_cons_of_mem _ (List.mem_cons_of_mem _ (List.mem_cons_of_mem _ (List.mem_cons_of_mem _ (List.mem_cons_of_mem _ (List.mem_cons_of_mem _ (List.mem_cons_self))))))))) (fcn (h3) (fun f hf => by cases hf))))))))), fun c hc => by cases hc⟩)
  (fun ρ2 f2 i2 => ⟨fun j hj => (k103 (by decide) (by decide) rfl).mp (f2.2 _ (List.mem_cons_of_mem _ (List.mem_cons_of_mem _ (List.mem_cons_self)))) j (show (j : Int) < 144 by omega), nod_fall (ρ1 := rsI 1316 (ρ2.2.2.1 64452) ρ2) (ρ2 := ρ2) (V := fun _ => false) (R := fun i => i == 64452 || (i == 64484 || i == 1316)) ⟨fun i hi => ⟨rfl, rfl⟩, fun x hx => by
    simp only [Bool.or_eq_false_iff, beq_eq_false_iff_ne, ne_eq] at hx
    exact ⟨if_neg hx.2.2, rfl⟩⟩ (by decide +kernel) (fcn (f2.2 _ (List.mem_cons_self)) (fcn (f2.2 _ (List.mem_cons_of_mem _ (List.mem_cons_self))) (fun f hf => by cases hf))), fun c hc => by cases hc⟩)
