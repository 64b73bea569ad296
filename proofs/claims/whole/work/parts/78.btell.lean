/-! ===== the register and the code: Alarms.tell ===== -/
theorem CUT_each {X : pX} {K : sK} {ρ0 : sR} {Z : sH} {C : sC} {d : Nat} {c1 c2 : sF × List sF × Nat} {F : sFs} {I : sI} (qs : List sQ) (h : ∀ q ∈ qs, CUTOK X K Z C d ρ0 (c1, c2, (q, true) :: F, I)) (hn : scon (qs.map (fun q => (q, false)) ++ F) = true) : CUTOK X K Z C d ρ0 (c1, c2, F, I) := by
  intro ρ1 k1 k2 k3 k4
  by_cases hx : ∃ q ∈ qs, sc X ρ1 q = true
  · obtain ⟨q, hq, hs⟩ := hx
    exact h q hq ρ1 k1 (fok_cons hs k2) k3 k4
  · refine (scon_ok (F := qs.map (fun q => (q, false)) ++ F) ⟨k2.1, fun f hf => ?_⟩ hn).elim
    rcases List.mem_append.mp hf with hf | hf
    · obtain ⟨q, hq, rfl⟩ := List.mem_map.mp hf
      cases hs : sc X ρ1 q with
      | true => exact absurd ⟨q, hq, hs⟩ hx
      | false => rfl
    · exact k2.2 f hf
noncomputable def f_tl : sFs := [((2, .int 6, .arg 1318), false)]
noncomputable def c_tell0 : sC := ((17, 284, 2), ([tr 49], [.int 0]), ([49, 50, 42, 43], []), [((2, .int 6, .arg 1318), false)], ([6625, 7041, 60032, 60064], []), (none, some (.int 0)), [((104, .add (.arg 6625) (.add (.arg 7041) (.elem (.arg 2944) (.int 0))), .arg 1318), true)], ([], [([((0, .arg 1318, .int 0), true)], (6, .arg 7041, .long 0), true), ([((0, .arg 1318, .int 1), true)], (6, .arg 7041, .op1 .i2l (.elem (.arg 2944) (.int 0))), true), ([((0, .arg 1318, .int 2), true)], (6, .arg 7041, .op1 .i2l (.elem (.arg 2944) (.int 1))), true), ([((0, .arg 1318, .int 3), true)], (6, .arg 7041, .op1 .i2l (.elem (.arg 2944) (.int 2))), true), ([((0, .arg 1318, .int 4), true)], (6, .arg 7041, .op1 .i2l (.elem (.arg 2944) (.int 3))), true), ([((0, .arg 1318, .int 5), true)], (6, .arg 7041, .op1 .i2l (.elem (.arg 2944) (.int 4))), true), ([((0, .arg 1318, .int 6), true)], (6, .arg 7041, .op1 .i2l (.elem (.arg 2944) (.int 5))), true)]))
theorem c_tell0_f : cfine zVP 65536 c_tell0 = true := by decide +kernel
noncomputable def q_tl : sCut := ((fr 0 17 4 [(0, tr 49), (1, .arg 60064), (2, .arg 60032)] [], [fBot], 1), (fr 0 284 0 [(0, .int 0)] [], [fBot], 1), [] ++ f_tl, [])
noncomputable def q_tlS : sCut := ((fr 0 17 4 [(0, tr 49), (1, .arg 60064), (2, .arg 60032)] [], [fBot], 1), (fr 0 284 0 [(0, .int 0)] [], [fBot], 1), [((0, .arg 60064, .int 0), true), ((0, .arg 60032, .int 0), true)] ++ f_tl, [])
noncomputable def q_tlA : sCut := ((fr 0 17 4 [(0, tr 49), (1, .arg 60064), (2, .arg 60032)] [], [fBot], 1), (fr 0 284 0 [(0, .int 0)] [], [fBot], 1), [((2, .arg 60032, .int 0), false), ((2, .arg 60032, .arg 1318), true), ((2, .arg 60032, .int 8), true), ((0, .op2 .iushr (.elem (.arg 2944) (.arg 60032)) (.int 8), .int 129), true)] ++ f_tl, [])
noncomputable def w_tlA : List (sCut × List (Nat × sT)) := [(q_tl, [(60064, .op2 .ior (.arg 60064) (.int 17)), (60032, .add (.arg 60032) (.int 1))])]
noncomputable def q_tlB : sCut := ((fr 0 17 4 [(0, tr 49), (1, .arg 60064), (2, .arg 60032)] [], [fBot], 1), (fr 0 284 0 [(0, .int 0)] [], [fBot], 1), [((2, .arg 60032, .int 0), false), ((2, .arg 60032, .arg 1318), true), ((2, .arg 60032, .int 8), true), ((0, .op2 .iushr (.elem (.arg 2944) (.arg 60032)) (.int 8), .int 129), false), ((0, .op2 .iushr (.elem (.arg 2944) (.arg 60032)) (.int 8), .int 134), true)] ++ f_tl, [])
noncomputable def w_tlB : List (sCut × List (Nat × sT)) := [(q_tl, [(60064, .op2 .ior (.arg 60064) (.int 33)), (60032, .add (.arg 60032) (.int 1))])]
noncomputable def q_tlC : sCut := ((fr 0 17 4 [(0, tr 49), (1, .arg 60064), (2, .arg 60032)] [], [fBot], 1), (fr 0 284 0 [(0, .int 0)] [], [fBot], 1), [((2, .arg 60032, .int 0), false), ((2, .arg 60032, .arg 1318), true), ((2, .arg 60032, .int 8), true), ((0, .op2 .iushr (.elem (.arg 2944) (.arg 60032)) (.int 8), .int 129), false), ((0, .op2 .iushr (.elem (.arg 2944) (.arg 60032)) (.int 8), .int 134), false), ((0, .op2 .iushr (.elem (.arg 2944) (.arg 60032)) (.int 8), .int 255), true)] ++ f_tl, [])
noncomputable def w_tlC : List (sCut × List (Nat × sT)) := [(q_tl, [(60064, .op2 .ior (.arg 60064) (.int 129)), (60032, .add (.arg 60032) (.int 1))])]
noncomputable def q_tlD : sCut := ((fr 0 17 4 [(0, tr 49), (1, .arg 60064), (2, .arg 60032)] [], [fBot], 1), (fr 0 284 0 [(0, .int 0)] [], [fBot], 1), [((2, .arg 60032, .int 0), false), ((2, .arg 60032, .arg 1318), true), ((2, .arg 60032, .int 8), true), ((0, .op2 .iushr (.elem (.arg 2944) (.arg 60032)) (.int 8), .int 129), false), ((0, .op2 .iushr (.elem (.arg 2944) (.arg 60032)) (.int 8), .int 134), false), ((0, .op2 .iushr (.elem (.arg 2944) (.arg 60032)) (.int 8), .int 255), false)] ++ f_tl, [])
noncomputable def w_tlD : List (sCut × List (Nat × sT)) := [(q_tl, [(60064, .op2 .ior (.arg 60064) (.int 1)), (60032, .add (.arg 60032) (.int 1))])]
noncomputable def q_tlE0 : sCut := ((fr 0 17 4 [(0, tr 49), (1, .arg 60064), (2, .arg 60032)] [], [fBot], 1), (fr 0 284 0 [(0, .int 0)] [], [fBot], 1), [((0, .arg 1318, .int 0), true), ((2, .arg 60032, .arg 1318), false), ((104, .add (.op1 .i2l (.arg 60064)) (.add (.long 0) (.elem (.arg 2944) (.int 0))), .arg 1318), true)] ++ f_tl, [])
noncomputable def q_tlE1 : sCut := ((fr 0 17 4 [(0, tr 49), (1, .arg 60064), (2, .arg 60032)] [], [fBot], 1), (fr 0 284 0 [(0, .int 0)] [], [fBot], 1), [((0, .arg 1318, .int 1), true), ((2, .arg 60032, .arg 1318), false), ((104, .add (.op1 .i2l (.arg 60064)) (.add (.op1 .i2l (.elem (.arg 2944) (.int 0))) (.elem (.arg 2944) (.int 0))), .arg 1318), true)] ++ f_tl, [])
noncomputable def q_tlE2 : sCut := ((fr 0 17 4 [(0, tr 49), (1, .arg 60064), (2, .arg 60032)] [], [fBot], 1), (fr 0 284 0 [(0, .int 0)] [], [fBot], 1), [((0, .arg 1318, .int 2), true), ((2, .arg 60032, .arg 1318), false), ((104, .add (.op1 .i2l (.arg 60064)) (.add (.op1 .i2l (.elem (.arg 2944) (.int 1))) (.elem (.arg 2944) (.int 0))), .arg 1318), true)] ++ f_tl, [])
noncomputable def q_tlE3 : sCut := ((fr 0 17 4 [(0, tr 49), (1, .arg 60064), (2, .arg 60032)] [], [fBot], 1), (fr 0 284 0 [(0, .int 0)] [], [fBot], 1), [((0, .arg 1318, .int 3), true), ((2, .arg 60032, .arg 1318), false), ((104, .add (.op1 .i2l (.arg 60064)) (.add (.op1 .i2l (.elem (.arg 2944) (.int 2))) (.elem (.arg 2944) (.int 0))), .arg 1318), true)] ++ f_tl, [])
noncomputable def q_tlE4 : sCut := ((fr 0 17 4 [(0, tr 49), (1, .arg 60064), (2, .arg 60032)] [], [fBot], 1), (fr 0 284 0 [(0, .int 0)] [], [fBot], 1), [((0, .arg 1318, .int 4), true), ((2, .arg 60032, .arg 1318), false), ((104, .add (.op1 .i2l (.arg 60064)) (.add (.op1 .i2l (.elem (.arg 2944) (.int 3))) (.elem (.arg 2944) (.int 0))), .arg 1318), true)] ++ f_tl, [])
noncomputable def q_tlE5 : sCut := ((fr 0 17 4 [(0, tr 49), (1, .arg 60064), (2, .arg 60032)] [], [fBot], 1), (fr 0 284 0 [(0, .int 0)] [], [fBot], 1), [((0, .arg 1318, .int 5), true), ((2, .arg 60032, .arg 1318), false), ((104, .add (.op1 .i2l (.arg 60064)) (.add (.op1 .i2l (.elem (.arg 2944) (.int 4))) (.elem (.arg 2944) (.int 0))), .arg 1318), true)] ++ f_tl, [])
noncomputable def q_tlE6 : sCut := ((fr 0 17 4 [(0, tr 49), (1, .arg 60064), (2, .arg 60032)] [], [fBot], 1), (fr 0 284 0 [(0, .int 0)] [], [fBot], 1), [((0, .arg 1318, .int 6), true), ((2, .arg 60032, .arg 1318), false), ((104, .add (.op1 .i2l (.arg 60064)) (.add (.op1 .i2l (.elem (.arg 2944) (.int 5))) (.elem (.arg 2944) (.int 0))), .arg 1318), true)] ++ f_tl, [])
noncomputable def w_tlE : List (sCut × List (Nat × sT)) := []
theorem k_tlA : cbody kR [] (cpl1 zVP c_tell0 [q_tl]) (cpl2 zVP c_tell0 [q_tl]) (cleafS kR zVP c_tell0 w_tlA) 300 true false q_tlA.2.2.1 q_tlA.2.2.2 (cst zVP c_tell0.2.2.1.1 q_tlA.1) (cst zVP c_tell0.2.2.1.2 q_tlA.2.1) = true := by decide +kernel
theorem k_tlB : cbody kR [] (cpl1 zVP c_tell0 [q_tl]) (cpl2 zVP c_tell0 [q_tl]) (cleafS kR zVP c_tell0 w_tlB) 300 true false q_tlB.2.2.1 q_tlB.2.2.2 (cst zVP c_tell0.2.2.1.1 q_tlB.1) (cst zVP c_tell0.2.2.1.2 q_tlB.2.1) = true := by decide +kernel
theorem k_tlC : cbody kR [] (cpl1 zVP c_tell0 [q_tl]) (cpl2 zVP c_tell0 [q_tl]) (cleafS kR zVP c_tell0 w_tlC) 300 true false q_tlC.2.2.1 q_tlC.2.2.2 (cst zVP c_tell0.2.2.1.1 q_tlC.1) (cst zVP c_tell0.2.2.1.2 q_tlC.2.1) = true := by decide +kernel
theorem k_tlD : cbody kR [] (cpl1 zVP c_tell0 [q_tl]) (cpl2 zVP c_tell0 [q_tl]) (cleafS kR zVP c_tell0 w_tlD) 300 true false q_tlD.2.2.1 q_tlD.2.2.2 (cst zVP c_tell0.2.2.1.1 q_tlD.1) (cst zVP c_tell0.2.2.1.2 q_tlD.2.1) = true := by decide +kernel
theorem k_tlE0 : cbody kR [] (cpl1 zVP c_tell0 []) (cpl2 zVP c_tell0 []) (cleafS kR zVP c_tell0 w_tlE) 300 true true q_tlE0.2.2.1 q_tlE0.2.2.2 (cst zVP c_tell0.2.2.1.1 q_tlE0.1) (cst zVP c_tell0.2.2.1.2 q_tlE0.2.1) = true := by decide +kernel
theorem k_tlE1 : cbody kR [] (cpl1 zVP c_tell0 []) (cpl2 zVP c_tell0 []) (cleafS kR zVP c_tell0 w_tlE) 300 true true q_tlE1.2.2.1 q_tlE1.2.2.2 (cst zVP c_tell0.2.2.1.1 q_tlE1.1) (cst zVP c_tell0.2.2.1.2 q_tlE1.2.1) = true := by decide +kernel
theorem k_tlE2 : cbody kR [] (cpl1 zVP c_tell0 []) (cpl2 zVP c_tell0 []) (cleafS kR zVP c_tell0 w_tlE) 300 true true q_tlE2.2.2.1 q_tlE2.2.2.2 (cst zVP c_tell0.2.2.1.1 q_tlE2.1) (cst zVP c_tell0.2.2.1.2 q_tlE2.2.1) = true := by decide +kernel
theorem k_tlE3 : cbody kR [] (cpl1 zVP c_tell0 []) (cpl2 zVP c_tell0 []) (cleafS kR zVP c_tell0 w_tlE) 300 true true q_tlE3.2.2.1 q_tlE3.2.2.2 (cst zVP c_tell0.2.2.1.1 q_tlE3.1) (cst zVP c_tell0.2.2.1.2 q_tlE3.2.1) = true := by decide +kernel
theorem k_tlE4 : cbody kR [] (cpl1 zVP c_tell0 []) (cpl2 zVP c_tell0 []) (cleafS kR zVP c_tell0 w_tlE) 300 true true q_tlE4.2.2.1 q_tlE4.2.2.2 (cst zVP c_tell0.2.2.1.1 q_tlE4.1) (cst zVP c_tell0.2.2.1.2 q_tlE4.2.1) = true := by decide +kernel
theorem k_tlE5 : cbody kR [] (cpl1 zVP c_tell0 []) (cpl2 zVP c_tell0 []) (cleafS kR zVP c_tell0 w_tlE) 300 true true q_tlE5.2.2.1 q_tlE5.2.2.2 (cst zVP c_tell0.2.2.1.1 q_tlE5.1) (cst zVP c_tell0.2.2.1.2 q_tlE5.2.1) = true := by decide +kernel
theorem k_tlE6 : cbody kR [] (cpl1 zVP c_tell0 []) (cpl2 zVP c_tell0 []) (cleafS kR zVP c_tell0 w_tlE) 300 true true q_tlE6.2.2.1 q_tlE6.2.2.2 (cst zVP c_tell0.2.2.1.1 q_tlE6.1) (cst zVP c_tell0.2.2.1.2 q_tlE6.2.1) = true := by decide +kernel
theorem e_tell0 : frun kR [] (cpl1 zVP c_tell0 [q_tlS]) (cpl2 zVP c_tell0 [q_tlS]) (cleaf kR zVP c_tell0 [q_tlS]) 300 65536 (isatP (c_tell0.2.2.2.1) c_tell0.2.2.2.2.2.2.2.1) c_tell0.2.2.2.2.2.2.2.1 (sin0 mt_all c_tell0.1.1 1 c_tell0.2.1.1 (foot zVP c_tell0.2.2.1.1)) (sin0 mt_all c_tell0.1.2.1 1 c_tell0.2.1.2 (foot zVP c_tell0.2.2.1.2)) = true := by decide +kernel
theorem ar_9 : ∀ r ∈ [0, 1, 17, 33, 49, 129, 145, 161, 177], ∀ c ∈ [1, 17, 33, 129], (r ||| c) ∈ [0, 1, 17, 33, 49, 129, 145, 161, 177] ∧ Int32.ofNat r ||| Int32.ofNat c = Int32.ofNat (r ||| c) := by decide
theorem ar_n : ∀ r ∈ [0, 1, 17, 33, 49, 129, 145, 161, 177], (Int32.ofNat r).toInt = (r : Int) := by decide
theorem ar_s (f : Nat → Int32) (k : Nat) : areg f ((k : Int) + 1) = areg f (k : Int) ||| areg1 (f k) := by
  unfold areg
  rw [show ((k : Int) + 1).toNat = k + 1 by omega, show ((k : Int)).toNat = k by omega, List.range_succ, List.foldl_append]
  rfl
theorem ar_1 (c : Int32) : areg1 c ∈ [1, 17, 33, 129] := by
  unfold areg1
  repeat' split
  all_goals simp
theorem ar_m (f : Nat → Int32) : ∀ k : Nat, areg f (k : Int) ∈ [0, 1, 17, 33, 49, 129, 145, 161, 177]
  | 0 => by simp [areg]
  | k + 1 => by
    rw [show ((k + 1 : Nat) : Int) = (k : Int) + 1 by omega, ar_s]
    exact (ar_9 _ (ar_m f k) _ (ar_1 _)).1
theorem tl_end {X : pX} {ρ0 ρ : sR} (hv : vok X ρ0) (k1 : kok X ρ kR) (k2 : fok X ρ f_tl) (k4 : agrM 65536 c_tell0.2.2.2.2.1.1 c_tell0.2.2.2.2.1.2 ρ ρ0) (h0 : 0 ≤ (ρ.1 60032).toInt) (hi : (ρ.1 60032).toInt = (ρ.1 1318).toInt) (hR : ρ.1 60064 = Int32.ofNat (areg (ρ.2.2.1 2944) (ρ.1 60032).toInt)) : AT X zVP c_tell0 1 ρ0 ρ q_tl := by
  have f6 : ¬ (6 : Int32) < ρ.1 1318 := of_decide_eq_false (k2.2 ((2, .int 6, .arg 1318), false) List.mem_cons_self)
  have f6 : (ρ.1 1318).toInt ≤ 6 := Int32.le_iff_toInt_le.mp (Int32.not_lt.mp f6)
  have hlt : sc X ρ (2, .arg 60032, .arg 1318) = false := decide_eq_false (show ¬ ρ.1 60032 < ρ.1 1318 from fun q => by have := Int32.lt_iff_toInt_lt.mp q; omega)
  have hg : (ρ.1 60064).toInt64.toInt = ((areg (ρ.2.2.1 2944) (ρ.1 1318).toInt : Nat) : Int) := by
    rw [Int32.toInt_toInt64, hR, hi]
    have hk := ar_m (ρ.2.2.1 2944) (ρ.1 1318).toInt.toNat
    rw [show (((ρ.1 1318).toInt.toNat : Nat) : Int) = (ρ.1 1318).toInt by omega] at hk
    exact ar_n _ hk
  have h104 : ∀ t : sT, sk t = 1 → (sd X ρ t).2.toInt = alast (ρ.2.2.1 2944) (ρ.1 1318).toInt → sc X ρ (104, .add (.op1 .i2l (.arg 60064)) (.add t (.elem (.arg 2944) (.int 0))), .arg 1318) = true := fun t ht hl => by
    show (decide ((ρ.1 60064).toInt64.toInt = ((areg (ρ.2.2.1 2944) (ρ.1 1318).toInt : Nat) : Int)) && decide ((if sk t = 1 then (sd X ρ t).2.toInt else (sd X ρ t).1.toInt) = alast (ρ.2.2.1 2944) (ρ.1 1318).toInt)) = true
    rw [if_pos ht, decide_eq_true hg, decide_eq_true hl]
    rfl
  have hc : (ρ.1 1318).toInt = 0 ∨ (ρ.1 1318).toInt = 1 ∨ (ρ.1 1318).toInt = 2 ∨ (ρ.1 1318).toInt = 3 ∨ (ρ.1 1318).toInt = 4 ∨ (ρ.1 1318).toInt = 5 ∨ (ρ.1 1318).toInt = 6 := by omega
  rcases hc with e | e | e | e | e | e | e
  · exact AT_of (q := q_tlE0) rfl rfl (SEM_run kR_x kR_0 (Cs := []) (fun C hC => by cases hC) c_tell0_f (Q := w_tlE) hv 300 (b1 := true) (b2 := true) k_tlE0 k1 (fok_cons (decide_eq_true (Int32.toInt_inj.mp (e.trans (by decide : (0 : Int) = (0 : Int32).toInt)))) (fok_cons hlt (fok_cons (h104 (.long 0) rfl (by rw [e]; rfl)) k2))) iok_nil k4 (fun p hp => by cases hp))
  · exact AT_of (q := q_tlE1) rfl rfl (SEM_run kR_x kR_0 (Cs := []) (fun C hC => by cases hC) c_tell0_f (Q := w_tlE) hv 300 (b1 := true) (b2 := true) k_tlE1 k1 (fok_cons (decide_eq_true (Int32.toInt_inj.mp (e.trans (by decide : (1 : Int) = (1 : Int32).toInt)))) (fok_cons hlt (fok_cons (h104 (.op1 .i2l (.elem (.arg 2944) (.int 0))) rfl (by rw [e]; exact (Int32.toInt_toInt64 _))) k2))) iok_nil k4 (fun p hp => by cases hp))
  · exact AT_of (q := q_tlE2) rfl rfl (SEM_run kR_x kR_0 (Cs := []) (fun C hC => by cases hC) c_tell0_f (Q := w_tlE) hv 300 (b1 := true) (b2 := true) k_tlE2 k1 (fok_cons (decide_eq_true (Int32.toInt_inj.mp (e.trans (by decide : (2 : Int) = (2 : Int32).toInt)))) (fok_cons hlt (fok_cons (h104 (.op1 .i2l (.elem (.arg 2944) (.int 1))) rfl (by rw [e]; exact (Int32.toInt_toInt64 _))) k2))) iok_nil k4 (fun p hp => by cases hp))
  · exact AT_of (q := q_tlE3) rfl rfl (SEM_run kR_x kR_0 (Cs := []) (fun C hC => by cases hC) c_tell0_f (Q := w_tlE) hv 300 (b1 := true) (b2 := true) k_tlE3 k1 (fok_cons (decide_eq_true (Int32.toInt_inj.mp (e.trans (by decide : (3 : Int) = (3 : Int32).toInt)))) (fok_cons hlt (fok_cons (h104 (.op1 .i2l (.elem (.arg 2944) (.int 2))) rfl (by rw [e]; exact (Int32.toInt_toInt64 _))) k2))) iok_nil k4 (fun p hp => by cases hp))
  · exact AT_of (q := q_tlE4) rfl rfl (SEM_run kR_x kR_0 (Cs := []) (fun C hC => by cases hC) c_tell0_f (Q := w_tlE) hv 300 (b1 := true) (b2 := true) k_tlE4 k1 (fok_cons (decide_eq_true (Int32.toInt_inj.mp (e.trans (by decide : (4 : Int) = (4 : Int32).toInt)))) (fok_cons hlt (fok_cons (h104 (.op1 .i2l (.elem (.arg 2944) (.int 3))) rfl (by rw [e]; exact (Int32.toInt_toInt64 _))) k2))) iok_nil k4 (fun p hp => by cases hp))
  · exact AT_of (q := q_tlE5) rfl rfl (SEM_run kR_x kR_0 (Cs := []) (fun C hC => by cases hC) c_tell0_f (Q := w_tlE) hv 300 (b1 := true) (b2 := true) k_tlE5 k1 (fok_cons (decide_eq_true (Int32.toInt_inj.mp (e.trans (by decide : (5 : Int) = (5 : Int32).toInt)))) (fok_cons hlt (fok_cons (h104 (.op1 .i2l (.elem (.arg 2944) (.int 4))) rfl (by rw [e]; exact (Int32.toInt_toInt64 _))) k2))) iok_nil k4 (fun p hp => by cases hp))
  · exact AT_of (q := q_tlE6) rfl rfl (SEM_run kR_x kR_0 (Cs := []) (fun C hC => by cases hC) c_tell0_f (Q := w_tlE) hv 300 (b1 := true) (b2 := true) k_tlE6 k1 (fok_cons (decide_eq_true (Int32.toInt_inj.mp (e.trans (by decide : (6 : Int) = (6 : Int32).toInt)))) (fok_cons hlt (fok_cons (h104 (.op1 .i2l (.elem (.arg 2944) (.int 5))) rfl (by rw [e]; exact (Int32.toInt_toInt64 _))) k2))) iok_nil k4 (fun p hp => by cases hp))
theorem tl_next {ρ0 ρ ρ3 : sR} {w : Nat} (k4 : agrM 65536 c_tell0.2.2.2.2.1.1 c_tell0.2.2.2.2.1.2 ρ ρ0) (m4 : agrM 65536 c_tell0.2.2.2.2.1.1 c_tell0.2.2.2.2.1.2 ρ3 ρ0) (h0 : 0 ≤ (ρ.1 60032).toInt) (hl : (ρ.1 60032).toInt < (ρ.1 1318).toInt) (h6 : (ρ.1 1318).toInt ≤ 6) (hR : ρ.1 60064 = Int32.ofNat (areg (ρ.2.2.1 2944) (ρ.1 60032).toInt)) (hw : areg1 (ρ.2.2.1 2944 (ρ.1 60032).toNatClampNeg) = w) (y1 : ρ3.1 60064 = ρ.1 60064 ||| Int32.ofNat w) (y2 : ρ3.1 60032 = ρ.1 60032 + 1) : 0 ≤ (ρ3.1 60032).toInt ∧ (ρ3.1 60032).toInt ≤ (ρ3.1 1318).toInt ∧ ρ3.1 60064 = Int32.ofNat (areg (ρ3.2.2.1 2944) (ρ3.1 60032).toInt) ∧ (ρ3.1 1318).toInt - (ρ3.1 60032).toInt = (ρ.1 1318).toInt - (ρ.1 60032).toInt - 1 := by
  have e1 : ρ3.1 1318 = ρ.1 1318 := ((m4.1 1318 (by decide) (by decide)).1).trans ((k4.1 1318 (by decide) (by decide)).1).symm
  have e2 : ρ3.2.2.1 2944 = ρ.2.2.1 2944 := ((m4.2 2944 (by decide) (by decide)).1).trans ((k4.2 2944 (by decide) (by decide)).1).symm
  have z : (1 : Int32).toInt = 1 := rfl
  have e3 : (ρ3.1 60032).toInt = (ρ.1 60032).toInt + 1 := by rw [y2, s_add (by rw [z]; omega) (by rw [z]; omega), z]
  have e4 : (((ρ.1 60032).toInt.toNat : Nat) : Int) = (ρ.1 60032).toInt := by omega
  refine ⟨by omega, by rw [e1]; omega, ?_, by rw [e1]; omega⟩
  have hm := ar_m (ρ.2.2.1 2944) (ρ.1 60032).toInt.toNat
  have hs := ar_s (ρ.2.2.1 2944) (ρ.1 60032).toInt.toNat
  rw [e4] at hm hs
  have hw : areg1 (ρ.2.2.1 2944 (ρ.1 60032).toInt.toNat) = w := hw
  rw [hw] at hs
  have h1 := ar_1 (ρ.2.2.1 2944 (ρ.1 60032).toInt.toNat)
  rw [hw] at h1
  rw [y1, e2, e3, hs, hR]
  exact (ar_9 _ hm _ h1).2
theorem tl_at {X : pX} {ρ0 : sR} (hv : vok X ρ0) : ∀ (n : Nat) (ρ : sR), kok X ρ kR → fok X ρ f_tl → agrM 65536 c_tell0.2.2.2.2.1.1 c_tell0.2.2.2.2.1.2 ρ ρ0 → 0 ≤ (ρ.1 60032).toInt → (ρ.1 60032).toInt ≤ (ρ.1 1318).toInt → ρ.1 60064 = Int32.ofNat (areg (ρ.2.2.1 2944) (ρ.1 60032).toInt) → (ρ.1 1318).toInt - (ρ.1 60032).toInt ≤ n → AT X zVP c_tell0 1 ρ0 ρ q_tl := by
  intro n
  induction n with
  | zero => intro ρ k1 k2 k4 h0 h1 hR hn; exact tl_end hv k1 k2 k4 h0 (by omega) hR
  | succ n ih =>
    intro ρ k1 k2 k4 h0 h1 hR hn
    by_cases hl : (ρ.1 60032).toInt < (ρ.1 1318).toInt
    · have f6 : ¬ (6 : Int32) < ρ.1 1318 := of_decide_eq_false (k2.2 ((2, .int 6, .arg 1318), false) List.mem_cons_self)
      have f6 : (ρ.1 1318).toInt ≤ 6 := Int32.le_iff_toInt_le.mp (Int32.not_lt.mp f6)
      have z0 : (0 : Int32).toInt = 0 := rfl
      have z8 : (8 : Int32).toInt = 8 := rfl
      have a0 : sc X ρ (2, .arg 60032, .int 0) = false := decide_eq_false (show ¬ ρ.1 60032 < 0 from fun q => by have := Int32.lt_iff_toInt_lt.mp q; rw [z0] at this; omega)
      have a1 : sc X ρ (2, .arg 60032, .arg 1318) = true := decide_eq_true (Int32.lt_iff_toInt_lt.mpr hl)
      have a2 : sc X ρ (2, .arg 60032, .int 8) = true := decide_eq_true (show ρ.1 60032 < 8 from Int32.lt_iff_toInt_lt.mpr (by rw [z8]; omega))
      have hgo : ∀ (w : Nat) (ρ3 : sR), kok X ρ3 kR → fok X ρ3 f_tl → agrM 65536 c_tell0.2.2.2.2.1.1 c_tell0.2.2.2.2.1.2 ρ3 ρ0 → areg1 (ρ.2.2.1 2944 (ρ.1 60032).toNatClampNeg) = w → ρ3.1 60064 = ρ.1 60064 ||| Int32.ofNat w → ρ3.1 60032 = ρ.1 60032 + 1 → AT X zVP c_tell0 1 ρ0 ρ3 q_tl := fun w ρ3 m1 m2 m4 hw y1 y2 => by
        obtain ⟨b1, b2, b3, b4⟩ := tl_next k4 m4 h0 hl f6 hR hw y1 y2
        exact ih ρ3 m1 m2 m4 b1 b2 b3 (by omega)
      by_cases g0 : agrp (ρ.2.2.1 2944 (ρ.1 60032).toNatClampNeg) = 129
      · refine AT_of (q := q_tlA) rfl rfl (SEM_run kR_x kR_0 (Cs := []) (fun C hC => by cases hC) c_tell0_f (Q := w_tlA) hv 300 (b1 := true) (b2 := false) k_tlA k1 (fok_cons a0 (fok_cons a1 (fok_cons a2 (fok_cons (decide_eq_true g0) k2)))) iok_nil k4 (fun p hp ρ3 m1 m2 m3 m4 m5 => ?_))
        rw [List.mem_singleton.mp hp] at m2 m3 m5 ⊢
        exact hgo 17 ρ3 m1 m2 m4 (by unfold areg1; rw [if_pos g0]) (tie1 (m5 _ List.mem_cons_self)) (tie1 (m5 _ (List.mem_cons_of_mem _ List.mem_cons_self)))
      by_cases g1 : agrp (ρ.2.2.1 2944 (ρ.1 60032).toNatClampNeg) = 134
      · refine AT_of (q := q_tlB) rfl rfl (SEM_run kR_x kR_0 (Cs := []) (fun C hC => by cases hC) c_tell0_f (Q := w_tlB) hv 300 (b1 := true) (b2 := false) k_tlB k1 (fok_cons a0 (fok_cons a1 (fok_cons a2 (fok_cons (decide_eq_false g0) (fok_cons (decide_eq_true g1) k2))))) iok_nil k4 (fun p hp ρ3 m1 m2 m3 m4 m5 => ?_))
        rw [List.mem_singleton.mp hp] at m2 m3 m5 ⊢
        exact hgo 33 ρ3 m1 m2 m4 (by unfold areg1; rw [if_neg g0, if_pos g1]) (tie1 (m5 _ List.mem_cons_self)) (tie1 (m5 _ (List.mem_cons_of_mem _ List.mem_cons_self)))
      by_cases g2 : agrp (ρ.2.2.1 2944 (ρ.1 60032).toNatClampNeg) = 255
      · refine AT_of (q := q_tlC) rfl rfl (SEM_run kR_x kR_0 (Cs := []) (fun C hC => by cases hC) c_tell0_f (Q := w_tlC) hv 300 (b1 := true) (b2 := false) k_tlC k1 (fok_cons a0 (fok_cons a1 (fok_cons a2 (fok_cons (decide_eq_false g0) (fok_cons (decide_eq_false g1) (fok_cons (decide_eq_true g2) k2)))))) iok_nil k4 (fun p hp ρ3 m1 m2 m3 m4 m5 => ?_))
        rw [List.mem_singleton.mp hp] at m2 m3 m5 ⊢
        exact hgo 129 ρ3 m1 m2 m4 (by unfold areg1; rw [if_neg g0, if_neg g1, if_pos g2]) (tie1 (m5 _ List.mem_cons_self)) (tie1 (m5 _ (List.mem_cons_of_mem _ List.mem_cons_self)))
      refine AT_of (q := q_tlD) rfl rfl (SEM_run kR_x kR_0 (Cs := []) (fun C hC => by cases hC) c_tell0_f (Q := w_tlD) hv 300 (b1 := true) (b2 := false) k_tlD k1 (fok_cons a0 (fok_cons a1 (fok_cons a2 (fok_cons (decide_eq_false g0) (fok_cons (decide_eq_false g1) (fok_cons (decide_eq_false g2) k2)))))) iok_nil k4 (fun p hp ρ3 m1 m2 m3 m4 m5 => ?_))
      rw [List.mem_singleton.mp hp] at m2 m3 m5 ⊢
      exact hgo 1 ρ3 m1 m2 m4 (by unfold areg1; rw [if_neg g0, if_neg g1, if_neg g2]) (tie1 (m5 _ List.mem_cons_self)) (tie1 (m5 _ (List.mem_cons_of_mem _ List.mem_cons_self)))
    · exact tl_end hv k1 k2 k4 h0 (by omega) hR
theorem t_tlS {X : pX} {ρ0 : sR} (hv : vok X ρ0) : CUTOK X kR zVP c_tell0 1 ρ0 q_tlS := CUTOK_AT (fun ρ1 k1 k2 k3 k4 => by
  have e1 : ρ1.1 60064 = 0 := of_decide_eq_true (k2.2 ((0, .arg 60064, .int 0), true) List.mem_cons_self)
  have e2 : ρ1.1 60032 = 0 := of_decide_eq_true (k2.2 ((0, .arg 60032, .int 0), true) (List.mem_cons_of_mem _ List.mem_cons_self))
  have z : (0 : Int32).toInt = 0 := rfl
  have hn : 0 ≤ (ρ1.1 1318).toInt := (k2.1.1 1318 (0, 8) rfl).1
  refine AT_of (q := q_tl) rfl rfl (tl_at hv (ρ1.1 1318).toInt.toNat ρ1 k1 ⟨k2.1, fun f hf => k2.2 f (List.mem_cons_of_mem _ (List.mem_cons_of_mem _ hf))⟩ k4 (by rw [e2, z]; omega) (by rw [e2, z]; exact hn) ?_ (by rw [e2, z]; omega))
  rw [e1, e2, z]
  simp [areg])
theorem s_tell0 {X : pX} : SREL X pF pdfl mt_all kR zVP c_tell0 := SREL_QC kR_x kR_0 (Cs := []) (fun C hC => by cases hC) (d := 1) rfl c_tell0_f (Q := [q_tlS]) (fun ρ0 hv => fun q hq => by
    simp only [List.mem_cons, List.not_mem_nil, or_false] at hq
    rw [hq]; exact t_tlS hv) (QC_run 300 e_tell0)
