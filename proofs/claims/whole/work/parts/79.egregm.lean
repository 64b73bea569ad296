/-! ===== the register: register ===== -/
noncomputable def f_rg : sFs := [((100, .elem (.arg 2944) (.int 0), .arg 1318), true), ((104, .add (.arg 60033) (.add (.arg 7041) (.elem (.arg 2944) (.int 0))), .arg 1318), true)]
noncomputable def c_regm0 : sC := ((425, 263, 2), ([.long 0], [tr 219, .arg 1308]), ([], [219, 291, 290, 229]), [((100, .elem (.arg 2944) (.int 0), .arg 1318), true), ((104, .add (.arg 60033) (.add (.arg 7041) (.elem (.arg 2944) (.int 0))), .arg 1318), true)], ([60096, 60032, 60064], []), (some (.long 0), some (.arg 60096)), [((6, .op1 .i2l (.arg 60096), .arg 60033), true)], ([], []))
theorem c_regm0_f : cfine zVP 65536 c_regm0 = true := by decide +kernel
noncomputable def q_rg : sCut := ((fr 0 425 0 [(0, .long 0)] [], [fBot], 1), (fr 0 263 11 [(0, tr 219), (1, .arg 1308), (2, .arg 60064), (3, .arg 60032)] [], [fBot], 1), [] ++ f_rg, [])
noncomputable def q_rgS : sCut := ((fr 0 425 0 [(0, .long 0)] [], [fBot], 1), (fr 0 263 11 [(0, tr 219), (1, .arg 1308), (2, .arg 60064), (3, .arg 60032)] [], [fBot], 1), [((0, .arg 60064, .int 1), true), ((0, .arg 60032, .int 0), true), ((2, .int 0, .arg 1318), true)] ++ f_rg, [])
noncomputable def q_rgZ : sCut := ((fr 0 425 0 [(0, .long 0)] [], [fBot], 1), (fr 0 263 11 [(0, tr 219), (1, .arg 1308), (2, .arg 60064), (3, .arg 60032)] [], [fBot], 1), [((0, .arg 60064, .int 0), true), ((0, .arg 60032, .int 0), true), ((0, .arg 1318, .int 0), true)] ++ f_rg, [])
noncomputable def q_rgA : sCut := ((fr 0 425 0 [(0, .long 0)] [], [fBot], 1), (fr 0 263 11 [(0, tr 219), (1, .arg 1308), (2, .arg 60064), (3, .arg 60032)] [], [fBot], 1), [((2, .arg 60032, .int 0), false), ((2, .arg 60032, .arg 1318), true), ((2, .arg 60032, .int 8), true), ((0, .op2 .ishr (.elem (.arg 2944) (.arg 60032)) (.int 8), .int 129), true)] ++ f_rg, [])
noncomputable def w_rgA : List (sCut × List (Nat × sT)) := [(q_rg, [(60064, .op2 .ior (.arg 60064) (.int 16)), (60032, .add (.arg 60032) (.int 1))])]
noncomputable def q_rgB : sCut := ((fr 0 425 0 [(0, .long 0)] [], [fBot], 1), (fr 0 263 11 [(0, tr 219), (1, .arg 1308), (2, .arg 60064), (3, .arg 60032)] [], [fBot], 1), [((2, .arg 60032, .int 0), false), ((2, .arg 60032, .arg 1318), true), ((2, .arg 60032, .int 8), true), ((0, .op2 .ishr (.elem (.arg 2944) (.arg 60032)) (.int 8), .int 129), false), ((0, .op2 .ishr (.elem (.arg 2944) (.arg 60032)) (.int 8), .int 134), true)] ++ f_rg, [])
noncomputable def w_rgB : List (sCut × List (Nat × sT)) := [(q_rg, [(60064, .op2 .ior (.arg 60064) (.int 32)), (60032, .add (.arg 60032) (.int 1))])]
noncomputable def q_rgC : sCut := ((fr 0 425 0 [(0, .long 0)] [], [fBot], 1), (fr 0 263 11 [(0, tr 219), (1, .arg 1308), (2, .arg 60064), (3, .arg 60032)] [], [fBot], 1), [((2, .arg 60032, .int 0), false), ((2, .arg 60032, .arg 1318), true), ((2, .arg 60032, .int 8), true), ((0, .op2 .ishr (.elem (.arg 2944) (.arg 60032)) (.int 8), .int 129), false), ((0, .op2 .ishr (.elem (.arg 2944) (.arg 60032)) (.int 8), .int 134), false), ((0, .op2 .ishr (.elem (.arg 2944) (.arg 60032)) (.int 8), .int 255), true)] ++ f_rg, [])
noncomputable def w_rgC : List (sCut × List (Nat × sT)) := [(q_rg, [(60064, .op2 .ior (.arg 60064) (.int 128)), (60032, .add (.arg 60032) (.int 1))])]
noncomputable def q_rgE : sCut := ((fr 0 425 0 [(0, .long 0)] [], [fBot], 1), (fr 0 263 11 [(0, tr 219), (1, .arg 1308), (2, .arg 60064), (3, .arg 60032)] [], [fBot], 1), [((2, .arg 60032, .arg 1318), false), ((6, .op1 .i2l (.arg 60064), .arg 60033), true)] ++ f_rg, [])
noncomputable def w_rgE : List (sCut × List (Nat × sT)) := []
theorem k_rgA : cbody kR [] (cpl1 zVP c_regm0 [q_rg]) (cpl2 zVP c_regm0 [q_rg]) (cleafS kR zVP c_regm0 w_rgA) 300 false true q_rgA.2.2.1 q_rgA.2.2.2 (cst zVP c_regm0.2.2.1.1 q_rgA.1) (cst zVP c_regm0.2.2.1.2 q_rgA.2.1) = true := by decide +kernel
theorem k_rgB : cbody kR [] (cpl1 zVP c_regm0 [q_rg]) (cpl2 zVP c_regm0 [q_rg]) (cleafS kR zVP c_regm0 w_rgB) 300 false true q_rgB.2.2.1 q_rgB.2.2.2 (cst zVP c_regm0.2.2.1.1 q_rgB.1) (cst zVP c_regm0.2.2.1.2 q_rgB.2.1) = true := by decide +kernel
theorem k_rgC : cbody kR [] (cpl1 zVP c_regm0 [q_rg]) (cpl2 zVP c_regm0 [q_rg]) (cleafS kR zVP c_regm0 w_rgC) 300 false true q_rgC.2.2.1 q_rgC.2.2.2 (cst zVP c_regm0.2.2.1.1 q_rgC.1) (cst zVP c_regm0.2.2.1.2 q_rgC.2.1) = true := by decide +kernel
theorem k_rgE : cbody kR [] (cpl1 zVP c_regm0 []) (cpl2 zVP c_regm0 []) (cleafS kR zVP c_regm0 w_rgE) 300 true true q_rgE.2.2.1 q_rgE.2.2.2 (cst zVP c_regm0.2.2.1.1 q_rgE.1) (cst zVP c_regm0.2.2.1.2 q_rgE.2.1) = true := by decide +kernel
theorem e_regm0 : frun kR [] (cpl1 zVP c_regm0 [q_rgS, q_rgZ]) (cpl2 zVP c_regm0 [q_rgS, q_rgZ]) (cleaf kR zVP c_regm0 [q_rgS, q_rgZ]) 300 65536 (isatP (c_regm0.2.2.2.1) c_regm0.2.2.2.2.2.2.2.1) c_regm0.2.2.2.2.2.2.2.1 (sin0 mt_all c_regm0.1.1 1 c_regm0.2.1.1 (foot zVP c_regm0.2.2.1.1)) (sin0 mt_all c_regm0.1.2.1 1 c_regm0.2.1.2 (foot zVP c_regm0.2.2.1.2)) = true := by decide +kernel
theorem rg_9 : ∀ r ∈ [0, 1, 17, 33, 49, 129, 145, 161, 177], (Int32.ofNat (1 ||| r) ||| 16 = Int32.ofNat (1 ||| (r ||| 17)) ∧ Int32.ofNat (1 ||| r) ||| 32 = Int32.ofNat (1 ||| (r ||| 33))) ∧ Int32.ofNat (1 ||| r) ||| 128 = Int32.ofNat (1 ||| (r ||| 129)) := by decide
theorem rg_n : ∀ r ∈ [0, 1, 17, 33, 49, 129, 145, 161, 177], ∀ c ∈ [1, 17, 33, 129], (Int32.ofNat (1 ||| (r ||| c))).toInt = ((r ||| c : Nat) : Int) := by decide
theorem rg_c : ∀ c ∈ [(33040 : Int32), 33072, 33088, 34321, 34322, 65281], (c >>> ((8 : Int32) &&& 31) = 129 ∧ areg1 c = 17) ∨ (¬ c >>> ((8 : Int32) &&& 31) = 129 ∧ c >>> ((8 : Int32) &&& 31) = 134 ∧ areg1 c = 33) ∨ (¬ c >>> ((8 : Int32) &&& 31) = 129 ∧ ¬ c >>> ((8 : Int32) &&& 31) = 134 ∧ c >>> ((8 : Int32) &&& 31) = 255 ∧ areg1 c = 129) := by decide
theorem rg_al {X : pX} {ρ : sR} (k2 : fok X ρ f_rg) : al6 (ρ.2.2.1 2944) (ρ.1 1318).toInt = true := k2.2 ((100, .elem (.arg 2944) (.int 0), .arg 1318), true) List.mem_cons_self
theorem rg_end {X : pX} {ρ0 ρ : sR} (hv : vok X ρ0) (k1 : kok X ρ kR) (k2 : fok X ρ f_rg) (k4 : agrM 65536 c_regm0.2.2.2.2.1.1 c_regm0.2.2.2.2.1.2 ρ ρ0) (hi : (ρ.1 60032).toInt = (ρ.1 1318).toInt) (hR : (ρ.1 60064).toInt = ((areg (ρ.2.2.1 2944) (ρ.1 1318).toInt : Nat) : Int)) : AT X zVP c_regm0 1 ρ0 ρ q_rg := by
  have hlt : sc X ρ (2, .arg 60032, .arg 1318) = false := decide_eq_false (show ¬ ρ.1 60032 < ρ.1 1318 from fun q => by have := Int32.lt_iff_toInt_lt.mp q; omega)
  have hE : (decide ((ρ.2.1 60033).toInt = ((areg (ρ.2.2.1 2944) (ρ.1 1318).toInt : Nat) : Int)) && decide ((ρ.2.1 7041).toInt = alast (ρ.2.2.1 2944) (ρ.1 1318).toInt)) = true := k2.2 ((104, .add (.arg 60033) (.add (.arg 7041) (.elem (.arg 2944) (.int 0))), .arg 1318), true) (List.mem_cons_of_mem _ List.mem_cons_self)
  rw [Bool.and_eq_true] at hE
  have hE := of_decide_eq_true hE.1
  have h104 : sc X ρ (6, .op1 .i2l (.arg 60064), .arg 60033) = true := by
    refine decide_eq_true (show (ρ.1 60064).toInt64 = ρ.2.1 60033 from Int64.toInt_inj.mp ?_)
    rw [Int32.toInt_toInt64, hR, hE]
  exact AT_of (q := q_rgE) rfl rfl (SEM_run kR_x kR_0 (Cs := []) (fun C hC => by cases hC) c_regm0_f (Q := w_rgE) hv 300 (b1 := true) (b2 := true) k_rgE k1 (fok_cons hlt (fok_cons h104 k2)) iok_nil k4 (fun p hp => by cases hp))
theorem rg_fin {X : pX} {ρ0 ρ : sR} (hv : vok X ρ0) (k1 : kok X ρ kR) (k2 : fok X ρ f_rg) (k4 : agrM 65536 c_regm0.2.2.2.2.1.1 c_regm0.2.2.2.2.1.2 ρ ρ0) (hp : 0 < (ρ.1 1318).toInt) (hi : (ρ.1 60032).toInt = (ρ.1 1318).toInt) (hR : ρ.1 60064 = Int32.ofNat (1 ||| areg (ρ.2.2.1 2944) (ρ.1 60032).toInt)) : AT X zVP c_regm0 1 ρ0 ρ q_rg := by
  refine rg_end hv k1 k2 k4 hi ?_
  rw [hR, hi]
  have hs := ar_s (ρ.2.2.1 2944) ((ρ.1 1318).toInt.toNat - 1)
  rw [show (((ρ.1 1318).toInt.toNat - 1 : Nat) : Int) + 1 = (ρ.1 1318).toInt by omega] at hs
  rw [hs]
  exact rg_n _ (ar_m _ _) _ (ar_1 _)
theorem rg_at {X : pX} {ρ0 : sR} (hv : vok X ρ0) : ∀ (n : Nat) (ρ : sR), kok X ρ kR → fok X ρ f_rg → agrM 65536 c_regm0.2.2.2.2.1.1 c_regm0.2.2.2.2.1.2 ρ ρ0 → 0 < (ρ.1 1318).toInt → 0 ≤ (ρ.1 60032).toInt → (ρ.1 60032).toInt ≤ (ρ.1 1318).toInt → ρ.1 60064 = Int32.ofNat (1 ||| areg (ρ.2.2.1 2944) (ρ.1 60032).toInt) → (ρ.1 1318).toInt - (ρ.1 60032).toInt ≤ n → AT X zVP c_regm0 1 ρ0 ρ q_rg := by
  intro n
  induction n with
  | zero => intro ρ k1 k2 k4 hp h0 h1 hR hn; exact rg_fin hv k1 k2 k4 hp (by omega) hR
  | succ n ih =>
    intro ρ k1 k2 k4 hp h0 h1 hR hn
    by_cases hl : (ρ.1 60032).toInt < (ρ.1 1318).toInt
    · have hal := rg_al k2
      have f6 := (al6_le hal).2
      have z0 : (0 : Int32).toInt = 0 := rfl
      have z8 : (8 : Int32).toInt = 8 := rfl
      have z1 : (1 : Int32).toInt = 1 := rfl
      have a0 : sc X ρ (2, .arg 60032, .int 0) = false := decide_eq_false (show ¬ ρ.1 60032 < 0 from fun q => by have := Int32.lt_iff_toInt_lt.mp q; rw [z0] at this; omega)
      have a1 : sc X ρ (2, .arg 60032, .arg 1318) = true := decide_eq_true (Int32.lt_iff_toInt_lt.mpr hl)
      have a2 : sc X ρ (2, .arg 60032, .int 8) = true := decide_eq_true (show ρ.1 60032 < 8 from Int32.lt_iff_toInt_lt.mpr (by rw [z8]; omega))
      have hm := al6_mem hal (k := (ρ.1 60032).toInt.toNat) (by omega)
      have hs := ar_s (ρ.2.2.1 2944) (ρ.1 60032).toInt.toNat
      have h9 := ar_m (ρ.2.2.1 2944) (ρ.1 60032).toInt.toNat
      rw [show (((ρ.1 60032).toInt.toNat : Nat) : Int) = (ρ.1 60032).toInt by omega] at hs h9
      have hgo : ∀ (w : Nat) (ρ3 : sR), kok X ρ3 kR → fok X ρ3 f_rg → agrM 65536 c_regm0.2.2.2.2.1.1 c_regm0.2.2.2.2.1.2 ρ3 ρ0 → areg1 (ρ.2.2.1 2944 (ρ.1 60032).toInt.toNat) = w → ρ3.1 60064 = Int32.ofNat (1 ||| (areg (ρ.2.2.1 2944) (ρ.1 60032).toInt ||| w)) → ρ3.1 60032 = ρ.1 60032 + 1 → AT X zVP c_regm0 1 ρ0 ρ3 q_rg := fun w ρ3 m1 m2 m4 hw y1 y2 => by
        have e1 : ρ3.1 1318 = ρ.1 1318 := ((m4.1 1318 (by decide) (by decide)).1).trans ((k4.1 1318 (by decide) (by decide)).1).symm
        have e2 : ρ3.2.2.1 2944 = ρ.2.2.1 2944 := ((m4.2 2944 (by decide) (by decide)).1).trans ((k4.2 2944 (by decide) (by decide)).1).symm
        have e3 : (ρ3.1 60032).toInt = (ρ.1 60032).toInt + 1 := by rw [y2, s_add (by rw [z1]; omega) (by rw [z1]; omega), z1]
        rw [hw] at hs
        refine ih ρ3 m1 m2 m4 (by rw [e1]; exact hp) (by omega) (by rw [e1]; omega) ?_ (by rw [e1]; omega)
        rw [y1, e2, e3, hs]
      rcases rg_c _ hm with ⟨g0, hw⟩ | ⟨g0, g1, hw⟩ | ⟨g0, g1, g2, hw⟩
      · refine AT_of (q := q_rgA) rfl rfl (SEM_run kR_x kR_0 (Cs := []) (fun C hC => by cases hC) c_regm0_f (Q := w_rgA) hv 300 (b1 := false) (b2 := true) k_rgA k1 (fok_cons a0 (fok_cons a1 (fok_cons a2 (fok_cons (decide_eq_true g0) k2)))) iok_nil k4 (fun p hp ρ3 m1 m2 m3 m4 m5 => ?_))
        rw [List.mem_singleton.mp hp] at m2 m3 m5 ⊢
        have y1 : ρ3.1 60064 = ρ.1 60064 ||| 16 := tie1 (m5 _ List.mem_cons_self)
        rw [hR, (rg_9 _ h9).1.1] at y1
        exact hgo 17 ρ3 m1 m2 m4 hw y1 (tie1 (m5 _ (List.mem_cons_of_mem _ List.mem_cons_self)))
      · refine AT_of (q := q_rgB) rfl rfl (SEM_run kR_x kR_0 (Cs := []) (fun C hC => by cases hC) c_regm0_f (Q := w_rgB) hv 300 (b1 := false) (b2 := true) k_rgB k1 (fok_cons a0 (fok_cons a1 (fok_cons a2 (fok_cons (decide_eq_false g0) (fok_cons (decide_eq_true g1) k2))))) iok_nil k4 (fun p hp ρ3 m1 m2 m3 m4 m5 => ?_))
        rw [List.mem_singleton.mp hp] at m2 m3 m5 ⊢
        have y1 : ρ3.1 60064 = ρ.1 60064 ||| 32 := tie1 (m5 _ List.mem_cons_self)
        rw [hR, (rg_9 _ h9).1.2] at y1
        exact hgo 33 ρ3 m1 m2 m4 hw y1 (tie1 (m5 _ (List.mem_cons_of_mem _ List.mem_cons_self)))
      · refine AT_of (q := q_rgC) rfl rfl (SEM_run kR_x kR_0 (Cs := []) (fun C hC => by cases hC) c_regm0_f (Q := w_rgC) hv 300 (b1 := false) (b2 := true) k_rgC k1 (fok_cons a0 (fok_cons a1 (fok_cons a2 (fok_cons (decide_eq_false g0) (fok_cons (decide_eq_false g1) (fok_cons (decide_eq_true g2) k2)))))) iok_nil k4 (fun p hp ρ3 m1 m2 m3 m4 m5 => ?_))
        rw [List.mem_singleton.mp hp] at m2 m3 m5 ⊢
        have y1 : ρ3.1 60064 = ρ.1 60064 ||| 128 := tie1 (m5 _ List.mem_cons_self)
        rw [hR, (rg_9 _ h9).2] at y1
        exact hgo 129 ρ3 m1 m2 m4 hw y1 (tie1 (m5 _ (List.mem_cons_of_mem _ List.mem_cons_self)))
    · exact rg_fin hv k1 k2 k4 hp (by omega) hR
theorem t_rgS {X : pX} {ρ0 : sR} (hv : vok X ρ0) : CUTOK X kR zVP c_regm0 1 ρ0 q_rgS := CUTOK_AT (fun ρ1 k1 k2 k3 k4 => by
  have e1 : ρ1.1 60064 = 1 := of_decide_eq_true (k2.2 ((0, .arg 60064, .int 1), true) List.mem_cons_self)
  have e2 : ρ1.1 60032 = 0 := of_decide_eq_true (k2.2 ((0, .arg 60032, .int 0), true) (List.mem_cons_of_mem _ List.mem_cons_self))
  have e3 : (0 : Int32) < ρ1.1 1318 := of_decide_eq_true (k2.2 ((2, .int 0, .arg 1318), true) (List.mem_cons_of_mem _ (List.mem_cons_of_mem _ List.mem_cons_self)))
  have z : (0 : Int32).toInt = 0 := rfl
  have e3 := Int32.lt_iff_toInt_lt.mp e3
  rw [z] at e3
  refine AT_of (q := q_rg) rfl rfl (rg_at hv (ρ1.1 1318).toInt.toNat ρ1 k1 ⟨k2.1, fun f hf => k2.2 f (List.mem_cons_of_mem _ (List.mem_cons_of_mem _ (List.mem_cons_of_mem _ hf)))⟩ k4 e3 (by rw [e2, z]; omega) (by rw [e2, z]; omega) ?_ (by rw [e2, z]; omega))
  rw [e1, e2, z]
  simp [areg])
theorem t_rgZ {X : pX} {ρ0 : sR} (hv : vok X ρ0) : CUTOK X kR zVP c_regm0 1 ρ0 q_rgZ := CUTOK_AT (fun ρ1 k1 k2 k3 k4 => by
  have e1 : ρ1.1 60064 = 0 := of_decide_eq_true (k2.2 ((0, .arg 60064, .int 0), true) List.mem_cons_self)
  have e2 : ρ1.1 60032 = 0 := of_decide_eq_true (k2.2 ((0, .arg 60032, .int 0), true) (List.mem_cons_of_mem _ List.mem_cons_self))
  have e3 : ρ1.1 1318 = 0 := of_decide_eq_true (k2.2 ((0, .arg 1318, .int 0), true) (List.mem_cons_of_mem _ (List.mem_cons_of_mem _ List.mem_cons_self)))
  refine AT_of (q := q_rg) rfl rfl (rg_end hv k1 ⟨k2.1, fun f hf => k2.2 f (List.mem_cons_of_mem _ (List.mem_cons_of_mem _ (List.mem_cons_of_mem _ hf)))⟩ k4 (by rw [e2, e3]) ?_)
  rw [e1, e3]
  simp [areg])
theorem s_regm0 {X : pX} : SREL X pF pdfl mt_all kR zVP c_regm0 := SREL_QC kR_x kR_0 (Cs := []) (fun C hC => by cases hC) (d := 1) rfl c_regm0_f (Q := [q_rgS, q_rgZ]) (fun ρ0 hv => fun q hq => by
    simp only [List.mem_cons, List.not_mem_nil, or_false] at hq
    rcases hq with hq | hq
    · rw [hq]; exact t_rgS hv
    · rw [hq]; exact t_rgZ hv) (QC_run 300 e_regm0)
