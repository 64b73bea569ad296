set_option maxRecDepth 20000
/-- a contract from the cut at its own beginning, with its own facts -/
theorem SREL_enter {X : pX} {K : sK} {Z : sH} {C : sC} {d : Nat} {q : sCut} (hd : C.1.2.2 = d + 1) (hfine : cfine Z 65536 C = true) (hc : ∀ ρ0 : sR, vok X ρ0 → CUTOK X K Z C d ρ0 q) (hF : q.2.2.1 = C.2.2.2.1) (hI : q.2.2.2 = C.2.2.2.2.2.2.2.1) (e1 : (q.1.1, q.1.2.1, q.1.2.2) = ((sin0 mt_all C.1.1 d C.2.1.1 (foot Z C.2.2.1.1)).1, (sin0 mt_all C.1.1 d C.2.1.1 (foot Z C.2.2.1.1)).2.1, d)) (e2 : (q.2.1.1, q.2.1.2.1, q.2.1.2.2) = ((sin0 mt_all C.1.2.1 d C.2.1.2 (foot Z C.2.2.1.2)).1, (sin0 mt_all C.1.2.1 d C.2.1.2 (foot Z C.2.2.1.2)).2.1, d)) : SREL X pF pdfl mt_all K Z C := by
  have hfine' := hfine
  have o1 : sinok mt_all C.1.1 C.2.1.1 = true := by simp only [cfine, Bool.and_eq_true] at hfine'; exact hfine'.2.2.2.2.2.2.1
  have o2 : sinok mt_all C.1.2.1 C.2.1.2 = true := by simp only [cfine, Bool.and_eq_true] at hfine'; exact hfine'.2.2.2.2.2.2.2
  have sx : ∀ (y : Nat) (as : List sT) (G : sH), sinok mt_all y as = true → sin0 mt_all y d as G = ((sin0 mt_all y d as G).1, (sin0 mt_all y d as G).2.1, d, G, 0) := fun y as G h => by
    unfold sinok at h
    unfold sin0
    split at h
    · next M hM => rfl
    · cases h
  refine SREL_in hd hfine (fun ρ hK hF' hI' => ?_)
  have h := hc ρ hF'.1 ρ hK (by rw [hF]; exact hF') (by rw [hI]; exact hI') ⟨fun _ _ _ => ⟨rfl, rfl⟩, fun _ _ _ => ⟨rfl, rfl⟩⟩
  have h1 : cst Z C.2.2.1.1 q.1 = sin0 mt_all C.1.1 d C.2.1.1 (foot Z C.2.2.1.1) := by
    rw [sx _ _ _ o1]
    show (q.1.1, q.1.2.1, q.1.2.2, foot Z C.2.2.1.1, 0) = _
    rw [(Prod.mk.inj e1).1, (Prod.mk.inj (Prod.mk.inj e1).2).1, (Prod.mk.inj (Prod.mk.inj e1).2).2]
  have h2 : cst Z C.2.2.1.2 q.2.1 = sin0 mt_all C.1.2.1 d C.2.1.2 (foot Z C.2.2.1.2) := by
    rw [sx _ _ _ o2]
    show (q.2.1.1, q.2.1.2.1, q.2.1.2.2, foot Z C.2.2.1.2, 0) = _
    rw [(Prod.mk.inj e2).1, (Prod.mk.inj (Prod.mk.inj e2).2).1, (Prod.mk.inj (Prod.mk.inj e2).2).2]
  rw [h1, h2] at h
  exact h
/-! ===== what is wrong with a map, the class alone: nothing ===== -/
noncomputable def c_mco : sC := ((9, 284, 6), ([tr 42, .arg 60064, .arg 60033], [.int 0]), ([42, 43], []), [((2, .arg 60064, .int 50), false), ((2, .int 105, .arg 60064), false), ((8, .arg 60033, .long 0), false), ((8, .long 4, .arg 60033), false), ((139, .add (.elem (.arg 64321) (.int 0)) (.add (.arg 60064) (.arg 60033)), .int 0), true)], ([], []), (some (.int 0), some (.int 0)), [], ([], []))
theorem c_mco_f : cfine zWB 65536 c_mco = true := by decide +kernel
noncomputable def zf98zzza_0 : sQ × Bool := ((2, .arg 60064, .int 50), false)
noncomputable def zf98zzza_1 : sQ × Bool := ((2, .int 105, .arg 60064), false)
noncomputable def zf98zzza_2 : sQ × Bool := ((8, .arg 60033, .long 0), false)
noncomputable def zf98zzza_3 : sQ × Bool := ((8, .long 4, .arg 60033), false)
noncomputable def zf98zzza_4 : sQ × Bool := ((139, .add (.elem (.arg 64321) (.int 0)) (.add (.arg 60064) (.arg 60033)), .int 0), true)
noncomputable def q_mco : sCut := ((fr 0 9 0 [(0, tr 42), (1, .arg 60064), (2, .arg 60033)] [], [fBot], 5), (fr 0 284 0 [(0, .int 0)] [], [fBot], 5), [zf98zzza_0, zf98zzza_1, zf98zzza_2, zf98zzza_3, zf98zzza_4], [])
noncomputable def q_mcon0k : sCut := ((fr 0 9 0 [(0, tr 42), (1, .arg 60064), (2, .arg 60033)] [], [fBot], 5), (fr 0 284 0 [(0, .int 0)] [], [fBot], 5), [((6, .arg 60033, .long 0), true), zf98zzza_0, zf98zzza_1, zf98zzza_2, zf98zzza_3, zf98zzza_4], [])
theorem k_mcon0k : cbody kR [] (cpl1 zWB c_mco []) (cpl2 zWB c_mco []) (cleaf kR zWB c_mco []) 300 true true q_mcon0k.2.2.1 q_mcon0k.2.2.2 (cst zWB c_mco.2.2.1.1 q_mcon0k.1) (cst zWB c_mco.2.2.1.2 q_mcon0k.2.1) = true := by decide +kernel
theorem t_mcon0k {X : pX} {ρ0 : sR} (hv : vok X ρ0) : CUTOK X kR zWB c_mco 5 ρ0 q_mcon0k := CUT_run kR_x kR_0 (Cs := []) (fun C hC => by cases hC) c_mco_f (Q := []) hv (fun q hq => by cases hq) 300 (b1 := true) (b2 := true) k_mcon0k
noncomputable def zf98zzza_5 : sQ × Bool := ((6, .arg 60033, .long 1), true)
noncomputable def zf98zzza_6 : sQ × Bool := ((6, .elem (.arg 64321) (.add (.arg 60064) (.int 1)), .long 0), false)
noncomputable def q_mcon1k : sCut := ((fr 0 9 0 [(0, tr 42), (1, .arg 60064), (2, .arg 60033)] [], [fBot], 5), (fr 0 284 0 [(0, .int 0)] [], [fBot], 5), [zf98zzza_5, zf98zzza_6, ((8, .long 64, .op2 .land (.elem (.arg 64321) (.add (.arg 60064) (.int 1))) (.long 255)), false), zf98zzza_0, zf98zzza_1, zf98zzza_2, zf98zzza_3, zf98zzza_4], [])
theorem k_mcon1k : cbody kR [] (cpl1 zWB c_mco []) (cpl2 zWB c_mco []) (cleaf kR zWB c_mco []) 300 true true q_mcon1k.2.2.1 q_mcon1k.2.2.2 (cst zWB c_mco.2.2.1.1 q_mcon1k.1) (cst zWB c_mco.2.2.1.2 q_mcon1k.2.1) = true := by decide +kernel
theorem t_mcon1k {X : pX} {ρ0 : sR} (hv : vok X ρ0) : CUTOK X kR zWB c_mco 5 ρ0 q_mcon1k := CUT_run kR_x kR_0 (Cs := []) (fun C hC => by cases hC) c_mco_f (Q := []) hv (fun q hq => by cases hq) 300 (b1 := true) (b2 := true) k_mcon1k
noncomputable def zf98zzza_7 : sQ × Bool := ((6, .arg 60033, .long 2), true)
noncomputable def zf98zzza_8 : sQ × Bool := ((6, .elem (.arg 64321) (.add (.arg 60064) (.int 2)), .long 0), false)
noncomputable def q_mcon2k : sCut := ((fr 0 9 0 [(0, tr 42), (1, .arg 60064), (2, .arg 60033)] [], [fBot], 5), (fr 0 284 0 [(0, .int 0)] [], [fBot], 5), [zf98zzza_7, zf98zzza_6, zf98zzza_8, ((8, .long 64, .op2 .ladd (.op2 .land (.elem (.arg 64321) (.add (.arg 60064) (.int 1))) (.long 255)) (.op2 .land (.elem (.arg 64321) (.add (.arg 60064) (.int 2))) (.long 255))), false), zf98zzza_0, zf98zzza_1, zf98zzza_2, zf98zzza_3, zf98zzza_4], [])
theorem k_mcon2k : cbody kR [] (cpl1 zWB c_mco []) (cpl2 zWB c_mco []) (cleaf kR zWB c_mco []) 300 true true q_mcon2k.2.2.1 q_mcon2k.2.2.2 (cst zWB c_mco.2.2.1.1 q_mcon2k.1) (cst zWB c_mco.2.2.1.2 q_mcon2k.2.1) = true := by decide +kernel
theorem t_mcon2k {X : pX} {ρ0 : sR} (hv : vok X ρ0) : CUTOK X kR zWB c_mco 5 ρ0 q_mcon2k := CUT_run kR_x kR_0 (Cs := []) (fun C hC => by cases hC) c_mco_f (Q := []) hv (fun q hq => by cases hq) 300 (b1 := true) (b2 := true) k_mcon2k
noncomputable def zf98zzza_9 : sQ × Bool := ((6, .arg 60033, .long 3), true)
noncomputable def zf98zzza_10 : sQ × Bool := ((6, .elem (.arg 64321) (.add (.arg 60064) (.int 3)), .long 0), false)
noncomputable def q_mcon3k : sCut := ((fr 0 9 0 [(0, tr 42), (1, .arg 60064), (2, .arg 60033)] [], [fBot], 5), (fr 0 284 0 [(0, .int 0)] [], [fBot], 5), [zf98zzza_9, zf98zzza_6, zf98zzza_8, zf98zzza_10, ((8, .long 64, .op2 .ladd (.op2 .ladd (.op2 .land (.elem (.arg 64321) (.add (.arg 60064) (.int 1))) (.long 255)) (.op2 .land (.elem (.arg 64321) (.add (.arg 60064) (.int 2))) (.long 255))) (.op2 .land (.elem (.arg 64321) (.add (.arg 60064) (.int 3))) (.long 255))), false), zf98zzza_0, zf98zzza_1, zf98zzza_2, zf98zzza_3, zf98zzza_4], [])
theorem k_mcon3k : cbody kR [] (cpl1 zWB c_mco []) (cpl2 zWB c_mco []) (cleaf kR zWB c_mco []) 300 true true q_mcon3k.2.2.1 q_mcon3k.2.2.2 (cst zWB c_mco.2.2.1.1 q_mcon3k.1) (cst zWB c_mco.2.2.1.2 q_mcon3k.2.1) = true := by decide +kernel
theorem t_mcon3k {X : pX} {ρ0 : sR} (hv : vok X ρ0) : CUTOK X kR zWB c_mco 5 ρ0 q_mcon3k := CUT_run kR_x kR_0 (Cs := []) (fun C hC => by cases hC) c_mco_f (Q := []) hv (fun q hq => by cases hq) 300 (b1 := true) (b2 := true) k_mcon3k
noncomputable def zf98zzza_11 : sQ × Bool := ((6, .arg 60033, .long 4), true)
noncomputable def zf98zzza_12 : sQ × Bool := ((6, .elem (.arg 64321) (.add (.arg 60064) (.int 4)), .long 0), false)
noncomputable def q_mcon4k : sCut := ((fr 0 9 0 [(0, tr 42), (1, .arg 60064), (2, .arg 60033)] [], [fBot], 5), (fr 0 284 0 [(0, .int 0)] [], [fBot], 5), [zf98zzza_11, zf98zzza_6, zf98zzza_8, zf98zzza_10, zf98zzza_12, ((8, .long 64, .op2 .ladd (.op2 .ladd (.op2 .ladd (.op2 .land (.elem (.arg 64321) (.add (.arg 60064) (.int 1))) (.long 255)) (.op2 .land (.elem (.arg 64321) (.add (.arg 60064) (.int 2))) (.long 255))) (.op2 .land (.elem (.arg 64321) (.add (.arg 60064) (.int 3))) (.long 255))) (.op2 .land (.elem (.arg 64321) (.add (.arg 60064) (.int 4))) (.long 255))), false), zf98zzza_0, zf98zzza_1, zf98zzza_2, zf98zzza_3, zf98zzza_4], [])
theorem k_mcon4k : cbody kR [] (cpl1 zWB c_mco []) (cpl2 zWB c_mco []) (cleaf kR zWB c_mco []) 300 true true q_mcon4k.2.2.1 q_mcon4k.2.2.2 (cst zWB c_mco.2.2.1.1 q_mcon4k.1) (cst zWB c_mco.2.2.1.2 q_mcon4k.2.1) = true := by decide +kernel
theorem t_mcon4k {X : pX} {ρ0 : sR} (hv : vok X ρ0) : CUTOK X kR zWB c_mco 5 ρ0 q_mcon4k := CUT_run kR_x kR_0 (Cs := []) (fun C hC => by cases hC) c_mco_f (Q := []) hv (fun q hq => by cases hq) 300 (b1 := true) (b2 := true) k_mcon4k
theorem t_mco {X : pX} {ρ0 : sR} (hv : vok X ρ0) : CUTOK X kR zWB c_mco 5 ρ0 q_mco := fun ρ k1 hF hI k4 => by
  have p0 : (50 : Int) ≤ (ρ.1 60064).toInt := ri_lf (x := ρ.1 60064) (y := 50) (hF.2 _ (List.mem_cons_self))
  have p1 : (ρ.1 60064).toInt ≤ 105 := ri_lf (x := 105) (y := ρ.1 60064) (hF.2 _ (List.mem_cons_of_mem _ (List.mem_cons_self)))
  have b0 : (0 : Int) ≤ (ρ.2.1 60033).toInt := rl_lf (x := ρ.2.1 60033) (y := 0) (hF.2 _ (List.mem_cons_of_mem _ (List.mem_cons_of_mem _ (List.mem_cons_self))))
  have b1 : (ρ.2.1 60033).toInt ≤ 4 := rl_lf (x := 4) (y := ρ.2.1 60033) (hF.2 _ (List.mem_cons_of_mem _ (List.mem_cons_of_mem _ (List.mem_cons_of_mem _ (List.mem_cons_self)))))
  have hc : (0 : Int) = amcode (ρ.2.2.2.1 64321) (ρ.1 60064).toInt.toNat (ρ.2.1 60033).toInt.toNat := of_decide_eq_true (hF.2 _ (List.mem_cons_of_mem _ (List.mem_cons_of_mem _ (List.mem_cons_of_mem _ (List.mem_cons_of_mem _ (List.mem_cons_self))))))
  have i1 : (ρ.1 60064 + 1).toNatClampNeg = (ρ.1 60064).toInt.toNat + 1 + 0 := by
    have e : (ρ.1 60064 + 1).toInt = (ρ.1 60064).toInt + 1 := s_add (by have z : (1 : Int32).toInt = 1 := rfl; omega) (by have z : (1 : Int32).toInt = 1 := rfl; omega)
    rw [s_nat, e]
    omega
  have xe1 : (sd X ρ (.elem (.arg 64321) (.add (.arg 60064) (.int 1)))).2 = ρ.2.2.2.1 64321 ((ρ.1 60064).toInt.toNat + 1 + 0) := by rw [← i1]; rfl
  have i2 : (ρ.1 60064 + 2).toNatClampNeg = (ρ.1 60064).toInt.toNat + 1 + 1 := by
    have e : (ρ.1 60064 + 2).toInt = (ρ.1 60064).toInt + 2 := s_add (by have z : (2 : Int32).toInt = 2 := rfl; omega) (by have z : (2 : Int32).toInt = 2 := rfl; omega)
    rw [s_nat, e]
    omega
  have xe2 : (sd X ρ (.elem (.arg 64321) (.add (.arg 60064) (.int 2)))).2 = ρ.2.2.2.1 64321 ((ρ.1 60064).toInt.toNat + 1 + 1) := by rw [← i2]; rfl
  have i3 : (ρ.1 60064 + 3).toNatClampNeg = (ρ.1 60064).toInt.toNat + 1 + 2 := by
    have e : (ρ.1 60064 + 3).toInt = (ρ.1 60064).toInt + 3 := s_add (by have z : (3 : Int32).toInt = 3 := rfl; omega) (by have z : (3 : Int32).toInt = 3 := rfl; omega)
    rw [s_nat, e]
    omega
  have xe3 : (sd X ρ (.elem (.arg 64321) (.add (.arg 60064) (.int 3)))).2 = ρ.2.2.2.1 64321 ((ρ.1 60064).toInt.toNat + 1 + 2) := by rw [← i3]; rfl
  have i4 : (ρ.1 60064 + 4).toNatClampNeg = (ρ.1 60064).toInt.toNat + 1 + 3 := by
    have e : (ρ.1 60064 + 4).toInt = (ρ.1 60064).toInt + 4 := s_add (by have z : (4 : Int32).toInt = 4 := rfl; omega) (by have z : (4 : Int32).toInt = 4 := rfl; omega)
    rw [s_nat, e]
    omega
  have xe4 : (sd X ρ (.elem (.arg 64321) (.add (.arg 60064) (.int 4)))).2 = ρ.2.2.2.1 64321 ((ρ.1 60064).toInt.toNat + 1 + 3) := by rw [← i4]; rfl
  generalize hg : ρ.2.1 60033 = vv at b0 b1 hc
  rcases (show vv.toInt = 0 ∨ vv.toInt = 1 ∨ vv.toInt = 2 ∨ vv.toInt = 3 ∨ vv.toInt = 4 by omega) with h | h | h | h | h
  · have hV : vv = 0 := Int64.toInt_inj.mp h
    rw [h] at hc
    have hc : (0 : Int) = amcode (ρ.2.2.2.1 64321) (ρ.1 60064).toInt.toNat 0 := hc
    exact t_mcon0k hv ρ k1 ⟨hF.1, fcn (decide_eq_true (show ρ.2.1 60033 = 0 from hg.trans hV)) (hF.2)⟩ hI k4
  · have hV : vv = 1 := Int64.toInt_inj.mp h
    rw [h] at hc
    have hc : (0 : Int) = amcode (ρ.2.2.2.1 64321) (ρ.1 60064).toInt.toNat 1 := hc
    obtain ⟨nz, su⟩ := am_no hc.symm
    have z1 : ¬ (sd X ρ (.elem (.arg 64321) (.add (.arg 60064) (.int 1)))).2 = 0 := by rw [xe1]; exact fun q => nz 0 (by decide) (congrArg Int64.toInt q)
    have su : (ρ.2.2.2.1 64321 ((ρ.1 60064).toInt.toNat + 1 + 0)).toInt % 256 ≤ 64 := by
      have e : ((List.range 1).map (fun i => ((ρ.2.2.2.1 64321) ((ρ.1 60064).toInt.toNat + 1 + i)).toInt % 256)).sum = (ρ.2.2.2.1 64321 ((ρ.1 60064).toInt.toNat + 1 + 0)).toInt % 256 := by
        show (([0] : List Nat).map _).sum = _
        simp only [List.map_cons, List.map_nil, List.sum_cons, List.sum_nil]
        omega
      rw [e] at su
      exact su
    obtain ⟨l1, u1, j1⟩ := mb_r (y := (sd X ρ (.elem (.arg 64321) (.add (.arg 60064) (.int 1)))).2)
    have w1 : ((sd X ρ (.elem (.arg 64321) (.add (.arg 60064) (.int 1)))).2 &&& 255).toInt = (ρ.2.2.2.1 64321 ((ρ.1 60064).toInt.toNat + 1 + 0)).toInt % 256 := by rw [mw_a, xe1]
    have y64 : (64 : Int64).toInt = 64 := rfl
    have z64 : (64 : Int32).toInt = 64 := rfl
    have z0 : (0 : Int32).toInt = 0 := rfl
    have c1 : ((sd X ρ (.elem (.arg 64321) (.add (.arg 60064) (.int 1)))).2 &&& 255).toInt = ((sd X ρ (.elem (.arg 64321) (.add (.arg 60064) (.int 1)))).2 &&& 255).toInt := rfl
    have ov : ¬ 64 < ((sd X ρ (.elem (.arg 64321) (.add (.arg 60064) (.int 1)))).2 &&& 255).toInt := by omega
    exact t_mcon1k hv ρ k1 ⟨hF.1, fcn (decide_eq_true (show ρ.2.1 60033 = 1 from hg.trans hV)) (fcn (decide_eq_false z1) (fcn (dl_lf (x := 64) (y := ((sd X ρ (.elem (.arg 64321) (.add (.arg 60064) (.int 1)))).2 &&& 255)) (by rw [y64]; omega)) (hF.2)))⟩ hI k4
  · have hV : vv = 2 := Int64.toInt_inj.mp h
    rw [h] at hc
    have hc : (0 : Int) = amcode (ρ.2.2.2.1 64321) (ρ.1 60064).toInt.toNat 2 := hc
    obtain ⟨nz, su⟩ := am_no hc.symm
    have z1 : ¬ (sd X ρ (.elem (.arg 64321) (.add (.arg 60064) (.int 1)))).2 = 0 := by rw [xe1]; exact fun q => nz 0 (by decide) (congrArg Int64.toInt q)
    have z2 : ¬ (sd X ρ (.elem (.arg 64321) (.add (.arg 60064) (.int 2)))).2 = 0 := by rw [xe2]; exact fun q => nz 1 (by decide) (congrArg Int64.toInt q)
    have su : (ρ.2.2.2.1 64321 ((ρ.1 60064).toInt.toNat + 1 + 0)).toInt % 256 + (ρ.2.2.2.1 64321 ((ρ.1 60064).toInt.toNat + 1 + 1)).toInt % 256 ≤ 64 := by
      have e : ((List.range 2).map (fun i => ((ρ.2.2.2.1 64321) ((ρ.1 60064).toInt.toNat + 1 + i)).toInt % 256)).sum = (ρ.2.2.2.1 64321 ((ρ.1 60064).toInt.toNat + 1 + 0)).toInt % 256 + (ρ.2.2.2.1 64321 ((ρ.1 60064).toInt.toNat + 1 + 1)).toInt % 256 := by
        show (([0, 1] : List Nat).map _).sum = _
        simp only [List.map_cons, List.map_nil, List.sum_cons, List.sum_nil]
        omega
      rw [e] at su
      exact su
    obtain ⟨l1, u1, j1⟩ := mb_r (y := (sd X ρ (.elem (.arg 64321) (.add (.arg 60064) (.int 1)))).2)
    have w1 : ((sd X ρ (.elem (.arg 64321) (.add (.arg 60064) (.int 1)))).2 &&& 255).toInt = (ρ.2.2.2.1 64321 ((ρ.1 60064).toInt.toNat + 1 + 0)).toInt % 256 := by rw [mw_a, xe1]
    obtain ⟨l2, u2, j2⟩ := mb_r (y := (sd X ρ (.elem (.arg 64321) (.add (.arg 60064) (.int 2)))).2)
    have w2 : ((sd X ρ (.elem (.arg 64321) (.add (.arg 60064) (.int 2)))).2 &&& 255).toInt = (ρ.2.2.2.1 64321 ((ρ.1 60064).toInt.toNat + 1 + 1)).toInt % 256 := by rw [mw_a, xe2]
    have y64 : (64 : Int64).toInt = 64 := rfl
    have z64 : (64 : Int32).toInt = 64 := rfl
    have z0 : (0 : Int32).toInt = 0 := rfl
    have c1 : ((sd X ρ (.elem (.arg 64321) (.add (.arg 60064) (.int 1)))).2 &&& 255).toInt = ((sd X ρ (.elem (.arg 64321) (.add (.arg 60064) (.int 1)))).2 &&& 255).toInt := rfl
    have c2 : (((sd X ρ (.elem (.arg 64321) (.add (.arg 60064) (.int 1)))).2 &&& 255) + ((sd X ρ (.elem (.arg 64321) (.add (.arg 60064) (.int 2)))).2 &&& 255)).toInt = ((sd X ρ (.elem (.arg 64321) (.add (.arg 60064) (.int 1)))).2 &&& 255).toInt + ((sd X ρ (.elem (.arg 64321) (.add (.arg 60064) (.int 2)))).2 &&& 255).toInt := (l_add (by omega) (by omega)).trans (by omega)
    have ov : ¬ 64 < ((sd X ρ (.elem (.arg 64321) (.add (.arg 60064) (.int 1)))).2 &&& 255).toInt + ((sd X ρ (.elem (.arg 64321) (.add (.arg 60064) (.int 2)))).2 &&& 255).toInt := by omega
    exact t_mcon2k hv ρ k1 ⟨hF.1, fcn (decide_eq_true (show ρ.2.1 60033 = 2 from hg.trans hV)) (fcn (decide_eq_false z1) (fcn (decide_eq_false z2) (fcn (dl_lf (x := 64) (y := (((sd X ρ (.elem (.arg 64321) (.add (.arg 60064) (.int 1)))).2 &&& 255) + ((sd X ρ (.elem (.arg 64321) (.add (.arg 60064) (.int 2)))).2 &&& 255))) (by rw [y64]; omega)) (hF.2))))⟩ hI k4
  · have hV : vv = 3 := Int64.toInt_inj.mp h
    rw [h] at hc
    have hc : (0 : Int) = amcode (ρ.2.2.2.1 64321) (ρ.1 60064).toInt.toNat 3 := hc
    obtain ⟨nz, su⟩ := am_no hc.symm
    have z1 : ¬ (sd X ρ (.elem (.arg 64321) (.add (.arg 60064) (.int 1)))).2 = 0 := by rw [xe1]; exact fun q => nz 0 (by decide) (congrArg Int64.toInt q)
    have z2 : ¬ (sd X ρ (.elem (.arg 64321) (.add (.arg 60064) (.int 2)))).2 = 0 := by rw [xe2]; exact fun q => nz 1 (by decide) (congrArg Int64.toInt q)
    have z3 : ¬ (sd X ρ (.elem (.arg 64321) (.add (.arg 60064) (.int 3)))).2 = 0 := by rw [xe3]; exact fun q => nz 2 (by decide) (congrArg Int64.toInt q)
    have su : (ρ.2.2.2.1 64321 ((ρ.1 60064).toInt.toNat + 1 + 0)).toInt % 256 + (ρ.2.2.2.1 64321 ((ρ.1 60064).toInt.toNat + 1 + 1)).toInt % 256 + (ρ.2.2.2.1 64321 ((ρ.1 60064).toInt.toNat + 1 + 2)).toInt % 256 ≤ 64 := by
      have e : ((List.range 3).map (fun i => ((ρ.2.2.2.1 64321) ((ρ.1 60064).toInt.toNat + 1 + i)).toInt % 256)).sum = (ρ.2.2.2.1 64321 ((ρ.1 60064).toInt.toNat + 1 + 0)).toInt % 256 + (ρ.2.2.2.1 64321 ((ρ.1 60064).toInt.toNat + 1 + 1)).toInt % 256 + (ρ.2.2.2.1 64321 ((ρ.1 60064).toInt.toNat + 1 + 2)).toInt % 256 := by
        show (([0, 1, 2] : List Nat).map _).sum = _
        simp only [List.map_cons, List.map_nil, List.sum_cons, List.sum_nil]
        omega
      rw [e] at su
      exact su
    obtain ⟨l1, u1, j1⟩ := mb_r (y := (sd X ρ (.elem (.arg 64321) (.add (.arg 60064) (.int 1)))).2)
    have w1 : ((sd X ρ (.elem (.arg 64321) (.add (.arg 60064) (.int 1)))).2 &&& 255).toInt = (ρ.2.2.2.1 64321 ((ρ.1 60064).toInt.toNat + 1 + 0)).toInt % 256 := by rw [mw_a, xe1]
    obtain ⟨l2, u2, j2⟩ := mb_r (y := (sd X ρ (.elem (.arg 64321) (.add (.arg 60064) (.int 2)))).2)
    have w2 : ((sd X ρ (.elem (.arg 64321) (.add (.arg 60064) (.int 2)))).2 &&& 255).toInt = (ρ.2.2.2.1 64321 ((ρ.1 60064).toInt.toNat + 1 + 1)).toInt % 256 := by rw [mw_a, xe2]
    obtain ⟨l3, u3, j3⟩ := mb_r (y := (sd X ρ (.elem (.arg 64321) (.add (.arg 60064) (.int 3)))).2)
    have w3 : ((sd X ρ (.elem (.arg 64321) (.add (.arg 60064) (.int 3)))).2 &&& 255).toInt = (ρ.2.2.2.1 64321 ((ρ.1 60064).toInt.toNat + 1 + 2)).toInt % 256 := by rw [mw_a, xe3]
    have y64 : (64 : Int64).toInt = 64 := rfl
    have z64 : (64 : Int32).toInt = 64 := rfl
    have z0 : (0 : Int32).toInt = 0 := rfl
    have c1 : ((sd X ρ (.elem (.arg 64321) (.add (.arg 60064) (.int 1)))).2 &&& 255).toInt = ((sd X ρ (.elem (.arg 64321) (.add (.arg 60064) (.int 1)))).2 &&& 255).toInt := rfl
    have c2 : (((sd X ρ (.elem (.arg 64321) (.add (.arg 60064) (.int 1)))).2 &&& 255) + ((sd X ρ (.elem (.arg 64321) (.add (.arg 60064) (.int 2)))).2 &&& 255)).toInt = ((sd X ρ (.elem (.arg 64321) (.add (.arg 60064) (.int 1)))).2 &&& 255).toInt + ((sd X ρ (.elem (.arg 64321) (.add (.arg 60064) (.int 2)))).2 &&& 255).toInt := (l_add (by omega) (by omega)).trans (by omega)
    have c3 : ((((sd X ρ (.elem (.arg 64321) (.add (.arg 60064) (.int 1)))).2 &&& 255) + ((sd X ρ (.elem (.arg 64321) (.add (.arg 60064) (.int 2)))).2 &&& 255)) + ((sd X ρ (.elem (.arg 64321) (.add (.arg 60064) (.int 3)))).2 &&& 255)).toInt = ((sd X ρ (.elem (.arg 64321) (.add (.arg 60064) (.int 1)))).2 &&& 255).toInt + ((sd X ρ (.elem (.arg 64321) (.add (.arg 60064) (.int 2)))).2 &&& 255).toInt + ((sd X ρ (.elem (.arg 64321) (.add (.arg 60064) (.int 3)))).2 &&& 255).toInt := (l_add (by omega) (by omega)).trans (by omega)
    have ov : ¬ 64 < ((sd X ρ (.elem (.arg 64321) (.add (.arg 60064) (.int 1)))).2 &&& 255).toInt + ((sd X ρ (.elem (.arg 64321) (.add (.arg 60064) (.int 2)))).2 &&& 255).toInt + ((sd X ρ (.elem (.arg 64321) (.add (.arg 60064) (.int 3)))).2 &&& 255).toInt := by omega
    exact t_mcon3k hv ρ k1 ⟨hF.1, fcn (decide_eq_true (show ρ.2.1 60033 = 3 from hg.trans hV)) (fcn (decide_eq_false z1) (fcn (decide_eq_false z2) (fcn (decide_eq_false z3) (fcn (dl_lf (x := 64) (y := ((((sd X ρ (.elem (.arg 64321) (.add (.arg 60064) (.int 1)))).2 &&& 255) + ((sd X ρ (.elem (.arg 64321) (.add (.arg 60064) (.int 2)))).2 &&& 255)) + ((sd X ρ (.elem (.arg 64321) (.add (.arg 60064) (.int 3)))).2 &&& 255))) (by rw [y64]; omega)) (hF.2)))))⟩ hI k4
  · have hV : vv = 4 := Int64.toInt_inj.mp h
    rw [h] at hc
    have hc : (0 : Int) = amcode (ρ.2.2.2.1 64321) (ρ.1 60064).toInt.toNat 4 := hc
    obtain ⟨nz, su⟩ := am_no hc.symm
    have z1 : ¬ (sd X ρ (.elem (.arg 64321) (.add (.arg 60064) (.int 1)))).2 = 0 := by rw [xe1]; exact fun q => nz 0 (by decide) (congrArg Int64.toInt q)
    have z2 : ¬ (sd X ρ (.elem (.arg 64321) (.add (.arg 60064) (.int 2)))).2 = 0 := by rw [xe2]; exact fun q => nz 1 (by decide) (congrArg Int64.toInt q)
    have z3 : ¬ (sd X ρ (.elem (.arg 64321) (.add (.arg 60064) (.int 3)))).2 = 0 := by rw [xe3]; exact fun q => nz 2 (by decide) (congrArg Int64.toInt q)
    have z4 : ¬ (sd X ρ (.elem (.arg 64321) (.add (.arg 60064) (.int 4)))).2 = 0 := by rw [xe4]; exact fun q => nz 3 (by decide) (congrArg Int64.toInt q)
    have su : (ρ.2.2.2.1 64321 ((ρ.1 60064).toInt.toNat + 1 + 0)).toInt % 256 + (ρ.2.2.2.1 64321 ((ρ.1 60064).toInt.toNat + 1 + 1)).toInt % 256 + (ρ.2.2.2.1 64321 ((ρ.1 60064).toInt.toNat + 1 + 2)).toInt % 256 + (ρ.2.2.2.1 64321 ((ρ.1 60064).toInt.toNat + 1 + 3)).toInt % 256 ≤ 64 := by
      have e : ((List.range 4).map (fun i => ((ρ.2.2.2.1 64321) ((ρ.1 60064).toInt.toNat + 1 + i)).toInt % 256)).sum = (ρ.2.2.2.1 64321 ((ρ.1 60064).toInt.toNat + 1 + 0)).toInt % 256 + (ρ.2.2.2.1 64321 ((ρ.1 60064).toInt.toNat + 1 + 1)).toInt % 256 + (ρ.2.2.2.1 64321 ((ρ.1 60064).toInt.toNat + 1 + 2)).toInt % 256 + (ρ.2.2.2.1 64321 ((ρ.1 60064).toInt.toNat + 1 + 3)).toInt % 256 := by
        show (([0, 1, 2, 3] : List Nat).map _).sum = _
        simp only [List.map_cons, List.map_nil, List.sum_cons, List.sum_nil]
        omega
      rw [e] at su
      exact su
    obtain ⟨l1, u1, j1⟩ := mb_r (y := (sd X ρ (.elem (.arg 64321) (.add (.arg 60064) (.int 1)))).2)
    have w1 : ((sd X ρ (.elem (.arg 64321) (.add (.arg 60064) (.int 1)))).2 &&& 255).toInt = (ρ.2.2.2.1 64321 ((ρ.1 60064).toInt.toNat + 1 + 0)).toInt % 256 := by rw [mw_a, xe1]
    obtain ⟨l2, u2, j2⟩ := mb_r (y := (sd X ρ (.elem (.arg 64321) (.add (.arg 60064) (.int 2)))).2)
    have w2 : ((sd X ρ (.elem (.arg 64321) (.add (.arg 60064) (.int 2)))).2 &&& 255).toInt = (ρ.2.2.2.1 64321 ((ρ.1 60064).toInt.toNat + 1 + 1)).toInt % 256 := by rw [mw_a, xe2]
    obtain ⟨l3, u3, j3⟩ := mb_r (y := (sd X ρ (.elem (.arg 64321) (.add (.arg 60064) (.int 3)))).2)
    have w3 : ((sd X ρ (.elem (.arg 64321) (.add (.arg 60064) (.int 3)))).2 &&& 255).toInt = (ρ.2.2.2.1 64321 ((ρ.1 60064).toInt.toNat + 1 + 2)).toInt % 256 := by rw [mw_a, xe3]
    obtain ⟨l4, u4, j4⟩ := mb_r (y := (sd X ρ (.elem (.arg 64321) (.add (.arg 60064) (.int 4)))).2)
    have w4 : ((sd X ρ (.elem (.arg 64321) (.add (.arg 60064) (.int 4)))).2 &&& 255).toInt = (ρ.2.2.2.1 64321 ((ρ.1 60064).toInt.toNat + 1 + 3)).toInt % 256 := by rw [mw_a, xe4]
    have y64 : (64 : Int64).toInt = 64 := rfl
    have z64 : (64 : Int32).toInt = 64 := rfl
    have z0 : (0 : Int32).toInt = 0 := rfl
    have c1 : ((sd X ρ (.elem (.arg 64321) (.add (.arg 60064) (.int 1)))).2 &&& 255).toInt = ((sd X ρ (.elem (.arg 64321) (.add (.arg 60064) (.int 1)))).2 &&& 255).toInt := rfl
    have c2 : (((sd X ρ (.elem (.arg 64321) (.add (.arg 60064) (.int 1)))).2 &&& 255) + ((sd X ρ (.elem (.arg 64321) (.add (.arg 60064) (.int 2)))).2 &&& 255)).toInt = ((sd X ρ (.elem (.arg 64321) (.add (.arg 60064) (.int 1)))).2 &&& 255).toInt + ((sd X ρ (.elem (.arg 64321) (.add (.arg 60064) (.int 2)))).2 &&& 255).toInt := (l_add (by omega) (by omega)).trans (by omega)
    have c3 : ((((sd X ρ (.elem (.arg 64321) (.add (.arg 60064) (.int 1)))).2 &&& 255) + ((sd X ρ (.elem (.arg 64321) (.add (.arg 60064) (.int 2)))).2 &&& 255)) + ((sd X ρ (.elem (.arg 64321) (.add (.arg 60064) (.int 3)))).2 &&& 255)).toInt = ((sd X ρ (.elem (.arg 64321) (.add (.arg 60064) (.int 1)))).2 &&& 255).toInt + ((sd X ρ (.elem (.arg 64321) (.add (.arg 60064) (.int 2)))).2 &&& 255).toInt + ((sd X ρ (.elem (.arg 64321) (.add (.arg 60064) (.int 3)))).2 &&& 255).toInt := (l_add (by omega) (by omega)).trans (by omega)
    have c4 : (((((sd X ρ (.elem (.arg 64321) (.add (.arg 60064) (.int 1)))).2 &&& 255) + ((sd X ρ (.elem (.arg 64321) (.add (.arg 60064) (.int 2)))).2 &&& 255)) + ((sd X ρ (.elem (.arg 64321) (.add (.arg 60064) (.int 3)))).2 &&& 255)) + ((sd X ρ (.elem (.arg 64321) (.add (.arg 60064) (.int 4)))).2 &&& 255)).toInt = ((sd X ρ (.elem (.arg 64321) (.add (.arg 60064) (.int 1)))).2 &&& 255).toInt + ((sd X ρ (.elem (.arg 64321) (.add (.arg 60064) (.int 2)))).2 &&& 255).toInt + ((sd X ρ (.elem (.arg 64321) (.add (.arg 60064) (.int 3)))).2 &&& 255).toInt + ((sd X ρ (.elem (.arg 64321) (.add (.arg 60064) (.int 4)))).2 &&& 255).toInt := (l_add (by omega) (by omega)).trans (by omega)
    have ov : ¬ 64 < ((sd X ρ (.elem (.arg 64321) (.add (.arg 60064) (.int 1)))).2 &&& 255).toInt + ((sd X ρ (.elem (.arg 64321) (.add (.arg 60064) (.int 2)))).2 &&& 255).toInt + ((sd X ρ (.elem (.arg 64321) (.add (.arg 60064) (.int 3)))).2 &&& 255).toInt + ((sd X ρ (.elem (.arg 64321) (.add (.arg 60064) (.int 4)))).2 &&& 255).toInt := by omega
    exact t_mcon4k hv ρ k1 ⟨hF.1, fcn (decide_eq_true (show ρ.2.1 60033 = 4 from hg.trans hV)) (fcn (decide_eq_false z1) (fcn (decide_eq_false z2) (fcn (decide_eq_false z3) (fcn (decide_eq_false z4) (fcn (dl_lf (x := 64) (y := (((((sd X ρ (.elem (.arg 64321) (.add (.arg 60064) (.int 1)))).2 &&& 255) + ((sd X ρ (.elem (.arg 64321) (.add (.arg 60064) (.int 2)))).2 &&& 255)) + ((sd X ρ (.elem (.arg 64321) (.add (.arg 60064) (.int 3)))).2 &&& 255)) + ((sd X ρ (.elem (.arg 64321) (.add (.arg 60064) (.int 4)))).2 &&& 255))) (by rw [y64]; omega)) (hF.2))))))⟩ hI k4
theorem s_mco {X : pX} : SREL X pF pdfl mt_all kR zWB c_mco := SREL_enter (d := 5) (q := q_mco) rfl c_mco_f (fun ρ0 hv => t_mco hv) rfl rfl rfl rfl
/-! ===== what is wrong with a map, the model alone: nothing ===== -/
noncomputable def c_mmo : sC := ((425, 272, 6), ([.long 0], [tr 219, .arg 1308, .arg 60096, .arg 60000]), ([], [219, 229, 228, 220, 221]), [((2, .arg 60064, .int 50), false), ((2, .int 105, .arg 60064), false), ((2, .arg 60096, .int 0), false), ((2, .int 65535, .arg 60096), false), ((109, .add (.arg 60096) (.int 0), .arg 60064), true), ((109, .add (.arg 60096) (.int 1), .add (.arg 60064) (.int 1)), true), ((109, .add (.arg 60096) (.int 2), .add (.arg 60064) (.int 2)), true), ((109, .add (.arg 60096) (.int 3), .add (.arg 60064) (.int 3)), true), ((109, .add (.arg 60096) (.int 4), .add (.arg 60064) (.int 4)), true), ((2, .arg 60000, .int 0), false), ((2, .int 4, .arg 60000), false), ((139, .add (.elem (.arg 64353) (.int 0)) (.add (.arg 60064) (.arg 60000)), .int 0), true)], ([60160, 60192], []), (some (.long 0), some (.arg 60160)), [((2, .arg 60160, .int 0), false), ((2, .int 64, .arg 60160), false)], ([], []))
theorem c_mmo_f : cfine zWB 65536 c_mmo = true := by decide +kernel
noncomputable def zf98zzza_13 : sQ × Bool := ((2, .arg 60096, .int 0), false)
noncomputable def zf98zzza_14 : sQ × Bool := ((2, .int 65535, .arg 60096), false)
noncomputable def zf98zzza_15 : sQ × Bool := ((109, .add (.arg 60096) (.int 0), .arg 60064), true)
noncomputable def zf98zzza_16 : sQ × Bool := ((109, .add (.arg 60096) (.int 1), .add (.arg 60064) (.int 1)), true)
noncomputable def zf98zzza_17 : sQ × Bool := ((109, .add (.arg 60096) (.int 2), .add (.arg 60064) (.int 2)), true)
noncomputable def zf98zzza_18 : sQ × Bool := ((109, .add (.arg 60096) (.int 3), .add (.arg 60064) (.int 3)), true)
noncomputable def zf98zzza_19 : sQ × Bool := ((109, .add (.arg 60096) (.int 4), .add (.arg 60064) (.int 4)), true)
noncomputable def zf98zzza_20 : sQ × Bool := ((2, .arg 60000, .int 0), false)
noncomputable def zf98zzza_21 : sQ × Bool := ((2, .int 4, .arg 60000), false)
noncomputable def zf98zzza_22 : sQ × Bool := ((139, .add (.elem (.arg 64353) (.int 0)) (.add (.arg 60064) (.arg 60000)), .int 0), true)
noncomputable def q_mmo : sCut := ((fr 0 425 0 [(0, .long 0)] [], [fBot], 5), (fr 0 272 0 [(0, tr 219), (1, .arg 1308), (2, .arg 60096), (3, .arg 60000)] [], [fBot], 5), [zf98zzza_0, zf98zzza_1, zf98zzza_13, zf98zzza_14, zf98zzza_15, zf98zzza_16, zf98zzza_17, zf98zzza_18, zf98zzza_19, zf98zzza_20, zf98zzza_21, zf98zzza_22], [])
noncomputable def q_mmon0k : sCut := ((fr 0 425 0 [(0, .long 0)] [], [fBot], 5), (fr 0 272 0 [(0, tr 219), (1, .arg 1308), (2, .arg 60096), (3, .arg 60000)] [], [fBot], 5), [((0, .arg 60000, .int 0), true), zf98zzza_0, zf98zzza_1, zf98zzza_13, zf98zzza_14, zf98zzza_15, zf98zzza_16, zf98zzza_17, zf98zzza_18, zf98zzza_19, zf98zzza_20, zf98zzza_21, zf98zzza_22], [])
theorem k_mmon0k : cbody kR [(zWP, c_fndl)] (cpl1 zWB c_mmo []) (cpl2 zWB c_mmo []) (cleaf kR zWB c_mmo []) 300 true true q_mmon0k.2.2.1 q_mmon0k.2.2.2 (cst zWB c_mmo.2.2.1.1 q_mmon0k.1) (cst zWB c_mmo.2.2.1.2 q_mmon0k.2.1) = true := by decide +kernel
theorem t_mmon0k {X : pX} {ρ0 : sR} (hv : vok X ρ0) : CUTOK X kR zWB c_mmo 5 ρ0 q_mmon0k := CUT_run kR_x kR_0 (Cs := [(zWP, c_fndl)]) (fun C hC => by rw [List.mem_singleton.mp hC]; exact s_fndl) c_mmo_f (Q := []) hv (fun q hq => by cases hq) 300 (b1 := true) (b2 := true) k_mmon0k
noncomputable def zf98zzza_23 : sQ × Bool := ((0, .arg 60000, .int 1), true)
noncomputable def zf98zzza_24 : sQ × Bool := ((6, .elem (.arg 64353) (.add (.arg 60064) (.int 1)), .long 0), false)
noncomputable def zf98zzza_25 : sQ × Bool := ((2, .op1 .l2i (.op2 .land (.elem (.arg 64353) (.add (.arg 60064) (.int 1))) (.long 255)), .int 0), false)
noncomputable def q_mmon1k : sCut := ((fr 0 425 0 [(0, .long 0)] [], [fBot], 5), (fr 0 272 0 [(0, tr 219), (1, .arg 1308), (2, .arg 60096), (3, .arg 60000)] [], [fBot], 5), [zf98zzza_23, zf98zzza_24, zf98zzza_25, ((2, .int 64, .op1 .l2i (.op2 .land (.elem (.arg 64353) (.add (.arg 60064) (.int 1))) (.long 255))), false), zf98zzza_0, zf98zzza_1, zf98zzza_13, zf98zzza_14, zf98zzza_15, zf98zzza_16, zf98zzza_17, zf98zzza_18, zf98zzza_19, zf98zzza_20, zf98zzza_21, zf98zzza_22], [])
theorem k_mmon1k : cbody kR [(zWP, c_fndl)] (cpl1 zWB c_mmo []) (cpl2 zWB c_mmo []) (cleaf kR zWB c_mmo []) 300 true true q_mmon1k.2.2.1 q_mmon1k.2.2.2 (cst zWB c_mmo.2.2.1.1 q_mmon1k.1) (cst zWB c_mmo.2.2.1.2 q_mmon1k.2.1) = true := by decide +kernel
theorem t_mmon1k {X : pX} {ρ0 : sR} (hv : vok X ρ0) : CUTOK X kR zWB c_mmo 5 ρ0 q_mmon1k := CUT_run kR_x kR_0 (Cs := [(zWP, c_fndl)]) (fun C hC => by rw [List.mem_singleton.mp hC]; exact s_fndl) c_mmo_f (Q := []) hv (fun q hq => by cases hq) 300 (b1 := true) (b2 := true) k_mmon1k
noncomputable def zf98zzza_26 : sQ × Bool := ((0, .arg 60000, .int 2), true)
noncomputable def zf98zzza_27 : sQ × Bool := ((6, .elem (.arg 64353) (.add (.arg 60064) (.int 2)), .long 0), false)
noncomputable def zf98zzza_28 : sQ × Bool := ((2, .add (.op1 .l2i (.op2 .land (.elem (.arg 64353) (.add (.arg 60064) (.int 1))) (.long 255))) (.op1 .l2i (.op2 .land (.elem (.arg 64353) (.add (.arg 60064) (.int 2))) (.long 255))), .int 0), false)
noncomputable def q_mmon2k : sCut := ((fr 0 425 0 [(0, .long 0)] [], [fBot], 5), (fr 0 272 0 [(0, tr 219), (1, .arg 1308), (2, .arg 60096), (3, .arg 60000)] [], [fBot], 5), [zf98zzza_26, zf98zzza_24, zf98zzza_27, zf98zzza_28, ((2, .int 64, .add (.op1 .l2i (.op2 .land (.elem (.arg 64353) (.add (.arg 60064) (.int 1))) (.long 255))) (.op1 .l2i (.op2 .land (.elem (.arg 64353) (.add (.arg 60064) (.int 2))) (.long 255)))), false), zf98zzza_0, zf98zzza_1, zf98zzza_13, zf98zzza_14, zf98zzza_15, zf98zzza_16, zf98zzza_17, zf98zzza_18, zf98zzza_19, zf98zzza_20, zf98zzza_21, zf98zzza_22], [])
theorem k_mmon2k : cbody kR [(zWP, c_fndl)] (cpl1 zWB c_mmo []) (cpl2 zWB c_mmo []) (cleaf kR zWB c_mmo []) 300 true true q_mmon2k.2.2.1 q_mmon2k.2.2.2 (cst zWB c_mmo.2.2.1.1 q_mmon2k.1) (cst zWB c_mmo.2.2.1.2 q_mmon2k.2.1) = true := by decide +kernel
theorem t_mmon2k {X : pX} {ρ0 : sR} (hv : vok X ρ0) : CUTOK X kR zWB c_mmo 5 ρ0 q_mmon2k := CUT_run kR_x kR_0 (Cs := [(zWP, c_fndl)]) (fun C hC => by rw [List.mem_singleton.mp hC]; exact s_fndl) c_mmo_f (Q := []) hv (fun q hq => by cases hq) 300 (b1 := true) (b2 := true) k_mmon2k
noncomputable def zf98zzza_29 : sQ × Bool := ((0, .arg 60000, .int 3), true)
noncomputable def zf98zzza_30 : sQ × Bool := ((6, .elem (.arg 64353) (.add (.arg 60064) (.int 3)), .long 0), false)
noncomputable def zf98zzza_31 : sQ × Bool := ((2, .add (.add (.op1 .l2i (.op2 .land (.elem (.arg 64353) (.add (.arg 60064) (.int 1))) (.long 255))) (.op1 .l2i (.op2 .land (.elem (.arg 64353) (.add (.arg 60064) (.int 2))) (.long 255)))) (.op1 .l2i (.op2 .land (.elem (.arg 64353) (.add (.arg 60064) (.int 3))) (.long 255))), .int 0), false)
noncomputable def q_mmon3k : sCut := ((fr 0 425 0 [(0, .long 0)] [], [fBot], 5), (fr 0 272 0 [(0, tr 219), (1, .arg 1308), (2, .arg 60096), (3, .arg 60000)] [], [fBot], 5), [zf98zzza_29, zf98zzza_24, zf98zzza_27, zf98zzza_30, zf98zzza_31, ((2, .int 64, .add (.add (.op1 .l2i (.op2 .land (.elem (.arg 64353) (.add (.arg 60064) (.int 1))) (.long 255))) (.op1 .l2i (.op2 .land (.elem (.arg 64353) (.add (.arg 60064) (.int 2))) (.long 255)))) (.op1 .l2i (.op2 .land (.elem (.arg 64353) (.add (.arg 60064) (.int 3))) (.long 255)))), false), zf98zzza_0, zf98zzza_1, zf98zzza_13, zf98zzza_14, zf98zzza_15, zf98zzza_16, zf98zzza_17, zf98zzza_18, zf98zzza_19, zf98zzza_20, zf98zzza_21, zf98zzza_22], [])
theorem k_mmon3k : cbody kR [(zWP, c_fndl)] (cpl1 zWB c_mmo []) (cpl2 zWB c_mmo []) (cleaf kR zWB c_mmo []) 300 true true q_mmon3k.2.2.1 q_mmon3k.2.2.2 (cst zWB c_mmo.2.2.1.1 q_mmon3k.1) (cst zWB c_mmo.2.2.1.2 q_mmon3k.2.1) = true := by decide +kernel
theorem t_mmon3k {X : pX} {ρ0 : sR} (hv : vok X ρ0) : CUTOK X kR zWB c_mmo 5 ρ0 q_mmon3k := CUT_run kR_x kR_0 (Cs := [(zWP, c_fndl)]) (fun C hC => by rw [List.mem_singleton.mp hC]; exact s_fndl) c_mmo_f (Q := []) hv (fun q hq => by cases hq) 300 (b1 := true) (b2 := true) k_mmon3k
noncomputable def zf98zzza_32 : sQ × Bool := ((0, .arg 60000, .int 4), true)
noncomputable def zf98zzza_33 : sQ × Bool := ((6, .elem (.arg 64353) (.add (.arg 60064) (.int 4)), .long 0), false)
noncomputable def zf98zzza_34 : sQ × Bool := ((2, .add (.add (.add (.op1 .l2i (.op2 .land (.elem (.arg 64353) (.add (.arg 60064) (.int 1))) (.long 255))) (.op1 .l2i (.op2 .land (.elem (.arg 64353) (.add (.arg 60064) (.int 2))) (.long 255)))) (.op1 .l2i (.op2 .land (.elem (.arg 64353) (.add (.arg 60064) (.int 3))) (.long 255)))) (.op1 .l2i (.op2 .land (.elem (.arg 64353) (.add (.arg 60064) (.int 4))) (.long 255))), .int 0), false)
noncomputable def q_mmon4k : sCut := ((fr 0 425 0 [(0, .long 0)] [], [fBot], 5), (fr 0 272 0 [(0, tr 219), (1, .arg 1308), (2, .arg 60096), (3, .arg 60000)] [], [fBot], 5), [zf98zzza_32, zf98zzza_24, zf98zzza_27, zf98zzza_30, zf98zzza_33, zf98zzza_34, ((2, .int 64, .add (.add (.add (.op1 .l2i (.op2 .land (.elem (.arg 64353) (.add (.arg 60064) (.int 1))) (.long 255))) (.op1 .l2i (.op2 .land (.elem (.arg 64353) (.add (.arg 60064) (.int 2))) (.long 255)))) (.op1 .l2i (.op2 .land (.elem (.arg 64353) (.add (.arg 60064) (.int 3))) (.long 255)))) (.op1 .l2i (.op2 .land (.elem (.arg 64353) (.add (.arg 60064) (.int 4))) (.long 255)))), false), zf98zzza_0, zf98zzza_1, zf98zzza_13, zf98zzza_14, zf98zzza_15, zf98zzza_16, zf98zzza_17, zf98zzza_18, zf98zzza_19, zf98zzza_20, zf98zzza_21, zf98zzza_22], [])
theorem k_mmon4k : cbody kR [(zWP, c_fndl)] (cpl1 zWB c_mmo []) (cpl2 zWB c_mmo []) (cleaf kR zWB c_mmo []) 300 true true q_mmon4k.2.2.1 q_mmon4k.2.2.2 (cst zWB c_mmo.2.2.1.1 q_mmon4k.1) (cst zWB c_mmo.2.2.1.2 q_mmon4k.2.1) = true := by decide +kernel
theorem t_mmon4k {X : pX} {ρ0 : sR} (hv : vok X ρ0) : CUTOK X kR zWB c_mmo 5 ρ0 q_mmon4k := CUT_run kR_x kR_0 (Cs := [(zWP, c_fndl)]) (fun C hC => by rw [List.mem_singleton.mp hC]; exact s_fndl) c_mmo_f (Q := []) hv (fun q hq => by cases hq) 300 (b1 := true) (b2 := true) k_mmon4k
theorem t_mmo {X : pX} {ρ0 : sR} (hv : vok X ρ0) : CUTOK X kR zWB c_mmo 5 ρ0 q_mmo := fun ρ k1 hF hI k4 => by
  have p0 : (50 : Int) ≤ (ρ.1 60064).toInt := ri_lf (x := ρ.1 60064) (y := 50) (hF.2 _ (List.mem_cons_self))
  have p1 : (ρ.1 60064).toInt ≤ 105 := ri_lf (x := 105) (y := ρ.1 60064) (hF.2 _ (List.mem_cons_of_mem _ (List.mem_cons_self)))
  have b0 : (0 : Int) ≤ (ρ.1 60000).toInt := ri_lf (x := ρ.1 60000) (y := 0) (hF.2 _ (List.mem_cons_of_mem _ (List.mem_cons_of_mem _ (List.mem_cons_of_mem _ (List.mem_cons_of_mem _ (List.mem_cons_of_mem _ (List.mem_cons_of_mem _ (List.mem_cons_of_mem _ (List.mem_cons_of_mem _ (List.mem_cons_of_mem _ (List.mem_cons_self)))))))))))
  have b1 : (ρ.1 60000).toInt ≤ 4 := ri_lf (x := 4) (y := ρ.1 60000) (hF.2 _ (List.mem_cons_of_mem _ (List.mem_cons_of_mem _ (List.mem_cons_of_mem _ (List.mem_cons_of_mem _ (List.mem_cons_of_mem _ (List.mem_cons_of_mem _ (List.mem_cons_of_mem _ (List.mem_cons_of_mem _ (List.mem_cons_of_mem _ (List.mem_cons_of_mem _ (List.mem_cons_self))))))))))))
  have hc : (0 : Int) = amcode (ρ.2.2.2.1 64353) (ρ.1 60064).toInt.toNat (ρ.1 60000).toInt.toNat := of_decide_eq_true (hF.2 _ (List.mem_cons_of_mem _ (List.mem_cons_of_mem _ (List.mem_cons_of_mem _ (List.mem_cons_of_mem _ (List.mem_cons_of_mem _ (List.mem_cons_of_mem _ (List.mem_cons_of_mem _ (List.mem_cons_of_mem _ (List.mem_cons_of_mem _ (List.mem_cons_of_mem _ (List.mem_cons_of_mem _ (List.mem_cons_self)))))))))))))
  have i1 : (ρ.1 60064 + 1).toNatClampNeg = (ρ.1 60064).toInt.toNat + 1 + 0 := by
    have e : (ρ.1 60064 + 1).toInt = (ρ.1 60064).toInt + 1 := s_add (by have z : (1 : Int32).toInt = 1 := rfl; omega) (by have z : (1 : Int32).toInt = 1 := rfl; omega)
    rw [s_nat, e]
    omega
  have xe1 : (sd X ρ (.elem (.arg 64353) (.add (.arg 60064) (.int 1)))).2 = ρ.2.2.2.1 64353 ((ρ.1 60064).toInt.toNat + 1 + 0) := by rw [← i1]; rfl
  have i2 : (ρ.1 60064 + 2).toNatClampNeg = (ρ.1 60064).toInt.toNat + 1 + 1 := by
    have e : (ρ.1 60064 + 2).toInt = (ρ.1 60064).toInt + 2 := s_add (by have z : (2 : Int32).toInt = 2 := rfl; omega) (by have z : (2 : Int32).toInt = 2 := rfl; omega)
    rw [s_nat, e]
    omega
  have xe2 : (sd X ρ (.elem (.arg 64353) (.add (.arg 60064) (.int 2)))).2 = ρ.2.2.2.1 64353 ((ρ.1 60064).toInt.toNat + 1 + 1) := by rw [← i2]; rfl
  have i3 : (ρ.1 60064 + 3).toNatClampNeg = (ρ.1 60064).toInt.toNat + 1 + 2 := by
    have e : (ρ.1 60064 + 3).toInt = (ρ.1 60064).toInt + 3 := s_add (by have z : (3 : Int32).toInt = 3 := rfl; omega) (by have z : (3 : Int32).toInt = 3 := rfl; omega)
    rw [s_nat, e]
    omega
  have xe3 : (sd X ρ (.elem (.arg 64353) (.add (.arg 60064) (.int 3)))).2 = ρ.2.2.2.1 64353 ((ρ.1 60064).toInt.toNat + 1 + 2) := by rw [← i3]; rfl
  have i4 : (ρ.1 60064 + 4).toNatClampNeg = (ρ.1 60064).toInt.toNat + 1 + 3 := by
    have e : (ρ.1 60064 + 4).toInt = (ρ.1 60064).toInt + 4 := s_add (by have z : (4 : Int32).toInt = 4 := rfl; omega) (by have z : (4 : Int32).toInt = 4 := rfl; omega)
    rw [s_nat, e]
    omega
  have xe4 : (sd X ρ (.elem (.arg 64353) (.add (.arg 60064) (.int 4)))).2 = ρ.2.2.2.1 64353 ((ρ.1 60064).toInt.toNat + 1 + 3) := by rw [← i4]; rfl
  generalize hg : ρ.1 60000 = vv at b0 b1 hc
  rcases (show vv.toInt = 0 ∨ vv.toInt = 1 ∨ vv.toInt = 2 ∨ vv.toInt = 3 ∨ vv.toInt = 4 by omega) with h | h | h | h | h
  · have hV : vv = 0 := Int32.toInt_inj.mp h
    rw [h] at hc
    have hc : (0 : Int) = amcode (ρ.2.2.2.1 64353) (ρ.1 60064).toInt.toNat 0 := hc
    exact t_mmon0k hv ρ k1 ⟨hF.1, fcn (decide_eq_true (show ρ.1 60000 = 0 from hg.trans hV)) (hF.2)⟩ hI k4
  · have hV : vv = 1 := Int32.toInt_inj.mp h
    rw [h] at hc
    have hc : (0 : Int) = amcode (ρ.2.2.2.1 64353) (ρ.1 60064).toInt.toNat 1 := hc
    obtain ⟨nz, su⟩ := am_no hc.symm
    have z1 : ¬ (sd X ρ (.elem (.arg 64353) (.add (.arg 60064) (.int 1)))).2 = 0 := by rw [xe1]; exact fun q => nz 0 (by decide) (congrArg Int64.toInt q)
    have su : (ρ.2.2.2.1 64353 ((ρ.1 60064).toInt.toNat + 1 + 0)).toInt % 256 ≤ 64 := by
      have e : ((List.range 1).map (fun i => ((ρ.2.2.2.1 64353) ((ρ.1 60064).toInt.toNat + 1 + i)).toInt % 256)).sum = (ρ.2.2.2.1 64353 ((ρ.1 60064).toInt.toNat + 1 + 0)).toInt % 256 := by
        show (([0] : List Nat).map _).sum = _
        simp only [List.map_cons, List.map_nil, List.sum_cons, List.sum_nil]
        omega
      rw [e] at su
      exact su
    obtain ⟨l1, u1, j1⟩ := mb_r (y := (sd X ρ (.elem (.arg 64353) (.add (.arg 60064) (.int 1)))).2)
    have w1 : ((sd X ρ (.elem (.arg 64353) (.add (.arg 60064) (.int 1)))).2 &&& 255).toInt = (ρ.2.2.2.1 64353 ((ρ.1 60064).toInt.toNat + 1 + 0)).toInt % 256 := by rw [mw_a, xe1]
    have y64 : (64 : Int64).toInt = 64 := rfl
    have z64 : (64 : Int32).toInt = 64 := rfl
    have z0 : (0 : Int32).toInt = 0 := rfl
    have ov : ¬ 64 < ((sd X ρ (.elem (.arg 64353) (.add (.arg 60064) (.int 1)))).2 &&& 255).toInt := by omega
    exact t_mmon1k hv ρ k1 ⟨hF.1, fcn (decide_eq_true (show ρ.1 60000 = 1 from hg.trans hV)) (fcn (decide_eq_false z1) (fcn (di_lf (x := ((sd X ρ (.elem (.arg 64353) (.add (.arg 60064) (.int 1)))).2 &&& 255).toInt32) (y := 0) (by rw [z0]; omega)) (fcn (di_lf (x := 64) (y := ((sd X ρ (.elem (.arg 64353) (.add (.arg 60064) (.int 1)))).2 &&& 255).toInt32) (by rw [z64]; omega)) (hF.2))))⟩ hI k4
  · have hV : vv = 2 := Int32.toInt_inj.mp h
    rw [h] at hc
    have hc : (0 : Int) = amcode (ρ.2.2.2.1 64353) (ρ.1 60064).toInt.toNat 2 := hc
    obtain ⟨nz, su⟩ := am_no hc.symm
    have z1 : ¬ (sd X ρ (.elem (.arg 64353) (.add (.arg 60064) (.int 1)))).2 = 0 := by rw [xe1]; exact fun q => nz 0 (by decide) (congrArg Int64.toInt q)
    have z2 : ¬ (sd X ρ (.elem (.arg 64353) (.add (.arg 60064) (.int 2)))).2 = 0 := by rw [xe2]; exact fun q => nz 1 (by decide) (congrArg Int64.toInt q)
    have su : (ρ.2.2.2.1 64353 ((ρ.1 60064).toInt.toNat + 1 + 0)).toInt % 256 + (ρ.2.2.2.1 64353 ((ρ.1 60064).toInt.toNat + 1 + 1)).toInt % 256 ≤ 64 := by
      have e : ((List.range 2).map (fun i => ((ρ.2.2.2.1 64353) ((ρ.1 60064).toInt.toNat + 1 + i)).toInt % 256)).sum = (ρ.2.2.2.1 64353 ((ρ.1 60064).toInt.toNat + 1 + 0)).toInt % 256 + (ρ.2.2.2.1 64353 ((ρ.1 60064).toInt.toNat + 1 + 1)).toInt % 256 := by
        show (([0, 1] : List Nat).map _).sum = _
        simp only [List.map_cons, List.map_nil, List.sum_cons, List.sum_nil]
        omega
      rw [e] at su
      exact su
    obtain ⟨l1, u1, j1⟩ := mb_r (y := (sd X ρ (.elem (.arg 64353) (.add (.arg 60064) (.int 1)))).2)
    have w1 : ((sd X ρ (.elem (.arg 64353) (.add (.arg 60064) (.int 1)))).2 &&& 255).toInt = (ρ.2.2.2.1 64353 ((ρ.1 60064).toInt.toNat + 1 + 0)).toInt % 256 := by rw [mw_a, xe1]
    obtain ⟨l2, u2, j2⟩ := mb_r (y := (sd X ρ (.elem (.arg 64353) (.add (.arg 60064) (.int 2)))).2)
    have w2 : ((sd X ρ (.elem (.arg 64353) (.add (.arg 60064) (.int 2)))).2 &&& 255).toInt = (ρ.2.2.2.1 64353 ((ρ.1 60064).toInt.toNat + 1 + 1)).toInt % 256 := by rw [mw_a, xe2]
    have y64 : (64 : Int64).toInt = 64 := rfl
    have z64 : (64 : Int32).toInt = 64 := rfl
    have z0 : (0 : Int32).toInt = 0 := rfl
    have c2 : (((sd X ρ (.elem (.arg 64353) (.add (.arg 60064) (.int 1)))).2 &&& 255).toInt32 + ((sd X ρ (.elem (.arg 64353) (.add (.arg 60064) (.int 2)))).2 &&& 255).toInt32).toInt = ((sd X ρ (.elem (.arg 64353) (.add (.arg 60064) (.int 1)))).2 &&& 255).toInt + ((sd X ρ (.elem (.arg 64353) (.add (.arg 60064) (.int 2)))).2 &&& 255).toInt := (s_add (by omega) (by omega)).trans (by omega)
    have ov : ¬ 64 < ((sd X ρ (.elem (.arg 64353) (.add (.arg 60064) (.int 1)))).2 &&& 255).toInt + ((sd X ρ (.elem (.arg 64353) (.add (.arg 60064) (.int 2)))).2 &&& 255).toInt := by omega
    exact t_mmon2k hv ρ k1 ⟨hF.1, fcn (decide_eq_true (show ρ.1 60000 = 2 from hg.trans hV)) (fcn (decide_eq_false z1) (fcn (decide_eq_false z2) (fcn (di_lf (x := (((sd X ρ (.elem (.arg 64353) (.add (.arg 60064) (.int 1)))).2 &&& 255).toInt32 + ((sd X ρ (.elem (.arg 64353) (.add (.arg 60064) (.int 2)))).2 &&& 255).toInt32)) (y := 0) (by rw [z0]; omega)) (fcn (di_lf (x := 64) (y := (((sd X ρ (.elem (.arg 64353) (.add (.arg 60064) (.int 1)))).2 &&& 255).toInt32 + ((sd X ρ (.elem (.arg 64353) (.add (.arg 60064) (.int 2)))).2 &&& 255).toInt32)) (by rw [z64]; omega)) (hF.2)))))⟩ hI k4
  · have hV : vv = 3 := Int32.toInt_inj.mp h
    rw [h] at hc
    have hc : (0 : Int) = amcode (ρ.2.2.2.1 64353) (ρ.1 60064).toInt.toNat 3 := hc
    obtain ⟨nz, su⟩ := am_no hc.symm
    have z1 : ¬ (sd X ρ (.elem (.arg 64353) (.add (.arg 60064) (.int 1)))).2 = 0 := by rw [xe1]; exact fun q => nz 0 (by decide) (congrArg Int64.toInt q)
    have z2 : ¬ (sd X ρ (.elem (.arg 64353) (.add (.arg 60064) (.int 2)))).2 = 0 := by rw [xe2]; exact fun q => nz 1 (by decide) (congrArg Int64.toInt q)
    have z3 : ¬ (sd X ρ (.elem (.arg 64353) (.add (.arg 60064) (.int 3)))).2 = 0 := by rw [xe3]; exact fun q => nz 2 (by decide) (congrArg Int64.toInt q)
    have su : (ρ.2.2.2.1 64353 ((ρ.1 60064).toInt.toNat + 1 + 0)).toInt % 256 + (ρ.2.2.2.1 64353 ((ρ.1 60064).toInt.toNat + 1 + 1)).toInt % 256 + (ρ.2.2.2.1 64353 ((ρ.1 60064).toInt.toNat + 1 + 2)).toInt % 256 ≤ 64 := by
      have e : ((List.range 3).map (fun i => ((ρ.2.2.2.1 64353) ((ρ.1 60064).toInt.toNat + 1 + i)).toInt % 256)).sum = (ρ.2.2.2.1 64353 ((ρ.1 60064).toInt.toNat + 1 + 0)).toInt % 256 + (ρ.2.2.2.1 64353 ((ρ.1 60064).toInt.toNat + 1 + 1)).toInt % 256 + (ρ.2.2.2.1 64353 ((ρ.1 60064).toInt.toNat + 1 + 2)).toInt % 256 := by
        show (([0, 1, 2] : List Nat).map _).sum = _
        simp only [List.map_cons, List.map_nil, List.sum_cons, List.sum_nil]
        omega
      rw [e] at su
      exact su
    obtain ⟨l1, u1, j1⟩ := mb_r (y := (sd X ρ (.elem (.arg 64353) (.add (.arg 60064) (.int 1)))).2)
    have w1 : ((sd X ρ (.elem (.arg 64353) (.add (.arg 60064) (.int 1)))).2 &&& 255).toInt = (ρ.2.2.2.1 64353 ((ρ.1 60064).toInt.toNat + 1 + 0)).toInt % 256 := by rw [mw_a, xe1]
    obtain ⟨l2, u2, j2⟩ := mb_r (y := (sd X ρ (.elem (.arg 64353) (.add (.arg 60064) (.int 2)))).2)
    have w2 : ((sd X ρ (.elem (.arg 64353) (.add (.arg 60064) (.int 2)))).2 &&& 255).toInt = (ρ.2.2.2.1 64353 ((ρ.1 60064).toInt.toNat + 1 + 1)).toInt % 256 := by rw [mw_a, xe2]
    obtain ⟨l3, u3, j3⟩ := mb_r (y := (sd X ρ (.elem (.arg 64353) (.add (.arg 60064) (.int 3)))).2)
    have w3 : ((sd X ρ (.elem (.arg 64353) (.add (.arg 60064) (.int 3)))).2 &&& 255).toInt = (ρ.2.2.2.1 64353 ((ρ.1 60064).toInt.toNat + 1 + 2)).toInt % 256 := by rw [mw_a, xe3]
    have y64 : (64 : Int64).toInt = 64 := rfl
    have z64 : (64 : Int32).toInt = 64 := rfl
    have z0 : (0 : Int32).toInt = 0 := rfl
    have c2 : (((sd X ρ (.elem (.arg 64353) (.add (.arg 60064) (.int 1)))).2 &&& 255).toInt32 + ((sd X ρ (.elem (.arg 64353) (.add (.arg 60064) (.int 2)))).2 &&& 255).toInt32).toInt = ((sd X ρ (.elem (.arg 64353) (.add (.arg 60064) (.int 1)))).2 &&& 255).toInt + ((sd X ρ (.elem (.arg 64353) (.add (.arg 60064) (.int 2)))).2 &&& 255).toInt := (s_add (by omega) (by omega)).trans (by omega)
    have c3 : ((((sd X ρ (.elem (.arg 64353) (.add (.arg 60064) (.int 1)))).2 &&& 255).toInt32 + ((sd X ρ (.elem (.arg 64353) (.add (.arg 60064) (.int 2)))).2 &&& 255).toInt32) + ((sd X ρ (.elem (.arg 64353) (.add (.arg 60064) (.int 3)))).2 &&& 255).toInt32).toInt = ((sd X ρ (.elem (.arg 64353) (.add (.arg 60064) (.int 1)))).2 &&& 255).toInt + ((sd X ρ (.elem (.arg 64353) (.add (.arg 60064) (.int 2)))).2 &&& 255).toInt + ((sd X ρ (.elem (.arg 64353) (.add (.arg 60064) (.int 3)))).2 &&& 255).toInt := (s_add (by omega) (by omega)).trans (by omega)
    have ov : ¬ 64 < ((sd X ρ (.elem (.arg 64353) (.add (.arg 60064) (.int 1)))).2 &&& 255).toInt + ((sd X ρ (.elem (.arg 64353) (.add (.arg 60064) (.int 2)))).2 &&& 255).toInt + ((sd X ρ (.elem (.arg 64353) (.add (.arg 60064) (.int 3)))).2 &&& 255).toInt := by omega
    exact t_mmon3k hv ρ k1 ⟨hF.1, fcn (decide_eq_true (show ρ.1 60000 = 3 from hg.trans hV)) (fcn (decide_eq_false z1) (fcn (decide_eq_false z2) (fcn (decide_eq_false z3) (fcn (di_lf (x := ((((sd X ρ (.elem (.arg 64353) (.add (.arg 60064) (.int 1)))).2 &&& 255).toInt32 + ((sd X ρ (.elem (.arg 64353) (.add (.arg 60064) (.int 2)))).2 &&& 255).toInt32) + ((sd X ρ (.elem (.arg 64353) (.add (.arg 60064) (.int 3)))).2 &&& 255).toInt32)) (y := 0) (by rw [z0]; omega)) (fcn (di_lf (x := 64) (y := ((((sd X ρ (.elem (.arg 64353) (.add (.arg 60064) (.int 1)))).2 &&& 255).toInt32 + ((sd X ρ (.elem (.arg 64353) (.add (.arg 60064) (.int 2)))).2 &&& 255).toInt32) + ((sd X ρ (.elem (.arg 64353) (.add (.arg 60064) (.int 3)))).2 &&& 255).toInt32)) (by rw [z64]; omega)) (hF.2))))))⟩ hI k4
  · have hV : vv = 4 := Int32.toInt_inj.mp h
    rw [h] at hc
    have hc : (0 : Int) = amcode (ρ.2.2.2.1 64353) (ρ.1 60064).toInt.toNat 4 := hc
    obtain ⟨nz, su⟩ := am_no hc.symm
    have z1 : ¬ (sd X ρ (.elem (.arg 64353) (.add (.arg 60064) (.int 1)))).2 = 0 := by rw [xe1]; exact fun q => nz 0 (by decide) (congrArg Int64.toInt q)
    have z2 : ¬ (sd X ρ (.elem (.arg 64353) (.add (.arg 60064) (.int 2)))).2 = 0 := by rw [xe2]; exact fun q => nz 1 (by decide) (congrArg Int64.toInt q)
    have z3 : ¬ (sd X ρ (.elem (.arg 64353) (.add (.arg 60064) (.int 3)))).2 = 0 := by rw [xe3]; exact fun q => nz 2 (by decide) (congrArg Int64.toInt q)
    have z4 : ¬ (sd X ρ (.elem (.arg 64353) (.add (.arg 60064) (.int 4)))).2 = 0 := by rw [xe4]; exact fun q => nz 3 (by decide) (congrArg Int64.toInt q)
    have su : (ρ.2.2.2.1 64353 ((ρ.1 60064).toInt.toNat + 1 + 0)).toInt % 256 + (ρ.2.2.2.1 64353 ((ρ.1 60064).toInt.toNat + 1 + 1)).toInt % 256 + (ρ.2.2.2.1 64353 ((ρ.1 60064).toInt.toNat + 1 + 2)).toInt % 256 + (ρ.2.2.2.1 64353 ((ρ.1 60064).toInt.toNat + 1 + 3)).toInt % 256 ≤ 64 := by
      have e : ((List.range 4).map (fun i => ((ρ.2.2.2.1 64353) ((ρ.1 60064).toInt.toNat + 1 + i)).toInt % 256)).sum = (ρ.2.2.2.1 64353 ((ρ.1 60064).toInt.toNat + 1 + 0)).toInt % 256 + (ρ.2.2.2.1 64353 ((ρ.1 60064).toInt.toNat + 1 + 1)).toInt % 256 + (ρ.2.2.2.1 64353 ((ρ.1 60064).toInt.toNat + 1 + 2)).toInt % 256 + (ρ.2.2.2.1 64353 ((ρ.1 60064).toInt.toNat + 1 + 3)).toInt % 256 := by
        show (([0, 1, 2, 3] : List Nat).map _).sum = _
        simp only [List.map_cons, List.map_nil, List.sum_cons, List.sum_nil]
        omega
      rw [e] at su
      exact su
    obtain ⟨l1, u1, j1⟩ := mb_r (y := (sd X ρ (.elem (.arg 64353) (.add (.arg 60064) (.int 1)))).2)
    have w1 : ((sd X ρ (.elem (.arg 64353) (.add (.arg 60064) (.int 1)))).2 &&& 255).toInt = (ρ.2.2.2.1 64353 ((ρ.1 60064).toInt.toNat + 1 + 0)).toInt % 256 := by rw [mw_a, xe1]
    obtain ⟨l2, u2, j2⟩ := mb_r (y := (sd X ρ (.elem (.arg 64353) (.add (.arg 60064) (.int 2)))).2)
    have w2 : ((sd X ρ (.elem (.arg 64353) (.add (.arg 60064) (.int 2)))).2 &&& 255).toInt = (ρ.2.2.2.1 64353 ((ρ.1 60064).toInt.toNat + 1 + 1)).toInt % 256 := by rw [mw_a, xe2]
    obtain ⟨l3, u3, j3⟩ := mb_r (y := (sd X ρ (.elem (.arg 64353) (.add (.arg 60064) (.int 3)))).2)
    have w3 : ((sd X ρ (.elem (.arg 64353) (.add (.arg 60064) (.int 3)))).2 &&& 255).toInt = (ρ.2.2.2.1 64353 ((ρ.1 60064).toInt.toNat + 1 + 2)).toInt % 256 := by rw [mw_a, xe3]
    obtain ⟨l4, u4, j4⟩ := mb_r (y := (sd X ρ (.elem (.arg 64353) (.add (.arg 60064) (.int 4)))).2)
    have w4 : ((sd X ρ (.elem (.arg 64353) (.add (.arg 60064) (.int 4)))).2 &&& 255).toInt = (ρ.2.2.2.1 64353 ((ρ.1 60064).toInt.toNat + 1 + 3)).toInt % 256 := by rw [mw_a, xe4]
    have y64 : (64 : Int64).toInt = 64 := rfl
    have z64 : (64 : Int32).toInt = 64 := rfl
    have z0 : (0 : Int32).toInt = 0 := rfl
    have c2 : (((sd X ρ (.elem (.arg 64353) (.add (.arg 60064) (.int 1)))).2 &&& 255).toInt32 + ((sd X ρ (.elem (.arg 64353) (.add (.arg 60064) (.int 2)))).2 &&& 255).toInt32).toInt = ((sd X ρ (.elem (.arg 64353) (.add (.arg 60064) (.int 1)))).2 &&& 255).toInt + ((sd X ρ (.elem (.arg 64353) (.add (.arg 60064) (.int 2)))).2 &&& 255).toInt := (s_add (by omega) (by omega)).trans (by omega)
    have c3 : ((((sd X ρ (.elem (.arg 64353) (.add (.arg 60064) (.int 1)))).2 &&& 255).toInt32 + ((sd X ρ (.elem (.arg 64353) (.add (.arg 60064) (.int 2)))).2 &&& 255).toInt32) + ((sd X ρ (.elem (.arg 64353) (.add (.arg 60064) (.int 3)))).2 &&& 255).toInt32).toInt = ((sd X ρ (.elem (.arg 64353) (.add (.arg 60064) (.int 1)))).2 &&& 255).toInt + ((sd X ρ (.elem (.arg 64353) (.add (.arg 60064) (.int 2)))).2 &&& 255).toInt + ((sd X ρ (.elem (.arg 64353) (.add (.arg 60064) (.int 3)))).2 &&& 255).toInt := (s_add (by omega) (by omega)).trans (by omega)
    have c4 : (((((sd X ρ (.elem (.arg 64353) (.add (.arg 60064) (.int 1)))).2 &&& 255).toInt32 + ((sd X ρ (.elem (.arg 64353) (.add (.arg 60064) (.int 2)))).2 &&& 255).toInt32) + ((sd X ρ (.elem (.arg 64353) (.add (.arg 60064) (.int 3)))).2 &&& 255).toInt32) + ((sd X ρ (.elem (.arg 64353) (.add (.arg 60064) (.int 4)))).2 &&& 255).toInt32).toInt = ((sd X ρ (.elem (.arg 64353) (.add (.arg 60064) (.int 1)))).2 &&& 255).toInt + ((sd X ρ (.elem (.arg 64353) (.add (.arg 60064) (.int 2)))).2 &&& 255).toInt + ((sd X ρ (.elem (.arg 64353) (.add (.arg 60064) (.int 3)))).2 &&& 255).toInt + ((sd X ρ (.elem (.arg 64353) (.add (.arg 60064) (.int 4)))).2 &&& 255).toInt := (s_add (by omega) (by omega)).trans (by omega)
    have ov : ¬ 64 < ((sd X ρ (.elem (.arg 64353) (.add (.arg 60064) (.int 1)))).2 &&& 255).toInt + ((sd X ρ (.elem (.arg 64353) (.add (.arg 60064) (.int 2)))).2 &&& 255).toInt + ((sd X ρ (.elem (.arg 64353) (.add (.arg 60064) (.int 3)))).2 &&& 255).toInt + ((sd X ρ (.elem (.arg 64353) (.add (.arg 60064) (.int 4)))).2 &&& 255).toInt := by omega
    exact t_mmon4k hv ρ k1 ⟨hF.1, fcn (decide_eq_true (show ρ.1 60000 = 4 from hg.trans hV)) (fcn (decide_eq_false z1) (fcn (decide_eq_false z2) (fcn (decide_eq_false z3) (fcn (decide_eq_false z4) (fcn (di_lf (x := (((((sd X ρ (.elem (.arg 64353) (.add (.arg 60064) (.int 1)))).2 &&& 255).toInt32 + ((sd X ρ (.elem (.arg 64353) (.add (.arg 60064) (.int 2)))).2 &&& 255).toInt32) + ((sd X ρ (.elem (.arg 64353) (.add (.arg 60064) (.int 3)))).2 &&& 255).toInt32) + ((sd X ρ (.elem (.arg 64353) (.add (.arg 60064) (.int 4)))).2 &&& 255).toInt32)) (y := 0) (by rw [z0]; omega)) (fcn (di_lf (x := 64) (y := (((((sd X ρ (.elem (.arg 64353) (.add (.arg 60064) (.int 1)))).2 &&& 255).toInt32 + ((sd X ρ (.elem (.arg 64353) (.add (.arg 60064) (.int 2)))).2 &&& 255).toInt32) + ((sd X ρ (.elem (.arg 64353) (.add (.arg 60064) (.int 3)))).2 &&& 255).toInt32) + ((sd X ρ (.elem (.arg 64353) (.add (.arg 60064) (.int 4)))).2 &&& 255).toInt32)) (by rw [z64]; omega)) (hF.2)))))))⟩ hI k4
theorem s_mmo {X : pX} : SREL X pF pdfl mt_all kR zWB c_mmo := SREL_enter (d := 5) (q := q_mmo) rfl c_mmo_f (fun ρ0 hv => t_mmo hv) rfl rfl rfl rfl
/-! ===== what is wrong with a map, the class alone: a gap ===== -/
noncomputable def c_mcn : sC := ((9, 284, 6), ([tr 42, .arg 60064, .arg 60033], [.int 0]), ([42, 43], []), [((2, .arg 60064, .int 50), false), ((2, .int 105, .arg 60064), false), ((8, .arg 60033, .long 0), false), ((8, .long 4, .arg 60033), false), ((139, .add (.elem (.arg 64321) (.int 0)) (.add (.arg 60064) (.arg 60033)), .int 100925505), true)], ([], []), (some (.int 100925505), some (.int 0)), [], ([], []))
theorem c_mcn_f : cfine zWB 65536 c_mcn = true := by decide +kernel
noncomputable def zf98zzza_35 : sQ × Bool := ((139, .add (.elem (.arg 64321) (.int 0)) (.add (.arg 60064) (.arg 60033)), .int 100925505), true)
noncomputable def q_mcn : sCut := ((fr 0 9 0 [(0, tr 42), (1, .arg 60064), (2, .arg 60033)] [], [fBot], 5), (fr 0 284 0 [(0, .int 0)] [], [fBot], 5), [zf98zzza_0, zf98zzza_1, zf98zzza_2, zf98zzza_3, zf98zzza_35], [])
noncomputable def zf98zzza_36 : sQ × Bool := ((6, .elem (.arg 64321) (.add (.arg 60064) (.int 1)), .long 0), true)
noncomputable def q_mcnn1z1 : sCut := ((fr 0 9 0 [(0, tr 42), (1, .arg 60064), (2, .arg 60033)] [], [fBot], 5), (fr 0 284 0 [(0, .int 0)] [], [fBot], 5), [zf98zzza_5, zf98zzza_36, zf98zzza_0, zf98zzza_1, zf98zzza_2, zf98zzza_3, zf98zzza_35], [])
theorem k_mcnn1z1 : cbody kR [] (cpl1 zWB c_mcn []) (cpl2 zWB c_mcn []) (cleaf kR zWB c_mcn []) 300 true true q_mcnn1z1.2.2.1 q_mcnn1z1.2.2.2 (cst zWB c_mcn.2.2.1.1 q_mcnn1z1.1) (cst zWB c_mcn.2.2.1.2 q_mcnn1z1.2.1) = true := by decide +kernel
theorem t_mcnn1z1 {X : pX} {ρ0 : sR} (hv : vok X ρ0) : CUTOK X kR zWB c_mcn 5 ρ0 q_mcnn1z1 := CUT_run kR_x kR_0 (Cs := []) (fun C hC => by cases hC) c_mcn_f (Q := []) hv (fun q hq => by cases hq) 300 (b1 := true) (b2 := true) k_mcnn1z1
noncomputable def q_mcnn2z1 : sCut := ((fr 0 9 0 [(0, tr 42), (1, .arg 60064), (2, .arg 60033)] [], [fBot], 5), (fr 0 284 0 [(0, .int 0)] [], [fBot], 5), [zf98zzza_7, zf98zzza_36, zf98zzza_0, zf98zzza_1, zf98zzza_2, zf98zzza_3, zf98zzza_35], [])
theorem k_mcnn2z1 : cbody kR [] (cpl1 zWB c_mcn []) (cpl2 zWB c_mcn []) (cleaf kR zWB c_mcn []) 300 true true q_mcnn2z1.2.2.1 q_mcnn2z1.2.2.2 (cst zWB c_mcn.2.2.1.1 q_mcnn2z1.1) (cst zWB c_mcn.2.2.1.2 q_mcnn2z1.2.1) = true := by decide +kernel
theorem t_mcnn2z1 {X : pX} {ρ0 : sR} (hv : vok X ρ0) : CUTOK X kR zWB c_mcn 5 ρ0 q_mcnn2z1 := CUT_run kR_x kR_0 (Cs := []) (fun C hC => by cases hC) c_mcn_f (Q := []) hv (fun q hq => by cases hq) 300 (b1 := true) (b2 := true) k_mcnn2z1
noncomputable def zf98zzza_37 : sQ × Bool := ((6, .elem (.arg 64321) (.add (.arg 60064) (.int 2)), .long 0), true)
noncomputable def q_mcnn2z2 : sCut := ((fr 0 9 0 [(0, tr 42), (1, .arg 60064), (2, .arg 60033)] [], [fBot], 5), (fr 0 284 0 [(0, .int 0)] [], [fBot], 5), [zf98zzza_7, zf98zzza_6, zf98zzza_37, zf98zzza_0, zf98zzza_1, zf98zzza_2, zf98zzza_3, zf98zzza_35], [])
theorem k_mcnn2z2 : cbody kR [] (cpl1 zWB c_mcn []) (cpl2 zWB c_mcn []) (cleaf kR zWB c_mcn []) 300 true true q_mcnn2z2.2.2.1 q_mcnn2z2.2.2.2 (cst zWB c_mcn.2.2.1.1 q_mcnn2z2.1) (cst zWB c_mcn.2.2.1.2 q_mcnn2z2.2.1) = true := by decide +kernel
theorem t_mcnn2z2 {X : pX} {ρ0 : sR} (hv : vok X ρ0) : CUTOK X kR zWB c_mcn 5 ρ0 q_mcnn2z2 := CUT_run kR_x kR_0 (Cs := []) (fun C hC => by cases hC) c_mcn_f (Q := []) hv (fun q hq => by cases hq) 300 (b1 := true) (b2 := true) k_mcnn2z2
noncomputable def q_mcnn3z1 : sCut := ((fr 0 9 0 [(0, tr 42), (1, .arg 60064), (2, .arg 60033)] [], [fBot], 5), (fr 0 284 0 [(0, .int 0)] [], [fBot], 5), [zf98zzza_9, zf98zzza_36, zf98zzza_0, zf98zzza_1, zf98zzza_2, zf98zzza_3, zf98zzza_35], [])
theorem k_mcnn3z1 : cbody kR [] (cpl1 zWB c_mcn []) (cpl2 zWB c_mcn []) (cleaf kR zWB c_mcn []) 300 true true q_mcnn3z1.2.2.1 q_mcnn3z1.2.2.2 (cst zWB c_mcn.2.2.1.1 q_mcnn3z1.1) (cst zWB c_mcn.2.2.1.2 q_mcnn3z1.2.1) = true := by decide +kernel
theorem t_mcnn3z1 {X : pX} {ρ0 : sR} (hv : vok X ρ0) : CUTOK X kR zWB c_mcn 5 ρ0 q_mcnn3z1 := CUT_run kR_x kR_0 (Cs := []) (fun C hC => by cases hC) c_mcn_f (Q := []) hv (fun q hq => by cases hq) 300 (b1 := true) (b2 := true) k_mcnn3z1
noncomputable def q_mcnn3z2 : sCut := ((fr 0 9 0 [(0, tr 42), (1, .arg 60064), (2, .arg 60033)] [], [fBot], 5), (fr 0 284 0 [(0, .int 0)] [], [fBot], 5), [zf98zzza_9, zf98zzza_6, zf98zzza_37, zf98zzza_0, zf98zzza_1, zf98zzza_2, zf98zzza_3, zf98zzza_35], [])
theorem k_mcnn3z2 : cbody kR [] (cpl1 zWB c_mcn []) (cpl2 zWB c_mcn []) (cleaf kR zWB c_mcn []) 300 true true q_mcnn3z2.2.2.1 q_mcnn3z2.2.2.2 (cst zWB c_mcn.2.2.1.1 q_mcnn3z2.1) (cst zWB c_mcn.2.2.1.2 q_mcnn3z2.2.1) = true := by decide +kernel
theorem t_mcnn3z2 {X : pX} {ρ0 : sR} (hv : vok X ρ0) : CUTOK X kR zWB c_mcn 5 ρ0 q_mcnn3z2 := CUT_run kR_x kR_0 (Cs := []) (fun C hC => by cases hC) c_mcn_f (Q := []) hv (fun q hq => by cases hq) 300 (b1 := true) (b2 := true) k_mcnn3z2
noncomputable def zf98zzza_38 : sQ × Bool := ((6, .elem (.arg 64321) (.add (.arg 60064) (.int 3)), .long 0), true)
noncomputable def q_mcnn3z3 : sCut := ((fr 0 9 0 [(0, tr 42), (1, .arg 60064), (2, .arg 60033)] [], [fBot], 5), (fr 0 284 0 [(0, .int 0)] [], [fBot], 5), [zf98zzza_9, zf98zzza_6, zf98zzza_8, zf98zzza_38, zf98zzza_0, zf98zzza_1, zf98zzza_2, zf98zzza_3, zf98zzza_35], [])
theorem k_mcnn3z3 : cbody kR [] (cpl1 zWB c_mcn []) (cpl2 zWB c_mcn []) (cleaf kR zWB c_mcn []) 300 true true q_mcnn3z3.2.2.1 q_mcnn3z3.2.2.2 (cst zWB c_mcn.2.2.1.1 q_mcnn3z3.1) (cst zWB c_mcn.2.2.1.2 q_mcnn3z3.2.1) = true := by decide +kernel
theorem t_mcnn3z3 {X : pX} {ρ0 : sR} (hv : vok X ρ0) : CUTOK X kR zWB c_mcn 5 ρ0 q_mcnn3z3 := CUT_run kR_x kR_0 (Cs := []) (fun C hC => by cases hC) c_mcn_f (Q := []) hv (fun q hq => by cases hq) 300 (b1 := true) (b2 := true) k_mcnn3z3
noncomputable def q_mcnn4z1 : sCut := ((fr 0 9 0 [(0, tr 42), (1, .arg 60064), (2, .arg 60033)] [], [fBot], 5), (fr 0 284 0 [(0, .int 0)] [], [fBot], 5), [zf98zzza_11, zf98zzza_36, zf98zzza_0, zf98zzza_1, zf98zzza_2, zf98zzza_3, zf98zzza_35], [])
theorem k_mcnn4z1 : cbody kR [] (cpl1 zWB c_mcn []) (cpl2 zWB c_mcn []) (cleaf kR zWB c_mcn []) 300 true true q_mcnn4z1.2.2.1 q_mcnn4z1.2.2.2 (cst zWB c_mcn.2.2.1.1 q_mcnn4z1.1) (cst zWB c_mcn.2.2.1.2 q_mcnn4z1.2.1) = true := by decide +kernel
theorem t_mcnn4z1 {X : pX} {ρ0 : sR} (hv : vok X ρ0) : CUTOK X kR zWB c_mcn 5 ρ0 q_mcnn4z1 := CUT_run kR_x kR_0 (Cs := []) (fun C hC => by cases hC) c_mcn_f (Q := []) hv (fun q hq => by cases hq) 300 (b1 := true) (b2 := true) k_mcnn4z1
noncomputable def q_mcnn4z2 : sCut := ((fr 0 9 0 [(0, tr 42), (1, .arg 60064), (2, .arg 60033)] [], [fBot], 5), (fr 0 284 0 [(0, .int 0)] [], [fBot], 5), [zf98zzza_11, zf98zzza_6, zf98zzza_37, zf98zzza_0, zf98zzza_1, zf98zzza_2, zf98zzza_3, zf98zzza_35], [])
theorem k_mcnn4z2 : cbody kR [] (cpl1 zWB c_mcn []) (cpl2 zWB c_mcn []) (cleaf kR zWB c_mcn []) 300 true true q_mcnn4z2.2.2.1 q_mcnn4z2.2.2.2 (cst zWB c_mcn.2.2.1.1 q_mcnn4z2.1) (cst zWB c_mcn.2.2.1.2 q_mcnn4z2.2.1) = true := by decide +kernel
theorem t_mcnn4z2 {X : pX} {ρ0 : sR} (hv : vok X ρ0) : CUTOK X kR zWB c_mcn 5 ρ0 q_mcnn4z2 := CUT_run kR_x kR_0 (Cs := []) (fun C hC => by cases hC) c_mcn_f (Q := []) hv (fun q hq => by cases hq) 300 (b1 := true) (b2 := true) k_mcnn4z2
noncomputable def q_mcnn4z3 : sCut := ((fr 0 9 0 [(0, tr 42), (1, .arg 60064), (2, .arg 60033)] [], [fBot], 5), (fr 0 284 0 [(0, .int 0)] [], [fBot], 5), [zf98zzza_11, zf98zzza_6, zf98zzza_8, zf98zzza_38, zf98zzza_0, zf98zzza_1, zf98zzza_2, zf98zzza_3, zf98zzza_35], [])
theorem k_mcnn4z3 : cbody kR [] (cpl1 zWB c_mcn []) (cpl2 zWB c_mcn []) (cleaf kR zWB c_mcn []) 300 true true q_mcnn4z3.2.2.1 q_mcnn4z3.2.2.2 (cst zWB c_mcn.2.2.1.1 q_mcnn4z3.1) (cst zWB c_mcn.2.2.1.2 q_mcnn4z3.2.1) = true := by decide +kernel
theorem t_mcnn4z3 {X : pX} {ρ0 : sR} (hv : vok X ρ0) : CUTOK X kR zWB c_mcn 5 ρ0 q_mcnn4z3 := CUT_run kR_x kR_0 (Cs := []) (fun C hC => by cases hC) c_mcn_f (Q := []) hv (fun q hq => by cases hq) 300 (b1 := true) (b2 := true) k_mcnn4z3
noncomputable def q_mcnn4z4 : sCut := ((fr 0 9 0 [(0, tr 42), (1, .arg 60064), (2, .arg 60033)] [], [fBot], 5), (fr 0 284 0 [(0, .int 0)] [], [fBot], 5), [zf98zzza_11, zf98zzza_6, zf98zzza_8, zf98zzza_10, ((6, .elem (.arg 64321) (.add (.arg 60064) (.int 4)), .long 0), true), zf98zzza_0, zf98zzza_1, zf98zzza_2, zf98zzza_3, zf98zzza_35], [])
theorem k_mcnn4z4 : cbody kR [] (cpl1 zWB c_mcn []) (cpl2 zWB c_mcn []) (cleaf kR zWB c_mcn []) 300 true true q_mcnn4z4.2.2.1 q_mcnn4z4.2.2.2 (cst zWB c_mcn.2.2.1.1 q_mcnn4z4.1) (cst zWB c_mcn.2.2.1.2 q_mcnn4z4.2.1) = true := by decide +kernel
theorem t_mcnn4z4 {X : pX} {ρ0 : sR} (hv : vok X ρ0) : CUTOK X kR zWB c_mcn 5 ρ0 q_mcnn4z4 := CUT_run kR_x kR_0 (Cs := []) (fun C hC => by cases hC) c_mcn_f (Q := []) hv (fun q hq => by cases hq) 300 (b1 := true) (b2 := true) k_mcnn4z4
theorem t_mcn {X : pX} {ρ0 : sR} (hv : vok X ρ0) : CUTOK X kR zWB c_mcn 5 ρ0 q_mcn := fun ρ k1 hF hI k4 => by
  have p0 : (50 : Int) ≤ (ρ.1 60064).toInt := ri_lf (x := ρ.1 60064) (y := 50) (hF.2 _ (List.mem_cons_self))
  have p1 : (ρ.1 60064).toInt ≤ 105 := ri_lf (x := 105) (y := ρ.1 60064) (hF.2 _ (List.mem_cons_of_mem _ (List.mem_cons_self)))
  have b0 : (0 : Int) ≤ (ρ.2.1 60033).toInt := rl_lf (x := ρ.2.1 60033) (y := 0) (hF.2 _ (List.mem_cons_of_mem _ (List.mem_cons_of_mem _ (List.mem_cons_self))))
  have b1 : (ρ.2.1 60033).toInt ≤ 4 := rl_lf (x := 4) (y := ρ.2.1 60033) (hF.2 _ (List.mem_cons_of_mem _ (List.mem_cons_of_mem _ (List.mem_cons_of_mem _ (List.mem_cons_self)))))
  have hc : (100925505 : Int) = amcode (ρ.2.2.2.1 64321) (ρ.1 60064).toInt.toNat (ρ.2.1 60033).toInt.toNat := of_decide_eq_true (hF.2 _ (List.mem_cons_of_mem _ (List.mem_cons_of_mem _ (List.mem_cons_of_mem _ (List.mem_cons_of_mem _ (List.mem_cons_self))))))
  have i1 : (ρ.1 60064 + 1).toNatClampNeg = (ρ.1 60064).toInt.toNat + 1 + 0 := by
    have e : (ρ.1 60064 + 1).toInt = (ρ.1 60064).toInt + 1 := s_add (by have z : (1 : Int32).toInt = 1 := rfl; omega) (by have z : (1 : Int32).toInt = 1 := rfl; omega)
    rw [s_nat, e]
    omega
  have xe1 : (sd X ρ (.elem (.arg 64321) (.add (.arg 60064) (.int 1)))).2 = ρ.2.2.2.1 64321 ((ρ.1 60064).toInt.toNat + 1 + 0) := by rw [← i1]; rfl
  have i2 : (ρ.1 60064 + 2).toNatClampNeg = (ρ.1 60064).toInt.toNat + 1 + 1 := by
    have e : (ρ.1 60064 + 2).toInt = (ρ.1 60064).toInt + 2 := s_add (by have z : (2 : Int32).toInt = 2 := rfl; omega) (by have z : (2 : Int32).toInt = 2 := rfl; omega)
    rw [s_nat, e]
    omega
  have xe2 : (sd X ρ (.elem (.arg 64321) (.add (.arg 60064) (.int 2)))).2 = ρ.2.2.2.1 64321 ((ρ.1 60064).toInt.toNat + 1 + 1) := by rw [← i2]; rfl
  have i3 : (ρ.1 60064 + 3).toNatClampNeg = (ρ.1 60064).toInt.toNat + 1 + 2 := by
    have e : (ρ.1 60064 + 3).toInt = (ρ.1 60064).toInt + 3 := s_add (by have z : (3 : Int32).toInt = 3 := rfl; omega) (by have z : (3 : Int32).toInt = 3 := rfl; omega)
    rw [s_nat, e]
    omega
  have xe3 : (sd X ρ (.elem (.arg 64321) (.add (.arg 60064) (.int 3)))).2 = ρ.2.2.2.1 64321 ((ρ.1 60064).toInt.toNat + 1 + 2) := by rw [← i3]; rfl
  have i4 : (ρ.1 60064 + 4).toNatClampNeg = (ρ.1 60064).toInt.toNat + 1 + 3 := by
    have e : (ρ.1 60064 + 4).toInt = (ρ.1 60064).toInt + 4 := s_add (by have z : (4 : Int32).toInt = 4 := rfl; omega) (by have z : (4 : Int32).toInt = 4 := rfl; omega)
    rw [s_nat, e]
    omega
  have xe4 : (sd X ρ (.elem (.arg 64321) (.add (.arg 60064) (.int 4)))).2 = ρ.2.2.2.1 64321 ((ρ.1 60064).toInt.toNat + 1 + 3) := by rw [← i4]; rfl
  generalize hg : ρ.2.1 60033 = vv at b0 b1 hc
  rcases (show vv.toInt = 0 ∨ vv.toInt = 1 ∨ vv.toInt = 2 ∨ vv.toInt = 3 ∨ vv.toInt = 4 by omega) with h | h | h | h | h
  · have hV : vv = 0 := Int64.toInt_inj.mp h
    rw [h] at hc
    have hc : (100925505 : Int) = amcode (ρ.2.2.2.1 64321) (ρ.1 60064).toInt.toNat 0 := hc
    rw [show amcode (ρ.2.2.2.1 64321) (ρ.1 60064).toInt.toNat 0 = 0 from rfl] at hc
    exact absurd hc (by decide)
  · have hV : vv = 1 := Int64.toInt_inj.mp h
    rw [h] at hc
    have hc : (100925505 : Int) = amcode (ρ.2.2.2.1 64321) (ρ.1 60064).toInt.toNat 1 := hc
    by_cases z1 : (sd X ρ (.elem (.arg 64321) (.add (.arg 60064) (.int 1)))).2 = 0
    · exact t_mcnn1z1 hv ρ k1 ⟨hF.1, fcn (decide_eq_true (show ρ.2.1 60033 = 1 from hg.trans hV)) (fcn (decide_eq_true z1) (hF.2))⟩ hI k4
    refine absurd hc (am_nn (fun i hi => ?_))
    rcases (show i = 0 by omega) with rfl
    · exact fun q => z1 (by rw [xe1]; exact Int64.toInt_inj.mp q)
  · have hV : vv = 2 := Int64.toInt_inj.mp h
    rw [h] at hc
    have hc : (100925505 : Int) = amcode (ρ.2.2.2.1 64321) (ρ.1 60064).toInt.toNat 2 := hc
    by_cases z1 : (sd X ρ (.elem (.arg 64321) (.add (.arg 60064) (.int 1)))).2 = 0
    · exact t_mcnn2z1 hv ρ k1 ⟨hF.1, fcn (decide_eq_true (show ρ.2.1 60033 = 2 from hg.trans hV)) (fcn (decide_eq_true z1) (hF.2))⟩ hI k4
    by_cases z2 : (sd X ρ (.elem (.arg 64321) (.add (.arg 60064) (.int 2)))).2 = 0
    · exact t_mcnn2z2 hv ρ k1 ⟨hF.1, fcn (decide_eq_true (show ρ.2.1 60033 = 2 from hg.trans hV)) (fcn (decide_eq_false z1) (fcn (decide_eq_true z2) (hF.2)))⟩ hI k4
    refine absurd hc (am_nn (fun i hi => ?_))
    rcases (show i = 0 ∨ i = 1 by omega) with rfl | rfl
    · exact fun q => z1 (by rw [xe1]; exact Int64.toInt_inj.mp q)
    · exact fun q => z2 (by rw [xe2]; exact Int64.toInt_inj.mp q)
  · have hV : vv = 3 := Int64.toInt_inj.mp h
    rw [h] at hc
    have hc : (100925505 : Int) = amcode (ρ.2.2.2.1 64321) (ρ.1 60064).toInt.toNat 3 := hc
    by_cases z1 : (sd X ρ (.elem (.arg 64321) (.add (.arg 60064) (.int 1)))).2 = 0
    · exact t_mcnn3z1 hv ρ k1 ⟨hF.1, fcn (decide_eq_true (show ρ.2.1 60033 = 3 from hg.trans hV)) (fcn (decide_eq_true z1) (hF.2))⟩ hI k4
    by_cases z2 : (sd X ρ (.elem (.arg 64321) (.add (.arg 60064) (.int 2)))).2 = 0
    · exact t_mcnn3z2 hv ρ k1 ⟨hF.1, fcn (decide_eq_true (show ρ.2.1 60033 = 3 from hg.trans hV)) (fcn (decide_eq_false z1) (fcn (decide_eq_true z2) (hF.2)))⟩ hI k4
    by_cases z3 : (sd X ρ (.elem (.arg 64321) (.add (.arg 60064) (.int 3)))).2 = 0
    · exact t_mcnn3z3 hv ρ k1 ⟨hF.1, fcn (decide_eq_true (show ρ.2.1 60033 = 3 from hg.trans hV)) (fcn (decide_eq_false z1) (fcn (decide_eq_false z2) (fcn (decide_eq_true z3) (hF.2))))⟩ hI k4
    refine absurd hc (am_nn (fun i hi => ?_))
    rcases (show i = 0 ∨ i = 1 ∨ i = 2 by omega) with rfl | rfl | rfl
    · exact fun q => z1 (by rw [xe1]; exact Int64.toInt_inj.mp q)
    · exact fun q => z2 (by rw [xe2]; exact Int64.toInt_inj.mp q)
    · exact fun q => z3 (by rw [xe3]; exact Int64.toInt_inj.mp q)
  · have hV : vv = 4 := Int64.toInt_inj.mp h
    rw [h] at hc
    have hc : (100925505 : Int) = amcode (ρ.2.2.2.1 64321) (ρ.1 60064).toInt.toNat 4 := hc
    by_cases z1 : (sd X ρ (.elem (.arg 64321) (.add (.arg 60064) (.int 1)))).2 = 0
    · exact t_mcnn4z1 hv ρ k1 ⟨hF.1, fcn (decide_eq_true (show ρ.2.1 60033 = 4 from hg.trans hV)) (fcn (decide_eq_true z1) (hF.2))⟩ hI k4
    by_cases z2 : (sd X ρ (.elem (.arg 64321) (.add (.arg 60064) (.int 2)))).2 = 0
    · exact t_mcnn4z2 hv ρ k1 ⟨hF.1, fcn (decide_eq_true (show ρ.2.1 60033 = 4 from hg.trans hV)) (fcn (decide_eq_false z1) (fcn (decide_eq_true z2) (hF.2)))⟩ hI k4
    by_cases z3 : (sd X ρ (.elem (.arg 64321) (.add (.arg 60064) (.int 3)))).2 = 0
    · exact t_mcnn4z3 hv ρ k1 ⟨hF.1, fcn (decide_eq_true (show ρ.2.1 60033 = 4 from hg.trans hV)) (fcn (decide_eq_false z1) (fcn (decide_eq_false z2) (fcn (decide_eq_true z3) (hF.2))))⟩ hI k4
    by_cases z4 : (sd X ρ (.elem (.arg 64321) (.add (.arg 60064) (.int 4)))).2 = 0
    · exact t_mcnn4z4 hv ρ k1 ⟨hF.1, fcn (decide_eq_true (show ρ.2.1 60033 = 4 from hg.trans hV)) (fcn (decide_eq_false z1) (fcn (decide_eq_false z2) (fcn (decide_eq_false z3) (fcn (decide_eq_true z4) (hF.2)))))⟩ hI k4
    refine absurd hc (am_nn (fun i hi => ?_))
    rcases (show i = 0 ∨ i = 1 ∨ i = 2 ∨ i = 3 by omega) with rfl | rfl | rfl | rfl
    · exact fun q => z1 (by rw [xe1]; exact Int64.toInt_inj.mp q)
    · exact fun q => z2 (by rw [xe2]; exact Int64.toInt_inj.mp q)
    · exact fun q => z3 (by rw [xe3]; exact Int64.toInt_inj.mp q)
    · exact fun q => z4 (by rw [xe4]; exact Int64.toInt_inj.mp q)
theorem s_mcn {X : pX} : SREL X pF pdfl mt_all kR zWB c_mcn := SREL_enter (d := 5) (q := q_mcn) rfl c_mcn_f (fun ρ0 hv => t_mcn hv) rfl rfl rfl rfl
/-! ===== what is wrong with a map, the model alone: a gap ===== -/
noncomputable def c_mmn : sC := ((425, 272, 6), ([.long 0], [tr 219, .arg 1308, .arg 60096, .arg 60000]), ([], [219, 229, 228, 220, 221]), [((2, .arg 60064, .int 50), false), ((2, .int 105, .arg 60064), false), ((2, .arg 60096, .int 0), false), ((2, .int 65535, .arg 60096), false), ((109, .add (.arg 60096) (.int 0), .arg 60064), true), ((109, .add (.arg 60096) (.int 1), .add (.arg 60064) (.int 1)), true), ((109, .add (.arg 60096) (.int 2), .add (.arg 60064) (.int 2)), true), ((109, .add (.arg 60096) (.int 3), .add (.arg 60064) (.int 3)), true), ((109, .add (.arg 60096) (.int 4), .add (.arg 60064) (.int 4)), true), ((2, .arg 60000, .int 0), false), ((2, .int 4, .arg 60000), false), ((139, .add (.elem (.arg 64353) (.int 0)) (.add (.arg 60064) (.arg 60000)), .int 100925505), true)], ([60160, 60192], []), (some (.long 0), some (.int (-1))), [], ([], []))
theorem c_mmn_f : cfine zWB 65536 c_mmn = true := by decide +kernel
noncomputable def zf98zzza_39 : sQ × Bool := ((139, .add (.elem (.arg 64353) (.int 0)) (.add (.arg 60064) (.arg 60000)), .int 100925505), true)
noncomputable def q_mmn : sCut := ((fr 0 425 0 [(0, .long 0)] [], [fBot], 5), (fr 0 272 0 [(0, tr 219), (1, .arg 1308), (2, .arg 60096), (3, .arg 60000)] [], [fBot], 5), [zf98zzza_0, zf98zzza_1, zf98zzza_13, zf98zzza_14, zf98zzza_15, zf98zzza_16, zf98zzza_17, zf98zzza_18, zf98zzza_19, zf98zzza_20, zf98zzza_21, zf98zzza_39], [])
noncomputable def zf98zzza_40 : sQ × Bool := ((6, .elem (.arg 64353) (.add (.arg 60064) (.int 1)), .long 0), true)
noncomputable def q_mmnn1z1 : sCut := ((fr 0 425 0 [(0, .long 0)] [], [fBot], 5), (fr 0 272 0 [(0, tr 219), (1, .arg 1308), (2, .arg 60096), (3, .arg 60000)] [], [fBot], 5), [zf98zzza_23, zf98zzza_40, zf98zzza_0, zf98zzza_1, zf98zzza_13, zf98zzza_14, zf98zzza_15, zf98zzza_16, zf98zzza_17, zf98zzza_18, zf98zzza_19, zf98zzza_20, zf98zzza_21, zf98zzza_39], [])
theorem k_mmnn1z1 : cbody kR [(zWP, c_fndl)] (cpl1 zWB c_mmn []) (cpl2 zWB c_mmn []) (cleaf kR zWB c_mmn []) 300 true true q_mmnn1z1.2.2.1 q_mmnn1z1.2.2.2 (cst zWB c_mmn.2.2.1.1 q_mmnn1z1.1) (cst zWB c_mmn.2.2.1.2 q_mmnn1z1.2.1) = true := by decide +kernel
theorem t_mmnn1z1 {X : pX} {ρ0 : sR} (hv : vok X ρ0) : CUTOK X kR zWB c_mmn 5 ρ0 q_mmnn1z1 := CUT_run kR_x kR_0 (Cs := [(zWP, c_fndl)]) (fun C hC => by rw [List.mem_singleton.mp hC]; exact s_fndl) c_mmn_f (Q := []) hv (fun q hq => by cases hq) 300 (b1 := true) (b2 := true) k_mmnn1z1
noncomputable def q_mmnn2z1 : sCut := ((fr 0 425 0 [(0, .long 0)] [], [fBot], 5), (fr 0 272 0 [(0, tr 219), (1, .arg 1308), (2, .arg 60096), (3, .arg 60000)] [], [fBot], 5), [zf98zzza_26, zf98zzza_40, zf98zzza_0, zf98zzza_1, zf98zzza_13, zf98zzza_14, zf98zzza_15, zf98zzza_16, zf98zzza_17, zf98zzza_18, zf98zzza_19, zf98zzza_20, zf98zzza_21, zf98zzza_39], [])
theorem k_mmnn2z1 : cbody kR [(zWP, c_fndl)] (cpl1 zWB c_mmn []) (cpl2 zWB c_mmn []) (cleaf kR zWB c_mmn []) 300 true true q_mmnn2z1.2.2.1 q_mmnn2z1.2.2.2 (cst zWB c_mmn.2.2.1.1 q_mmnn2z1.1) (cst zWB c_mmn.2.2.1.2 q_mmnn2z1.2.1) = true := by decide +kernel
theorem t_mmnn2z1 {X : pX} {ρ0 : sR} (hv : vok X ρ0) : CUTOK X kR zWB c_mmn 5 ρ0 q_mmnn2z1 := CUT_run kR_x kR_0 (Cs := [(zWP, c_fndl)]) (fun C hC => by rw [List.mem_singleton.mp hC]; exact s_fndl) c_mmn_f (Q := []) hv (fun q hq => by cases hq) 300 (b1 := true) (b2 := true) k_mmnn2z1
noncomputable def zf98zzza_41 : sQ × Bool := ((6, .elem (.arg 64353) (.add (.arg 60064) (.int 2)), .long 0), true)
noncomputable def q_mmnn2z2 : sCut := ((fr 0 425 0 [(0, .long 0)] [], [fBot], 5), (fr 0 272 0 [(0, tr 219), (1, .arg 1308), (2, .arg 60096), (3, .arg 60000)] [], [fBot], 5), [zf98zzza_26, zf98zzza_24, zf98zzza_41, zf98zzza_0, zf98zzza_1, zf98zzza_13, zf98zzza_14, zf98zzza_15, zf98zzza_16, zf98zzza_17, zf98zzza_18, zf98zzza_19, zf98zzza_20, zf98zzza_21, zf98zzza_39], [])
theorem k_mmnn2z2 : cbody kR [(zWP, c_fndl)] (cpl1 zWB c_mmn []) (cpl2 zWB c_mmn []) (cleaf kR zWB c_mmn []) 300 true true q_mmnn2z2.2.2.1 q_mmnn2z2.2.2.2 (cst zWB c_mmn.2.2.1.1 q_mmnn2z2.1) (cst zWB c_mmn.2.2.1.2 q_mmnn2z2.2.1) = true := by decide +kernel
theorem t_mmnn2z2 {X : pX} {ρ0 : sR} (hv : vok X ρ0) : CUTOK X kR zWB c_mmn 5 ρ0 q_mmnn2z2 := CUT_run kR_x kR_0 (Cs := [(zWP, c_fndl)]) (fun C hC => by rw [List.mem_singleton.mp hC]; exact s_fndl) c_mmn_f (Q := []) hv (fun q hq => by cases hq) 300 (b1 := true) (b2 := true) k_mmnn2z2
noncomputable def q_mmnn3z1 : sCut := ((fr 0 425 0 [(0, .long 0)] [], [fBot], 5), (fr 0 272 0 [(0, tr 219), (1, .arg 1308), (2, .arg 60096), (3, .arg 60000)] [], [fBot], 5), [zf98zzza_29, zf98zzza_40, zf98zzza_0, zf98zzza_1, zf98zzza_13, zf98zzza_14, zf98zzza_15, zf98zzza_16, zf98zzza_17, zf98zzza_18, zf98zzza_19, zf98zzza_20, zf98zzza_21, zf98zzza_39], [])
theorem k_mmnn3z1 : cbody kR [(zWP, c_fndl)] (cpl1 zWB c_mmn []) (cpl2 zWB c_mmn []) (cleaf kR zWB c_mmn []) 300 true true q_mmnn3z1.2.2.1 q_mmnn3z1.2.2.2 (cst zWB c_mmn.2.2.1.1 q_mmnn3z1.1) (cst zWB c_mmn.2.2.1.2 q_mmnn3z1.2.1) = true := by decide +kernel
theorem t_mmnn3z1 {X : pX} {ρ0 : sR} (hv : vok X ρ0) : CUTOK X kR zWB c_mmn 5 ρ0 q_mmnn3z1 := CUT_run kR_x kR_0 (Cs := [(zWP, c_fndl)]) (fun C hC => by rw [List.mem_singleton.mp hC]; exact s_fndl) c_mmn_f (Q := []) hv (fun q hq => by cases hq) 300 (b1 := true) (b2 := true) k_mmnn3z1
noncomputable def q_mmnn3z2 : sCut := ((fr 0 425 0 [(0, .long 0)] [], [fBot], 5), (fr 0 272 0 [(0, tr 219), (1, .arg 1308), (2, .arg 60096), (3, .arg 60000)] [], [fBot], 5), [zf98zzza_29, zf98zzza_24, zf98zzza_41, zf98zzza_0, zf98zzza_1, zf98zzza_13, zf98zzza_14, zf98zzza_15, zf98zzza_16, zf98zzza_17, zf98zzza_18, zf98zzza_19, zf98zzza_20, zf98zzza_21, zf98zzza_39], [])
theorem k_mmnn3z2 : cbody kR [(zWP, c_fndl)] (cpl1 zWB c_mmn []) (cpl2 zWB c_mmn []) (cleaf kR zWB c_mmn []) 300 true true q_mmnn3z2.2.2.1 q_mmnn3z2.2.2.2 (cst zWB c_mmn.2.2.1.1 q_mmnn3z2.1) (cst zWB c_mmn.2.2.1.2 q_mmnn3z2.2.1) = true := by decide +kernel
theorem t_mmnn3z2 {X : pX} {ρ0 : sR} (hv : vok X ρ0) : CUTOK X kR zWB c_mmn 5 ρ0 q_mmnn3z2 := CUT_run kR_x kR_0 (Cs := [(zWP, c_fndl)]) (fun C hC => by rw [List.mem_singleton.mp hC]; exact s_fndl) c_mmn_f (Q := []) hv (fun q hq => by cases hq) 300 (b1 := true) (b2 := true) k_mmnn3z2
noncomputable def zf98zzza_42 : sQ × Bool := ((6, .elem (.arg 64353) (.add (.arg 60064) (.int 3)), .long 0), true)
noncomputable def q_mmnn3z3 : sCut := ((fr 0 425 0 [(0, .long 0)] [], [fBot], 5), (fr 0 272 0 [(0, tr 219), (1, .arg 1308), (2, .arg 60096), (3, .arg 60000)] [], [fBot], 5), [zf98zzza_29, zf98zzza_24, zf98zzza_27, zf98zzza_42, zf98zzza_0, zf98zzza_1, zf98zzza_13, zf98zzza_14, zf98zzza_15, zf98zzza_16, zf98zzza_17, zf98zzza_18, zf98zzza_19, zf98zzza_20, zf98zzza_21, zf98zzza_39], [])
theorem k_mmnn3z3 : cbody kR [(zWP, c_fndl)] (cpl1 zWB c_mmn []) (cpl2 zWB c_mmn []) (cleaf kR zWB c_mmn []) 300 true true q_mmnn3z3.2.2.1 q_mmnn3z3.2.2.2 (cst zWB c_mmn.2.2.1.1 q_mmnn3z3.1) (cst zWB c_mmn.2.2.1.2 q_mmnn3z3.2.1) = true := by decide +kernel
theorem t_mmnn3z3 {X : pX} {ρ0 : sR} (hv : vok X ρ0) : CUTOK X kR zWB c_mmn 5 ρ0 q_mmnn3z3 := CUT_run kR_x kR_0 (Cs := [(zWP, c_fndl)]) (fun C hC => by rw [List.mem_singleton.mp hC]; exact s_fndl) c_mmn_f (Q := []) hv (fun q hq => by cases hq) 300 (b1 := true) (b2 := true) k_mmnn3z3
noncomputable def q_mmnn4z1 : sCut := ((fr 0 425 0 [(0, .long 0)] [], [fBot], 5), (fr 0 272 0 [(0, tr 219), (1, .arg 1308), (2, .arg 60096), (3, .arg 60000)] [], [fBot], 5), [zf98zzza_32, zf98zzza_40, zf98zzza_0, zf98zzza_1, zf98zzza_13, zf98zzza_14, zf98zzza_15, zf98zzza_16, zf98zzza_17, zf98zzza_18, zf98zzza_19, zf98zzza_20, zf98zzza_21, zf98zzza_39], [])
theorem k_mmnn4z1 : cbody kR [(zWP, c_fndl)] (cpl1 zWB c_mmn []) (cpl2 zWB c_mmn []) (cleaf kR zWB c_mmn []) 300 true true q_mmnn4z1.2.2.1 q_mmnn4z1.2.2.2 (cst zWB c_mmn.2.2.1.1 q_mmnn4z1.1) (cst zWB c_mmn.2.2.1.2 q_mmnn4z1.2.1) = true := by decide +kernel
theorem t_mmnn4z1 {X : pX} {ρ0 : sR} (hv : vok X ρ0) : CUTOK X kR zWB c_mmn 5 ρ0 q_mmnn4z1 := CUT_run kR_x kR_0 (Cs := [(zWP, c_fndl)]) (fun C hC => by rw [List.mem_singleton.mp hC]; exact s_fndl) c_mmn_f (Q := []) hv (fun q hq => by cases hq) 300 (b1 := true) (b2 := true) k_mmnn4z1
noncomputable def q_mmnn4z2 : sCut := ((fr 0 425 0 [(0, .long 0)] [], [fBot], 5), (fr 0 272 0 [(0, tr 219), (1, .arg 1308), (2, .arg 60096), (3, .arg 60000)] [], [fBot], 5), [zf98zzza_32, zf98zzza_24, zf98zzza_41, zf98zzza_0, zf98zzza_1, zf98zzza_13, zf98zzza_14, zf98zzza_15, zf98zzza_16, zf98zzza_17, zf98zzza_18, zf98zzza_19, zf98zzza_20, zf98zzza_21, zf98zzza_39], [])
theorem k_mmnn4z2 : cbody kR [(zWP, c_fndl)] (cpl1 zWB c_mmn []) (cpl2 zWB c_mmn []) (cleaf kR zWB c_mmn []) 300 true true q_mmnn4z2.2.2.1 q_mmnn4z2.2.2.2 (cst zWB c_mmn.2.2.1.1 q_mmnn4z2.1) (cst zWB c_mmn.2.2.1.2 q_mmnn4z2.2.1) = true := by decide +kernel
theorem t_mmnn4z2 {X : pX} {ρ0 : sR} (hv : vok X ρ0) : CUTOK X kR zWB c_mmn 5 ρ0 q_mmnn4z2 := CUT_run kR_x kR_0 (Cs := [(zWP, c_fndl)]) (fun C hC => by rw [List.mem_singleton.mp hC]; exact s_fndl) c_mmn_f (Q := []) hv (fun q hq => by cases hq) 300 (b1 := true) (b2 := true) k_mmnn4z2
noncomputable def q_mmnn4z3 : sCut := ((fr 0 425 0 [(0, .long 0)] [], [fBot], 5), (fr 0 272 0 [(0, tr 219), (1, .arg 1308), (2, .arg 60096), (3, .arg 60000)] [], [fBot], 5), [zf98zzza_32, zf98zzza_24, zf98zzza_27, zf98zzza_42, zf98zzza_0, zf98zzza_1, zf98zzza_13, zf98zzza_14, zf98zzza_15, zf98zzza_16, zf98zzza_17, zf98zzza_18, zf98zzza_19, zf98zzza_20, zf98zzza_21, zf98zzza_39], [])
theorem k_mmnn4z3 : cbody kR [(zWP, c_fndl)] (cpl1 zWB c_mmn []) (cpl2 zWB c_mmn []) (cleaf kR zWB c_mmn []) 300 true true q_mmnn4z3.2.2.1 q_mmnn4z3.2.2.2 (cst zWB c_mmn.2.2.1.1 q_mmnn4z3.1) (cst zWB c_mmn.2.2.1.2 q_mmnn4z3.2.1) = true := by decide +kernel
theorem t_mmnn4z3 {X : pX} {ρ0 : sR} (hv : vok X ρ0) : CUTOK X kR zWB c_mmn 5 ρ0 q_mmnn4z3 := CUT_run kR_x kR_0 (Cs := [(zWP, c_fndl)]) (fun C hC => by rw [List.mem_singleton.mp hC]; exact s_fndl) c_mmn_f (Q := []) hv (fun q hq => by cases hq) 300 (b1 := true) (b2 := true) k_mmnn4z3
noncomputable def q_mmnn4z4 : sCut := ((fr 0 425 0 [(0, .long 0)] [], [fBot], 5), (fr 0 272 0 [(0, tr 219), (1, .arg 1308), (2, .arg 60096), (3, .arg 60000)] [], [fBot], 5), [zf98zzza_32, zf98zzza_24, zf98zzza_27, zf98zzza_30, ((6, .elem (.arg 64353) (.add (.arg 60064) (.int 4)), .long 0), true), zf98zzza_0, zf98zzza_1, zf98zzza_13, zf98zzza_14, zf98zzza_15, zf98zzza_16, zf98zzza_17, zf98zzza_18, zf98zzza_19, zf98zzza_20, zf98zzza_21, zf98zzza_39], [])
theorem k_mmnn4z4 : cbody kR [(zWP, c_fndl)] (cpl1 zWB c_mmn []) (cpl2 zWB c_mmn []) (cleaf kR zWB c_mmn []) 300 true true q_mmnn4z4.2.2.1 q_mmnn4z4.2.2.2 (cst zWB c_mmn.2.2.1.1 q_mmnn4z4.1) (cst zWB c_mmn.2.2.1.2 q_mmnn4z4.2.1) = true := by decide +kernel
theorem t_mmnn4z4 {X : pX} {ρ0 : sR} (hv : vok X ρ0) : CUTOK X kR zWB c_mmn 5 ρ0 q_mmnn4z4 := CUT_run kR_x kR_0 (Cs := [(zWP, c_fndl)]) (fun C hC => by rw [List.mem_singleton.mp hC]; exact s_fndl) c_mmn_f (Q := []) hv (fun q hq => by cases hq) 300 (b1 := true) (b2 := true) k_mmnn4z4
theorem t_mmn {X : pX} {ρ0 : sR} (hv : vok X ρ0) : CUTOK X kR zWB c_mmn 5 ρ0 q_mmn := fun ρ k1 hF hI k4 => by
  have p0 : (50 : Int) ≤ (ρ.1 60064).toInt := ri_lf (x := ρ.1 60064) (y := 50) (hF.2 _ (List.mem_cons_self))
  have p1 : (ρ.1 60064).toInt ≤ 105 := ri_lf (x := 105) (y := ρ.1 60064) (hF.2 _ (List.mem_cons_of_mem _ (List.mem_cons_self)))
  have b0 : (0 : Int) ≤ (ρ.1 60000).toInt := ri_lf (x := ρ.1 60000) (y := 0) (hF.2 _ (List.mem_cons_of_mem _ (List.mem_cons_of_mem _ (List.mem_cons_of_mem _ (List.mem_cons_of_mem _ (List.mem_cons_of_mem _ (List.mem_cons_of_mem _ (List.mem_cons_of_mem _ (List.mem_cons_of_mem _ (List.mem_cons_of_mem _ (List.mem_cons_self)))))))))))
  have b1 : (ρ.1 60000).toInt ≤ 4 := ri_lf (x := 4) (y := ρ.1 60000) (hF.2 _ (List.mem_cons_of_mem _ (List.mem_cons_of_mem _ (List.mem_cons_of_mem _ (List.mem_cons_of_mem _ (List.mem_cons_of_mem _ (List.mem_cons_of_mem _ (List.mem_cons_of_mem _ (List.mem_cons_of_mem _ (List.mem_cons_of_mem _ (List.mem_cons_of_mem _ (List.mem_cons_self))))))))))))
  have hc : (100925505 : Int) = amcode (ρ.2.2.2.1 64353) (ρ.1 60064).toInt.toNat (ρ.1 60000).toInt.toNat := of_decide_eq_true (hF.2 _ (List.mem_cons_of_mem _ (List.mem_cons_of_mem _ (List.mem_cons_of_mem _ (List.mem_cons_of_mem _ (List.mem_cons_of_mem _ (List.mem_cons_of_mem _ (List.mem_cons_of_mem _ (List.mem_cons_of_mem _ (List.mem_cons_of_mem _ (List.mem_cons_of_mem _ (List.mem_cons_of_mem _ (List.mem_cons_self)))))))))))))
  have i1 : (ρ.1 60064 + 1).toNatClampNeg = (ρ.1 60064).toInt.toNat + 1 + 0 := by
    have e : (ρ.1 60064 + 1).toInt = (ρ.1 60064).toInt + 1 := s_add (by have z : (1 : Int32).toInt = 1 := rfl; omega) (by have z : (1 : Int32).toInt = 1 := rfl; omega)
    rw [s_nat, e]
    omega
  have xe1 : (sd X ρ (.elem (.arg 64353) (.add (.arg 60064) (.int 1)))).2 = ρ.2.2.2.1 64353 ((ρ.1 60064).toInt.toNat + 1 + 0) := by rw [← i1]; rfl
  have i2 : (ρ.1 60064 + 2).toNatClampNeg = (ρ.1 60064).toInt.toNat + 1 + 1 := by
    have e : (ρ.1 60064 + 2).toInt = (ρ.1 60064).toInt + 2 := s_add (by have z : (2 : Int32).toInt = 2 := rfl; omega) (by have z : (2 : Int32).toInt = 2 := rfl; omega)
    rw [s_nat, e]
    omega
  have xe2 : (sd X ρ (.elem (.arg 64353) (.add (.arg 60064) (.int 2)))).2 = ρ.2.2.2.1 64353 ((ρ.1 60064).toInt.toNat + 1 + 1) := by rw [← i2]; rfl
  have i3 : (ρ.1 60064 + 3).toNatClampNeg = (ρ.1 60064).toInt.toNat + 1 + 2 := by
    have e : (ρ.1 60064 + 3).toInt = (ρ.1 60064).toInt + 3 := s_add (by have z : (3 : Int32).toInt = 3 := rfl; omega) (by have z : (3 : Int32).toInt = 3 := rfl; omega)
    rw [s_nat, e]
    omega
  have xe3 : (sd X ρ (.elem (.arg 64353) (.add (.arg 60064) (.int 3)))).2 = ρ.2.2.2.1 64353 ((ρ.1 60064).toInt.toNat + 1 + 2) := by rw [← i3]; rfl
  have i4 : (ρ.1 60064 + 4).toNatClampNeg = (ρ.1 60064).toInt.toNat + 1 + 3 := by
    have e : (ρ.1 60064 + 4).toInt = (ρ.1 60064).toInt + 4 := s_add (by have z : (4 : Int32).toInt = 4 := rfl; omega) (by have z : (4 : Int32).toInt = 4 := rfl; omega)
    rw [s_nat, e]
    omega
  have xe4 : (sd X ρ (.elem (.arg 64353) (.add (.arg 60064) (.int 4)))).2 = ρ.2.2.2.1 64353 ((ρ.1 60064).toInt.toNat + 1 + 3) := by rw [← i4]; rfl
  generalize hg : ρ.1 60000 = vv at b0 b1 hc
  rcases (show vv.toInt = 0 ∨ vv.toInt = 1 ∨ vv.toInt = 2 ∨ vv.toInt = 3 ∨ vv.toInt = 4 by omega) with h | h | h | h | h
  · have hV : vv = 0 := Int32.toInt_inj.mp h
    rw [h] at hc
    have hc : (100925505 : Int) = amcode (ρ.2.2.2.1 64353) (ρ.1 60064).toInt.toNat 0 := hc
    rw [show amcode (ρ.2.2.2.1 64353) (ρ.1 60064).toInt.toNat 0 = 0 from rfl] at hc
    exact absurd hc (by decide)
  · have hV : vv = 1 := Int32.toInt_inj.mp h
    rw [h] at hc
    have hc : (100925505 : Int) = amcode (ρ.2.2.2.1 64353) (ρ.1 60064).toInt.toNat 1 := hc
    by_cases z1 : (sd X ρ (.elem (.arg 64353) (.add (.arg 60064) (.int 1)))).2 = 0
    · exact t_mmnn1z1 hv ρ k1 ⟨hF.1, fcn (decide_eq_true (show ρ.1 60000 = 1 from hg.trans hV)) (fcn (decide_eq_true z1) (hF.2))⟩ hI k4
    refine absurd hc (am_nn (fun i hi => ?_))
    rcases (show i = 0 by omega) with rfl
    · exact fun q => z1 (by rw [xe1]; exact Int64.toInt_inj.mp q)
  · have hV : vv = 2 := Int32.toInt_inj.mp h
    rw [h] at hc
    have hc : (100925505 : Int) = amcode (ρ.2.2.2.1 64353) (ρ.1 60064).toInt.toNat 2 := hc
    by_cases z1 : (sd X ρ (.elem (.arg 64353) (.add (.arg 60064) (.int 1)))).2 = 0
    · exact t_mmnn2z1 hv ρ k1 ⟨hF.1, fcn (decide_eq_true (show ρ.1 60000 = 2 from hg.trans hV)) (fcn (decide_eq_true z1) (hF.2))⟩ hI k4
    by_cases z2 : (sd X ρ (.elem (.arg 64353) (.add (.arg 60064) (.int 2)))).2 = 0
    · exact t_mmnn2z2 hv ρ k1 ⟨hF.1, fcn (decide_eq_true (show ρ.1 60000 = 2 from hg.trans hV)) (fcn (decide_eq_false z1) (fcn (decide_eq_true z2) (hF.2)))⟩ hI k4
    refine absurd hc (am_nn (fun i hi => ?_))
    rcases (show i = 0 ∨ i = 1 by omega) with rfl | rfl
    · exact fun q => z1 (by rw [xe1]; exact Int64.toInt_inj.mp q)
    · exact fun q => z2 (by rw [xe2]; exact Int64.toInt_inj.mp q)
  · have hV : vv = 3 := Int32.toInt_inj.mp h
    rw [h] at hc
    have hc : (100925505 : Int) = amcode (ρ.2.2.2.1 64353) (ρ.1 60064).toInt.toNat 3 := hc
    by_cases z1 : (sd X ρ (.elem (.arg 64353) (.add (.arg 60064) (.int 1)))).2 = 0
    · exact t_mmnn3z1 hv ρ k1 ⟨hF.1, fcn (decide_eq_true (show ρ.1 60000 = 3 from hg.trans hV)) (fcn (decide_eq_true z1) (hF.2))⟩ hI k4
    by_cases z2 : (sd X ρ (.elem (.arg 64353) (.add (.arg 60064) (.int 2)))).2 = 0
    · exact t_mmnn3z2 hv ρ k1 ⟨hF.1, fcn (decide_eq_true (show ρ.1 60000 = 3 from hg.trans hV)) (fcn (decide_eq_false z1) (fcn (decide_eq_true z2) (hF.2)))⟩ hI k4
    by_cases z3 : (sd X ρ (.elem (.arg 64353) (.add (.arg 60064) (.int 3)))).2 = 0
    · exact t_mmnn3z3 hv ρ k1 ⟨hF.1, fcn (decide_eq_true (show ρ.1 60000 = 3 from hg.trans hV)) (fcn (decide_eq_false z1) (fcn (decide_eq_false z2) (fcn (decide_eq_true z3) (hF.2))))⟩ hI k4
    refine absurd hc (am_nn (fun i hi => ?_))
    rcases (show i = 0 ∨ i = 1 ∨ i = 2 by omega) with rfl | rfl | rfl
    · exact fun q => z1 (by rw [xe1]; exact Int64.toInt_inj.mp q)
    · exact fun q => z2 (by rw [xe2]; exact Int64.toInt_inj.mp q)
    · exact fun q => z3 (by rw [xe3]; exact Int64.toInt_inj.mp q)
  · have hV : vv = 4 := Int32.toInt_inj.mp h
    rw [h] at hc
    have hc : (100925505 : Int) = amcode (ρ.2.2.2.1 64353) (ρ.1 60064).toInt.toNat 4 := hc
    by_cases z1 : (sd X ρ (.elem (.arg 64353) (.add (.arg 60064) (.int 1)))).2 = 0
    · exact t_mmnn4z1 hv ρ k1 ⟨hF.1, fcn (decide_eq_true (show ρ.1 60000 = 4 from hg.trans hV)) (fcn (decide_eq_true z1) (hF.2))⟩ hI k4
    by_cases z2 : (sd X ρ (.elem (.arg 64353) (.add (.arg 60064) (.int 2)))).2 = 0
    · exact t_mmnn4z2 hv ρ k1 ⟨hF.1, fcn (decide_eq_true (show ρ.1 60000 = 4 from hg.trans hV)) (fcn (decide_eq_false z1) (fcn (decide_eq_true z2) (hF.2)))⟩ hI k4
    by_cases z3 : (sd X ρ (.elem (.arg 64353) (.add (.arg 60064) (.int 3)))).2 = 0
    · exact t_mmnn4z3 hv ρ k1 ⟨hF.1, fcn (decide_eq_true (show ρ.1 60000 = 4 from hg.trans hV)) (fcn (decide_eq_false z1) (fcn (decide_eq_false z2) (fcn (decide_eq_true z3) (hF.2))))⟩ hI k4
    by_cases z4 : (sd X ρ (.elem (.arg 64353) (.add (.arg 60064) (.int 4)))).2 = 0
    · exact t_mmnn4z4 hv ρ k1 ⟨hF.1, fcn (decide_eq_true (show ρ.1 60000 = 4 from hg.trans hV)) (fcn (decide_eq_false z1) (fcn (decide_eq_false z2) (fcn (decide_eq_false z3) (fcn (decide_eq_true z4) (hF.2)))))⟩ hI k4
    refine absurd hc (am_nn (fun i hi => ?_))
    rcases (show i = 0 ∨ i = 1 ∨ i = 2 ∨ i = 3 by omega) with rfl | rfl | rfl | rfl
    · exact fun q => z1 (by rw [xe1]; exact Int64.toInt_inj.mp q)
    · exact fun q => z2 (by rw [xe2]; exact Int64.toInt_inj.mp q)
    · exact fun q => z3 (by rw [xe3]; exact Int64.toInt_inj.mp q)
    · exact fun q => z4 (by rw [xe4]; exact Int64.toInt_inj.mp q)
theorem s_mmn {X : pX} : SREL X pF pdfl mt_all kR zWB c_mmn := SREL_enter (d := 5) (q := q_mmn) rfl c_mmn_f (fun ρ0 hv => t_mmn hv) rfl rfl rfl rfl
/-! ===== what is wrong with a map, the class alone: too long ===== -/
noncomputable def c_mcl : sC := ((9, 284, 6), ([tr 42, .arg 60064, .arg 60033], [.int 0]), ([42, 43], []), [((2, .arg 60064, .int 50), false), ((2, .int 105, .arg 60064), false), ((8, .arg 60033, .long 0), false), ((8, .long 4, .arg 60033), false), ((139, .add (.elem (.arg 64321) (.int 0)) (.add (.arg 60064) (.arg 60033)), .int 100925506), true)], ([], []), (some (.int 100925506), some (.int 0)), [], ([], []))
theorem c_mcl_f : cfine zWB 65536 c_mcl = true := by decide +kernel
noncomputable def zf98zzza_43 : sQ × Bool := ((139, .add (.elem (.arg 64321) (.int 0)) (.add (.arg 60064) (.arg 60033)), .int 100925506), true)
noncomputable def q_mcl : sCut := ((fr 0 9 0 [(0, tr 42), (1, .arg 60064), (2, .arg 60033)] [], [fBot], 5), (fr 0 284 0 [(0, .int 0)] [], [fBot], 5), [zf98zzza_0, zf98zzza_1, zf98zzza_2, zf98zzza_3, zf98zzza_43], [])
noncomputable def q_mcln1o : sCut := ((fr 0 9 0 [(0, tr 42), (1, .arg 60064), (2, .arg 60033)] [], [fBot], 5), (fr 0 284 0 [(0, .int 0)] [], [fBot], 5), [zf98zzza_5, zf98zzza_6, ((8, .long 64, .op2 .land (.elem (.arg 64321) (.add (.arg 60064) (.int 1))) (.long 255)), true), zf98zzza_0, zf98zzza_1, zf98zzza_2, zf98zzza_3, zf98zzza_43], [])
theorem k_mcln1o : cbody kR [] (cpl1 zWB c_mcl []) (cpl2 zWB c_mcl []) (cleaf kR zWB c_mcl []) 300 true true q_mcln1o.2.2.1 q_mcln1o.2.2.2 (cst zWB c_mcl.2.2.1.1 q_mcln1o.1) (cst zWB c_mcl.2.2.1.2 q_mcln1o.2.1) = true := by decide +kernel
theorem t_mcln1o {X : pX} {ρ0 : sR} (hv : vok X ρ0) : CUTOK X kR zWB c_mcl 5 ρ0 q_mcln1o := CUT_run kR_x kR_0 (Cs := []) (fun C hC => by cases hC) c_mcl_f (Q := []) hv (fun q hq => by cases hq) 300 (b1 := true) (b2 := true) k_mcln1o
noncomputable def q_mcln2o : sCut := ((fr 0 9 0 [(0, tr 42), (1, .arg 60064), (2, .arg 60033)] [], [fBot], 5), (fr 0 284 0 [(0, .int 0)] [], [fBot], 5), [zf98zzza_7, zf98zzza_6, zf98zzza_8, ((8, .long 64, .op2 .ladd (.op2 .land (.elem (.arg 64321) (.add (.arg 60064) (.int 1))) (.long 255)) (.op2 .land (.elem (.arg 64321) (.add (.arg 60064) (.int 2))) (.long 255))), true), zf98zzza_0, zf98zzza_1, zf98zzza_2, zf98zzza_3, zf98zzza_43], [])
theorem k_mcln2o : cbody kR [] (cpl1 zWB c_mcl []) (cpl2 zWB c_mcl []) (cleaf kR zWB c_mcl []) 300 true true q_mcln2o.2.2.1 q_mcln2o.2.2.2 (cst zWB c_mcl.2.2.1.1 q_mcln2o.1) (cst zWB c_mcl.2.2.1.2 q_mcln2o.2.1) = true := by decide +kernel
theorem t_mcln2o {X : pX} {ρ0 : sR} (hv : vok X ρ0) : CUTOK X kR zWB c_mcl 5 ρ0 q_mcln2o := CUT_run kR_x kR_0 (Cs := []) (fun C hC => by cases hC) c_mcl_f (Q := []) hv (fun q hq => by cases hq) 300 (b1 := true) (b2 := true) k_mcln2o
noncomputable def q_mcln3o : sCut := ((fr 0 9 0 [(0, tr 42), (1, .arg 60064), (2, .arg 60033)] [], [fBot], 5), (fr 0 284 0 [(0, .int 0)] [], [fBot], 5), [zf98zzza_9, zf98zzza_6, zf98zzza_8, zf98zzza_10, ((8, .long 64, .op2 .ladd (.op2 .ladd (.op2 .land (.elem (.arg 64321) (.add (.arg 60064) (.int 1))) (.long 255)) (.op2 .land (.elem (.arg 64321) (.add (.arg 60064) (.int 2))) (.long 255))) (.op2 .land (.elem (.arg 64321) (.add (.arg 60064) (.int 3))) (.long 255))), true), zf98zzza_0, zf98zzza_1, zf98zzza_2, zf98zzza_3, zf98zzza_43], [])
theorem k_mcln3o : cbody kR [] (cpl1 zWB c_mcl []) (cpl2 zWB c_mcl []) (cleaf kR zWB c_mcl []) 300 true true q_mcln3o.2.2.1 q_mcln3o.2.2.2 (cst zWB c_mcl.2.2.1.1 q_mcln3o.1) (cst zWB c_mcl.2.2.1.2 q_mcln3o.2.1) = true := by decide +kernel
theorem t_mcln3o {X : pX} {ρ0 : sR} (hv : vok X ρ0) : CUTOK X kR zWB c_mcl 5 ρ0 q_mcln3o := CUT_run kR_x kR_0 (Cs := []) (fun C hC => by cases hC) c_mcl_f (Q := []) hv (fun q hq => by cases hq) 300 (b1 := true) (b2 := true) k_mcln3o
noncomputable def q_mcln4o : sCut := ((fr 0 9 0 [(0, tr 42), (1, .arg 60064), (2, .arg 60033)] [], [fBot], 5), (fr 0 284 0 [(0, .int 0)] [], [fBot], 5), [zf98zzza_11, zf98zzza_6, zf98zzza_8, zf98zzza_10, zf98zzza_12, ((8, .long 64, .op2 .ladd (.op2 .ladd (.op2 .ladd (.op2 .land (.elem (.arg 64321) (.add (.arg 60064) (.int 1))) (.long 255)) (.op2 .land (.elem (.arg 64321) (.add (.arg 60064) (.int 2))) (.long 255))) (.op2 .land (.elem (.arg 64321) (.add (.arg 60064) (.int 3))) (.long 255))) (.op2 .land (.elem (.arg 64321) (.add (.arg 60064) (.int 4))) (.long 255))), true), zf98zzza_0, zf98zzza_1, zf98zzza_2, zf98zzza_3, zf98zzza_43], [])
theorem k_mcln4o : cbody kR [] (cpl1 zWB c_mcl []) (cpl2 zWB c_mcl []) (cleaf kR zWB c_mcl []) 300 true true q_mcln4o.2.2.1 q_mcln4o.2.2.2 (cst zWB c_mcl.2.2.1.1 q_mcln4o.1) (cst zWB c_mcl.2.2.1.2 q_mcln4o.2.1) = true := by decide +kernel
theorem t_mcln4o {X : pX} {ρ0 : sR} (hv : vok X ρ0) : CUTOK X kR zWB c_mcl 5 ρ0 q_mcln4o := CUT_run kR_x kR_0 (Cs := []) (fun C hC => by cases hC) c_mcl_f (Q := []) hv (fun q hq => by cases hq) 300 (b1 := true) (b2 := true) k_mcln4o
theorem t_mcl {X : pX} {ρ0 : sR} (hv : vok X ρ0) : CUTOK X kR zWB c_mcl 5 ρ0 q_mcl := fun ρ k1 hF hI k4 => by
  have p0 : (50 : Int) ≤ (ρ.1 60064).toInt := ri_lf (x := ρ.1 60064) (y := 50) (hF.2 _ (List.mem_cons_self))
  have p1 : (ρ.1 60064).toInt ≤ 105 := ri_lf (x := 105) (y := ρ.1 60064) (hF.2 _ (List.mem_cons_of_mem _ (List.mem_cons_self)))
  have b0 : (0 : Int) ≤ (ρ.2.1 60033).toInt := rl_lf (x := ρ.2.1 60033) (y := 0) (hF.2 _ (List.mem_cons_of_mem _ (List.mem_cons_of_mem _ (List.mem_cons_self))))
  have b1 : (ρ.2.1 60033).toInt ≤ 4 := rl_lf (x := 4) (y := ρ.2.1 60033) (hF.2 _ (List.mem_cons_of_mem _ (List.mem_cons_of_mem _ (List.mem_cons_of_mem _ (List.mem_cons_self)))))
  have hc : (100925506 : Int) = amcode (ρ.2.2.2.1 64321) (ρ.1 60064).toInt.toNat (ρ.2.1 60033).toInt.toNat := of_decide_eq_true (hF.2 _ (List.mem_cons_of_mem _ (List.mem_cons_of_mem _ (List.mem_cons_of_mem _ (List.mem_cons_of_mem _ (List.mem_cons_self))))))
  have i1 : (ρ.1 60064 + 1).toNatClampNeg = (ρ.1 60064).toInt.toNat + 1 + 0 := by
    have e : (ρ.1 60064 + 1).toInt = (ρ.1 60064).toInt + 1 := s_add (by have z : (1 : Int32).toInt = 1 := rfl; omega) (by have z : (1 : Int32).toInt = 1 := rfl; omega)
    rw [s_nat, e]
    omega
  have xe1 : (sd X ρ (.elem (.arg 64321) (.add (.arg 60064) (.int 1)))).2 = ρ.2.2.2.1 64321 ((ρ.1 60064).toInt.toNat + 1 + 0) := by rw [← i1]; rfl
  have i2 : (ρ.1 60064 + 2).toNatClampNeg = (ρ.1 60064).toInt.toNat + 1 + 1 := by
    have e : (ρ.1 60064 + 2).toInt = (ρ.1 60064).toInt + 2 := s_add (by have z : (2 : Int32).toInt = 2 := rfl; omega) (by have z : (2 : Int32).toInt = 2 := rfl; omega)
    rw [s_nat, e]
    omega
  have xe2 : (sd X ρ (.elem (.arg 64321) (.add (.arg 60064) (.int 2)))).2 = ρ.2.2.2.1 64321 ((ρ.1 60064).toInt.toNat + 1 + 1) := by rw [← i2]; rfl
  have i3 : (ρ.1 60064 + 3).toNatClampNeg = (ρ.1 60064).toInt.toNat + 1 + 2 := by
    have e : (ρ.1 60064 + 3).toInt = (ρ.1 60064).toInt + 3 := s_add (by have z : (3 : Int32).toInt = 3 := rfl; omega) (by have z : (3 : Int32).toInt = 3 := rfl; omega)
    rw [s_nat, e]
    omega
  have xe3 : (sd X ρ (.elem (.arg 64321) (.add (.arg 60064) (.int 3)))).2 = ρ.2.2.2.1 64321 ((ρ.1 60064).toInt.toNat + 1 + 2) := by rw [← i3]; rfl
  have i4 : (ρ.1 60064 + 4).toNatClampNeg = (ρ.1 60064).toInt.toNat + 1 + 3 := by
    have e : (ρ.1 60064 + 4).toInt = (ρ.1 60064).toInt + 4 := s_add (by have z : (4 : Int32).toInt = 4 := rfl; omega) (by have z : (4 : Int32).toInt = 4 := rfl; omega)
    rw [s_nat, e]
    omega
  have xe4 : (sd X ρ (.elem (.arg 64321) (.add (.arg 60064) (.int 4)))).2 = ρ.2.2.2.1 64321 ((ρ.1 60064).toInt.toNat + 1 + 3) := by rw [← i4]; rfl
  generalize hg : ρ.2.1 60033 = vv at b0 b1 hc
  rcases (show vv.toInt = 0 ∨ vv.toInt = 1 ∨ vv.toInt = 2 ∨ vv.toInt = 3 ∨ vv.toInt = 4 by omega) with h | h | h | h | h
  · have hV : vv = 0 := Int64.toInt_inj.mp h
    rw [h] at hc
    have hc : (100925506 : Int) = amcode (ρ.2.2.2.1 64321) (ρ.1 60064).toInt.toNat 0 := hc
    rw [show amcode (ρ.2.2.2.1 64321) (ρ.1 60064).toInt.toNat 0 = 0 from rfl] at hc
    exact absurd hc (by decide)
  · have hV : vv = 1 := Int64.toInt_inj.mp h
    rw [h] at hc
    have hc : (100925506 : Int) = amcode (ρ.2.2.2.1 64321) (ρ.1 60064).toInt.toNat 1 := hc
    obtain ⟨nz, su⟩ := am_lo hc.symm
    have z1 : ¬ (sd X ρ (.elem (.arg 64321) (.add (.arg 60064) (.int 1)))).2 = 0 := by rw [xe1]; exact fun q => nz 0 (by decide) (congrArg Int64.toInt q)
    have su : ¬ (ρ.2.2.2.1 64321 ((ρ.1 60064).toInt.toNat + 1 + 0)).toInt % 256 ≤ 64 := by
      have e : ((List.range 1).map (fun i => ((ρ.2.2.2.1 64321) ((ρ.1 60064).toInt.toNat + 1 + i)).toInt % 256)).sum = (ρ.2.2.2.1 64321 ((ρ.1 60064).toInt.toNat + 1 + 0)).toInt % 256 := by
        show (([0] : List Nat).map _).sum = _
        simp only [List.map_cons, List.map_nil, List.sum_cons, List.sum_nil]
        omega
      rw [e] at su
      exact su
    obtain ⟨l1, u1, j1⟩ := mb_r (y := (sd X ρ (.elem (.arg 64321) (.add (.arg 60064) (.int 1)))).2)
    have w1 : ((sd X ρ (.elem (.arg 64321) (.add (.arg 60064) (.int 1)))).2 &&& 255).toInt = (ρ.2.2.2.1 64321 ((ρ.1 60064).toInt.toNat + 1 + 0)).toInt % 256 := by rw [mw_a, xe1]
    have y64 : (64 : Int64).toInt = 64 := rfl
    have z64 : (64 : Int32).toInt = 64 := rfl
    have z0 : (0 : Int32).toInt = 0 := rfl
    have c1 : ((sd X ρ (.elem (.arg 64321) (.add (.arg 60064) (.int 1)))).2 &&& 255).toInt = ((sd X ρ (.elem (.arg 64321) (.add (.arg 60064) (.int 1)))).2 &&& 255).toInt := rfl
    have ov : 64 < ((sd X ρ (.elem (.arg 64321) (.add (.arg 60064) (.int 1)))).2 &&& 255).toInt := by omega
    exact t_mcln1o hv ρ k1 ⟨hF.1, fcn (decide_eq_true (show ρ.2.1 60033 = 1 from hg.trans hV)) (fcn (decide_eq_false z1) (fcn (dl_lt (x := 64) (y := ((sd X ρ (.elem (.arg 64321) (.add (.arg 60064) (.int 1)))).2 &&& 255)) (by rw [y64]; omega)) (hF.2)))⟩ hI k4
  · have hV : vv = 2 := Int64.toInt_inj.mp h
    rw [h] at hc
    have hc : (100925506 : Int) = amcode (ρ.2.2.2.1 64321) (ρ.1 60064).toInt.toNat 2 := hc
    obtain ⟨nz, su⟩ := am_lo hc.symm
    have z1 : ¬ (sd X ρ (.elem (.arg 64321) (.add (.arg 60064) (.int 1)))).2 = 0 := by rw [xe1]; exact fun q => nz 0 (by decide) (congrArg Int64.toInt q)
    have z2 : ¬ (sd X ρ (.elem (.arg 64321) (.add (.arg 60064) (.int 2)))).2 = 0 := by rw [xe2]; exact fun q => nz 1 (by decide) (congrArg Int64.toInt q)
    have su : ¬ (ρ.2.2.2.1 64321 ((ρ.1 60064).toInt.toNat + 1 + 0)).toInt % 256 + (ρ.2.2.2.1 64321 ((ρ.1 60064).toInt.toNat + 1 + 1)).toInt % 256 ≤ 64 := by
      have e : ((List.range 2).map (fun i => ((ρ.2.2.2.1 64321) ((ρ.1 60064).toInt.toNat + 1 + i)).toInt % 256)).sum = (ρ.2.2.2.1 64321 ((ρ.1 60064).toInt.toNat + 1 + 0)).toInt % 256 + (ρ.2.2.2.1 64321 ((ρ.1 60064).toInt.toNat + 1 + 1)).toInt % 256 := by
        show (([0, 1] : List Nat).map _).sum = _
        simp only [List.map_cons, List.map_nil, List.sum_cons, List.sum_nil]
        omega
      rw [e] at su
      exact su
    obtain ⟨l1, u1, j1⟩ := mb_r (y := (sd X ρ (.elem (.arg 64321) (.add (.arg 60064) (.int 1)))).2)
    have w1 : ((sd X ρ (.elem (.arg 64321) (.add (.arg 60064) (.int 1)))).2 &&& 255).toInt = (ρ.2.2.2.1 64321 ((ρ.1 60064).toInt.toNat + 1 + 0)).toInt % 256 := by rw [mw_a, xe1]
    obtain ⟨l2, u2, j2⟩ := mb_r (y := (sd X ρ (.elem (.arg 64321) (.add (.arg 60064) (.int 2)))).2)
    have w2 : ((sd X ρ (.elem (.arg 64321) (.add (.arg 60064) (.int 2)))).2 &&& 255).toInt = (ρ.2.2.2.1 64321 ((ρ.1 60064).toInt.toNat + 1 + 1)).toInt % 256 := by rw [mw_a, xe2]
    have y64 : (64 : Int64).toInt = 64 := rfl
    have z64 : (64 : Int32).toInt = 64 := rfl
    have z0 : (0 : Int32).toInt = 0 := rfl
    have c1 : ((sd X ρ (.elem (.arg 64321) (.add (.arg 60064) (.int 1)))).2 &&& 255).toInt = ((sd X ρ (.elem (.arg 64321) (.add (.arg 60064) (.int 1)))).2 &&& 255).toInt := rfl
    have c2 : (((sd X ρ (.elem (.arg 64321) (.add (.arg 60064) (.int 1)))).2 &&& 255) + ((sd X ρ (.elem (.arg 64321) (.add (.arg 60064) (.int 2)))).2 &&& 255)).toInt = ((sd X ρ (.elem (.arg 64321) (.add (.arg 60064) (.int 1)))).2 &&& 255).toInt + ((sd X ρ (.elem (.arg 64321) (.add (.arg 60064) (.int 2)))).2 &&& 255).toInt := (l_add (by omega) (by omega)).trans (by omega)
    have ov : 64 < ((sd X ρ (.elem (.arg 64321) (.add (.arg 60064) (.int 1)))).2 &&& 255).toInt + ((sd X ρ (.elem (.arg 64321) (.add (.arg 60064) (.int 2)))).2 &&& 255).toInt := by omega
    exact t_mcln2o hv ρ k1 ⟨hF.1, fcn (decide_eq_true (show ρ.2.1 60033 = 2 from hg.trans hV)) (fcn (decide_eq_false z1) (fcn (decide_eq_false z2) (fcn (dl_lt (x := 64) (y := (((sd X ρ (.elem (.arg 64321) (.add (.arg 60064) (.int 1)))).2 &&& 255) + ((sd X ρ (.elem (.arg 64321) (.add (.arg 60064) (.int 2)))).2 &&& 255))) (by rw [y64]; omega)) (hF.2))))⟩ hI k4
  · have hV : vv = 3 := Int64.toInt_inj.mp h
    rw [h] at hc
    have hc : (100925506 : Int) = amcode (ρ.2.2.2.1 64321) (ρ.1 60064).toInt.toNat 3 := hc
    obtain ⟨nz, su⟩ := am_lo hc.symm
    have z1 : ¬ (sd X ρ (.elem (.arg 64321) (.add (.arg 60064) (.int 1)))).2 = 0 := by rw [xe1]; exact fun q => nz 0 (by decide) (congrArg Int64.toInt q)
    have z2 : ¬ (sd X ρ (.elem (.arg 64321) (.add (.arg 60064) (.int 2)))).2 = 0 := by rw [xe2]; exact fun q => nz 1 (by decide) (congrArg Int64.toInt q)
    have z3 : ¬ (sd X ρ (.elem (.arg 64321) (.add (.arg 60064) (.int 3)))).2 = 0 := by rw [xe3]; exact fun q => nz 2 (by decide) (congrArg Int64.toInt q)
    have su : ¬ (ρ.2.2.2.1 64321 ((ρ.1 60064).toInt.toNat + 1 + 0)).toInt % 256 + (ρ.2.2.2.1 64321 ((ρ.1 60064).toInt.toNat + 1 + 1)).toInt % 256 + (ρ.2.2.2.1 64321 ((ρ.1 60064).toInt.toNat + 1 + 2)).toInt % 256 ≤ 64 := by
      have e : ((List.range 3).map (fun i => ((ρ.2.2.2.1 64321) ((ρ.1 60064).toInt.toNat + 1 + i)).toInt % 256)).sum = (ρ.2.2.2.1 64321 ((ρ.1 60064).toInt.toNat + 1 + 0)).toInt % 256 + (ρ.2.2.2.1 64321 ((ρ.1 60064).toInt.toNat + 1 + 1)).toInt % 256 + (ρ.2.2.2.1 64321 ((ρ.1 60064).toInt.toNat + 1 + 2)).toInt % 256 := by
        show (([0, 1, 2] : List Nat).map _).sum = _
        simp only [List.map_cons, List.map_nil, List.sum_cons, List.sum_nil]
        omega
      rw [e] at su
      exact su
    obtain ⟨l1, u1, j1⟩ := mb_r (y := (sd X ρ (.elem (.arg 64321) (.add (.arg 60064) (.int 1)))).2)
    have w1 : ((sd X ρ (.elem (.arg 64321) (.add (.arg 60064) (.int 1)))).2 &&& 255).toInt = (ρ.2.2.2.1 64321 ((ρ.1 60064).toInt.toNat + 1 + 0)).toInt % 256 := by rw [mw_a, xe1]
    obtain ⟨l2, u2, j2⟩ := mb_r (y := (sd X ρ (.elem (.arg 64321) (.add (.arg 60064) (.int 2)))).2)
    have w2 : ((sd X ρ (.elem (.arg 64321) (.add (.arg 60064) (.int 2)))).2 &&& 255).toInt = (ρ.2.2.2.1 64321 ((ρ.1 60064).toInt.toNat + 1 + 1)).toInt % 256 := by rw [mw_a, xe2]
    obtain ⟨l3, u3, j3⟩ := mb_r (y := (sd X ρ (.elem (.arg 64321) (.add (.arg 60064) (.int 3)))).2)
    have w3 : ((sd X ρ (.elem (.arg 64321) (.add (.arg 60064) (.int 3)))).2 &&& 255).toInt = (ρ.2.2.2.1 64321 ((ρ.1 60064).toInt.toNat + 1 + 2)).toInt % 256 := by rw [mw_a, xe3]
    have y64 : (64 : Int64).toInt = 64 := rfl
    have z64 : (64 : Int32).toInt = 64 := rfl
    have z0 : (0 : Int32).toInt = 0 := rfl
    have c1 : ((sd X ρ (.elem (.arg 64321) (.add (.arg 60064) (.int 1)))).2 &&& 255).toInt = ((sd X ρ (.elem (.arg 64321) (.add (.arg 60064) (.int 1)))).2 &&& 255).toInt := rfl
    have c2 : (((sd X ρ (.elem (.arg 64321) (.add (.arg 60064) (.int 1)))).2 &&& 255) + ((sd X ρ (.elem (.arg 64321) (.add (.arg 60064) (.int 2)))).2 &&& 255)).toInt = ((sd X ρ (.elem (.arg 64321) (.add (.arg 60064) (.int 1)))).2 &&& 255).toInt + ((sd X ρ (.elem (.arg 64321) (.add (.arg 60064) (.int 2)))).2 &&& 255).toInt := (l_add (by omega) (by omega)).trans (by omega)
    have c3 : ((((sd X ρ (.elem (.arg 64321) (.add (.arg 60064) (.int 1)))).2 &&& 255) + ((sd X ρ (.elem (.arg 64321) (.add (.arg 60064) (.int 2)))).2 &&& 255)) + ((sd X ρ (.elem (.arg 64321) (.add (.arg 60064) (.int 3)))).2 &&& 255)).toInt = ((sd X ρ (.elem (.arg 64321) (.add (.arg 60064) (.int 1)))).2 &&& 255).toInt + ((sd X ρ (.elem (.arg 64321) (.add (.arg 60064) (.int 2)))).2 &&& 255).toInt + ((sd X ρ (.elem (.arg 64321) (.add (.arg 60064) (.int 3)))).2 &&& 255).toInt := (l_add (by omega) (by omega)).trans (by omega)
    have ov : 64 < ((sd X ρ (.elem (.arg 64321) (.add (.arg 60064) (.int 1)))).2 &&& 255).toInt + ((sd X ρ (.elem (.arg 64321) (.add (.arg 60064) (.int 2)))).2 &&& 255).toInt + ((sd X ρ (.elem (.arg 64321) (.add (.arg 60064) (.int 3)))).2 &&& 255).toInt := by omega
    exact t_mcln3o hv ρ k1 ⟨hF.1, fcn (decide_eq_true (show ρ.2.1 60033 = 3 from hg.trans hV)) (fcn (decide_eq_false z1) (fcn (decide_eq_false z2) (fcn (decide_eq_false z3) (fcn (dl_lt (x := 64) (y := ((((sd X ρ (.elem (.arg 64321) (.add (.arg 60064) (.int 1)))).2 &&& 255) + ((sd X ρ (.elem (.arg 64321) (.add (.arg 60064) (.int 2)))).2 &&& 255)) + ((sd X ρ (.elem (.arg 64321) (.add (.arg 60064) (.int 3)))).2 &&& 255))) (by rw [y64]; omega)) (hF.2)))))⟩ hI k4
  · have hV : vv = 4 := Int64.toInt_inj.mp h
    rw [h] at hc
    have hc : (100925506 : Int) = amcode (ρ.2.2.2.1 64321) (ρ.1 60064).toInt.toNat 4 := hc
    obtain ⟨nz, su⟩ := am_lo hc.symm
    have z1 : ¬ (sd X ρ (.elem (.arg 64321) (.add (.arg 60064) (.int 1)))).2 = 0 := by rw [xe1]; exact fun q => nz 0 (by decide) (congrArg Int64.toInt q)
    have z2 : ¬ (sd X ρ (.elem (.arg 64321) (.add (.arg 60064) (.int 2)))).2 = 0 := by rw [xe2]; exact fun q => nz 1 (by decide) (congrArg Int64.toInt q)
    have z3 : ¬ (sd X ρ (.elem (.arg 64321) (.add (.arg 60064) (.int 3)))).2 = 0 := by rw [xe3]; exact fun q => nz 2 (by decide) (congrArg Int64.toInt q)
    have z4 : ¬ (sd X ρ (.elem (.arg 64321) (.add (.arg 60064) (.int 4)))).2 = 0 := by rw [xe4]; exact fun q => nz 3 (by decide) (congrArg Int64.toInt q)
    have su : ¬ (ρ.2.2.2.1 64321 ((ρ.1 60064).toInt.toNat + 1 + 0)).toInt % 256 + (ρ.2.2.2.1 64321 ((ρ.1 60064).toInt.toNat + 1 + 1)).toInt % 256 + (ρ.2.2.2.1 64321 ((ρ.1 60064).toInt.toNat + 1 + 2)).toInt % 256 + (ρ.2.2.2.1 64321 ((ρ.1 60064).toInt.toNat + 1 + 3)).toInt % 256 ≤ 64 := by
      have e : ((List.range 4).map (fun i => ((ρ.2.2.2.1 64321) ((ρ.1 60064).toInt.toNat + 1 + i)).toInt % 256)).sum = (ρ.2.2.2.1 64321 ((ρ.1 60064).toInt.toNat + 1 + 0)).toInt % 256 + (ρ.2.2.2.1 64321 ((ρ.1 60064).toInt.toNat + 1 + 1)).toInt % 256 + (ρ.2.2.2.1 64321 ((ρ.1 60064).toInt.toNat + 1 + 2)).toInt % 256 + (ρ.2.2.2.1 64321 ((ρ.1 60064).toInt.toNat + 1 + 3)).toInt % 256 := by
        show (([0, 1, 2, 3] : List Nat).map _).sum = _
        simp only [List.map_cons, List.map_nil, List.sum_cons, List.sum_nil]
        omega
      rw [e] at su
      exact su
    obtain ⟨l1, u1, j1⟩ := mb_r (y := (sd X ρ (.elem (.arg 64321) (.add (.arg 60064) (.int 1)))).2)
    have w1 : ((sd X ρ (.elem (.arg 64321) (.add (.arg 60064) (.int 1)))).2 &&& 255).toInt = (ρ.2.2.2.1 64321 ((ρ.1 60064).toInt.toNat + 1 + 0)).toInt % 256 := by rw [mw_a, xe1]
    obtain ⟨l2, u2, j2⟩ := mb_r (y := (sd X ρ (.elem (.arg 64321) (.add (.arg 60064) (.int 2)))).2)
    have w2 : ((sd X ρ (.elem (.arg 64321) (.add (.arg 60064) (.int 2)))).2 &&& 255).toInt = (ρ.2.2.2.1 64321 ((ρ.1 60064).toInt.toNat + 1 + 1)).toInt % 256 := by rw [mw_a, xe2]
    obtain ⟨l3, u3, j3⟩ := mb_r (y := (sd X ρ (.elem (.arg 64321) (.add (.arg 60064) (.int 3)))).2)
    have w3 : ((sd X ρ (.elem (.arg 64321) (.add (.arg 60064) (.int 3)))).2 &&& 255).toInt = (ρ.2.2.2.1 64321 ((ρ.1 60064).toInt.toNat + 1 + 2)).toInt % 256 := by rw [mw_a, xe3]
    obtain ⟨l4, u4, j4⟩ := mb_r (y := (sd X ρ (.elem (.arg 64321) (.add (.arg 60064) (.int 4)))).2)
    have w4 : ((sd X ρ (.elem (.arg 64321) (.add (.arg 60064) (.int 4)))).2 &&& 255).toInt = (ρ.2.2.2.1 64321 ((ρ.1 60064).toInt.toNat + 1 + 3)).toInt % 256 := by rw [mw_a, xe4]
    have y64 : (64 : Int64).toInt = 64 := rfl
    have z64 : (64 : Int32).toInt = 64 := rfl
    have z0 : (0 : Int32).toInt = 0 := rfl
    have c1 : ((sd X ρ (.elem (.arg 64321) (.add (.arg 60064) (.int 1)))).2 &&& 255).toInt = ((sd X ρ (.elem (.arg 64321) (.add (.arg 60064) (.int 1)))).2 &&& 255).toInt := rfl
    have c2 : (((sd X ρ (.elem (.arg 64321) (.add (.arg 60064) (.int 1)))).2 &&& 255) + ((sd X ρ (.elem (.arg 64321) (.add (.arg 60064) (.int 2)))).2 &&& 255)).toInt = ((sd X ρ (.elem (.arg 64321) (.add (.arg 60064) (.int 1)))).2 &&& 255).toInt + ((sd X ρ (.elem (.arg 64321) (.add (.arg 60064) (.int 2)))).2 &&& 255).toInt := (l_add (by omega) (by omega)).trans (by omega)
    have c3 : ((((sd X ρ (.elem (.arg 64321) (.add (.arg 60064) (.int 1)))).2 &&& 255) + ((sd X ρ (.elem (.arg 64321) (.add (.arg 60064) (.int 2)))).2 &&& 255)) + ((sd X ρ (.elem (.arg 64321) (.add (.arg 60064) (.int 3)))).2 &&& 255)).toInt = ((sd X ρ (.elem (.arg 64321) (.add (.arg 60064) (.int 1)))).2 &&& 255).toInt + ((sd X ρ (.elem (.arg 64321) (.add (.arg 60064) (.int 2)))).2 &&& 255).toInt + ((sd X ρ (.elem (.arg 64321) (.add (.arg 60064) (.int 3)))).2 &&& 255).toInt := (l_add (by omega) (by omega)).trans (by omega)
    have c4 : (((((sd X ρ (.elem (.arg 64321) (.add (.arg 60064) (.int 1)))).2 &&& 255) + ((sd X ρ (.elem (.arg 64321) (.add (.arg 60064) (.int 2)))).2 &&& 255)) + ((sd X ρ (.elem (.arg 64321) (.add (.arg 60064) (.int 3)))).2 &&& 255)) + ((sd X ρ (.elem (.arg 64321) (.add (.arg 60064) (.int 4)))).2 &&& 255)).toInt = ((sd X ρ (.elem (.arg 64321) (.add (.arg 60064) (.int 1)))).2 &&& 255).toInt + ((sd X ρ (.elem (.arg 64321) (.add (.arg 60064) (.int 2)))).2 &&& 255).toInt + ((sd X ρ (.elem (.arg 64321) (.add (.arg 60064) (.int 3)))).2 &&& 255).toInt + ((sd X ρ (.elem (.arg 64321) (.add (.arg 60064) (.int 4)))).2 &&& 255).toInt := (l_add (by omega) (by omega)).trans (by omega)
    have ov : 64 < ((sd X ρ (.elem (.arg 64321) (.add (.arg 60064) (.int 1)))).2 &&& 255).toInt + ((sd X ρ (.elem (.arg 64321) (.add (.arg 60064) (.int 2)))).2 &&& 255).toInt + ((sd X ρ (.elem (.arg 64321) (.add (.arg 60064) (.int 3)))).2 &&& 255).toInt + ((sd X ρ (.elem (.arg 64321) (.add (.arg 60064) (.int 4)))).2 &&& 255).toInt := by omega
    exact t_mcln4o hv ρ k1 ⟨hF.1, fcn (decide_eq_true (show ρ.2.1 60033 = 4 from hg.trans hV)) (fcn (decide_eq_false z1) (fcn (decide_eq_false z2) (fcn (decide_eq_false z3) (fcn (decide_eq_false z4) (fcn (dl_lt (x := 64) (y := (((((sd X ρ (.elem (.arg 64321) (.add (.arg 60064) (.int 1)))).2 &&& 255) + ((sd X ρ (.elem (.arg 64321) (.add (.arg 60064) (.int 2)))).2 &&& 255)) + ((sd X ρ (.elem (.arg 64321) (.add (.arg 60064) (.int 3)))).2 &&& 255)) + ((sd X ρ (.elem (.arg 64321) (.add (.arg 60064) (.int 4)))).2 &&& 255))) (by rw [y64]; omega)) (hF.2))))))⟩ hI k4
theorem s_mcl {X : pX} : SREL X pF pdfl mt_all kR zWB c_mcl := SREL_enter (d := 5) (q := q_mcl) rfl c_mcl_f (fun ρ0 hv => t_mcl hv) rfl rfl rfl rfl
/-! ===== what is wrong with a map, the model alone: too long ===== -/
noncomputable def c_mml : sC := ((425, 272, 6), ([.long 0], [tr 219, .arg 1308, .arg 60096, .arg 60000]), ([], [219, 229, 228, 220, 221]), [((2, .arg 60064, .int 50), false), ((2, .int 105, .arg 60064), false), ((2, .arg 60096, .int 0), false), ((2, .int 65535, .arg 60096), false), ((109, .add (.arg 60096) (.int 0), .arg 60064), true), ((109, .add (.arg 60096) (.int 1), .add (.arg 60064) (.int 1)), true), ((109, .add (.arg 60096) (.int 2), .add (.arg 60064) (.int 2)), true), ((109, .add (.arg 60096) (.int 3), .add (.arg 60064) (.int 3)), true), ((109, .add (.arg 60096) (.int 4), .add (.arg 60064) (.int 4)), true), ((2, .arg 60000, .int 0), false), ((2, .int 4, .arg 60000), false), ((139, .add (.elem (.arg 64353) (.int 0)) (.add (.arg 60064) (.arg 60000)), .int 100925506), true)], ([60160, 60192], []), (some (.long 0), some (.arg 60160)), [((2, .arg 60160, .int 0), false), ((2, .int 64, .arg 60160), true)], ([], []))
theorem c_mml_f : cfine zWB 65536 c_mml = true := by decide +kernel
noncomputable def zf98zzza_44 : sQ × Bool := ((139, .add (.elem (.arg 64353) (.int 0)) (.add (.arg 60064) (.arg 60000)), .int 100925506), true)
noncomputable def q_mml : sCut := ((fr 0 425 0 [(0, .long 0)] [], [fBot], 5), (fr 0 272 0 [(0, tr 219), (1, .arg 1308), (2, .arg 60096), (3, .arg 60000)] [], [fBot], 5), [zf98zzza_0, zf98zzza_1, zf98zzza_13, zf98zzza_14, zf98zzza_15, zf98zzza_16, zf98zzza_17, zf98zzza_18, zf98zzza_19, zf98zzza_20, zf98zzza_21, zf98zzza_44], [])
noncomputable def q_mmln1o : sCut := ((fr 0 425 0 [(0, .long 0)] [], [fBot], 5), (fr 0 272 0 [(0, tr 219), (1, .arg 1308), (2, .arg 60096), (3, .arg 60000)] [], [fBot], 5), [zf98zzza_23, zf98zzza_24, zf98zzza_25, ((2, .int 64, .op1 .l2i (.op2 .land (.elem (.arg 64353) (.add (.arg 60064) (.int 1))) (.long 255))), true), zf98zzza_0, zf98zzza_1, zf98zzza_13, zf98zzza_14, zf98zzza_15, zf98zzza_16, zf98zzza_17, zf98zzza_18, zf98zzza_19, zf98zzza_20, zf98zzza_21, zf98zzza_44], [])
theorem k_mmln1o : cbody kR [(zWP, c_fndl)] (cpl1 zWB c_mml []) (cpl2 zWB c_mml []) (cleaf kR zWB c_mml []) 300 true true q_mmln1o.2.2.1 q_mmln1o.2.2.2 (cst zWB c_mml.2.2.1.1 q_mmln1o.1) (cst zWB c_mml.2.2.1.2 q_mmln1o.2.1) = true := by decide +kernel
theorem t_mmln1o {X : pX} {ρ0 : sR} (hv : vok X ρ0) : CUTOK X kR zWB c_mml 5 ρ0 q_mmln1o := CUT_run kR_x kR_0 (Cs := [(zWP, c_fndl)]) (fun C hC => by rw [List.mem_singleton.mp hC]; exact s_fndl) c_mml_f (Q := []) hv (fun q hq => by cases hq) 300 (b1 := true) (b2 := true) k_mmln1o
noncomputable def q_mmln2o : sCut := ((fr 0 425 0 [(0, .long 0)] [], [fBot], 5), (fr 0 272 0 [(0, tr 219), (1, .arg 1308), (2, .arg 60096), (3, .arg 60000)] [], [fBot], 5), [zf98zzza_26, zf98zzza_24, zf98zzza_27, zf98zzza_28, ((2, .int 64, .add (.op1 .l2i (.op2 .land (.elem (.arg 64353) (.add (.arg 60064) (.int 1))) (.long 255))) (.op1 .l2i (.op2 .land (.elem (.arg 64353) (.add (.arg 60064) (.int 2))) (.long 255)))), true), zf98zzza_0, zf98zzza_1, zf98zzza_13, zf98zzza_14, zf98zzza_15, zf98zzza_16, zf98zzza_17, zf98zzza_18, zf98zzza_19, zf98zzza_20, zf98zzza_21, zf98zzza_44], [])
theorem k_mmln2o : cbody kR [(zWP, c_fndl)] (cpl1 zWB c_mml []) (cpl2 zWB c_mml []) (cleaf kR zWB c_mml []) 300 true true q_mmln2o.2.2.1 q_mmln2o.2.2.2 (cst zWB c_mml.2.2.1.1 q_mmln2o.1) (cst zWB c_mml.2.2.1.2 q_mmln2o.2.1) = true := by decide +kernel
theorem t_mmln2o {X : pX} {ρ0 : sR} (hv : vok X ρ0) : CUTOK X kR zWB c_mml 5 ρ0 q_mmln2o := CUT_run kR_x kR_0 (Cs := [(zWP, c_fndl)]) (fun C hC => by rw [List.mem_singleton.mp hC]; exact s_fndl) c_mml_f (Q := []) hv (fun q hq => by cases hq) 300 (b1 := true) (b2 := true) k_mmln2o
noncomputable def q_mmln3o : sCut := ((fr 0 425 0 [(0, .long 0)] [], [fBot], 5), (fr 0 272 0 [(0, tr 219), (1, .arg 1308), (2, .arg 60096), (3, .arg 60000)] [], [fBot], 5), [zf98zzza_29, zf98zzza_24, zf98zzza_27, zf98zzza_30, zf98zzza_31, ((2, .int 64, .add (.add (.op1 .l2i (.op2 .land (.elem (.arg 64353) (.add (.arg 60064) (.int 1))) (.long 255))) (.op1 .l2i (.op2 .land (.elem (.arg 64353) (.add (.arg 60064) (.int 2))) (.long 255)))) (.op1 .l2i (.op2 .land (.elem (.arg 64353) (.add (.arg 60064) (.int 3))) (.long 255)))), true), zf98zzza_0, zf98zzza_1, zf98zzza_13, zf98zzza_14, zf98zzza_15, zf98zzza_16, zf98zzza_17, zf98zzza_18, zf98zzza_19, zf98zzza_20, zf98zzza_21, zf98zzza_44], [])
theorem k_mmln3o : cbody kR [(zWP, c_fndl)] (cpl1 zWB c_mml []) (cpl2 zWB c_mml []) (cleaf kR zWB c_mml []) 300 true true q_mmln3o.2.2.1 q_mmln3o.2.2.2 (cst zWB c_mml.2.2.1.1 q_mmln3o.1) (cst zWB c_mml.2.2.1.2 q_mmln3o.2.1) = true := by decide +kernel
theorem t_mmln3o {X : pX} {ρ0 : sR} (hv : vok X ρ0) : CUTOK X kR zWB c_mml 5 ρ0 q_mmln3o := CUT_run kR_x kR_0 (Cs := [(zWP, c_fndl)]) (fun C hC => by rw [List.mem_singleton.mp hC]; exact s_fndl) c_mml_f (Q := []) hv (fun q hq => by cases hq) 300 (b1 := true) (b2 := true) k_mmln3o
noncomputable def q_mmln4o : sCut := ((fr 0 425 0 [(0, .long 0)] [], [fBot], 5), (fr 0 272 0 [(0, tr 219), (1, .arg 1308), (2, .arg 60096), (3, .arg 60000)] [], [fBot], 5), [zf98zzza_32, zf98zzza_24, zf98zzza_27, zf98zzza_30, zf98zzza_33, zf98zzza_34, ((2, .int 64, .add (.add (.add (.op1 .l2i (.op2 .land (.elem (.arg 64353) (.add (.arg 60064) (.int 1))) (.long 255))) (.op1 .l2i (.op2 .land (.elem (.arg 64353) (.add (.arg 60064) (.int 2))) (.long 255)))) (.op1 .l2i (.op2 .land (.elem (.arg 64353) (.add (.arg 60064) (.int 3))) (.long 255)))) (.op1 .l2i (.op2 .land (.elem (.arg 64353) (.add (.arg 60064) (.int 4))) (.long 255)))), true), zf98zzza_0, zf98zzza_1, zf98zzza_13, zf98zzza_14, zf98zzza_15, zf98zzza_16, zf98zzza_17, zf98zzza_18, zf98zzza_19, zf98zzza_20, zf98zzza_21, zf98zzza_44], [])
theorem k_mmln4o : cbody kR [(zWP, c_fndl)] (cpl1 zWB c_mml []) (cpl2 zWB c_mml []) (cleaf kR zWB c_mml []) 300 true true q_mmln4o.2.2.1 q_mmln4o.2.2.2 (cst zWB c_mml.2.2.1.1 q_mmln4o.1) (cst zWB c_mml.2.2.1.2 q_mmln4o.2.1) = true := by decide +kernel
theorem t_mmln4o {X : pX} {ρ0 : sR} (hv : vok X ρ0) : CUTOK X kR zWB c_mml 5 ρ0 q_mmln4o := CUT_run kR_x kR_0 (Cs := [(zWP, c_fndl)]) (fun C hC => by rw [List.mem_singleton.mp hC]; exact s_fndl) c_mml_f (Q := []) hv (fun q hq => by cases hq) 300 (b1 := true) (b2 := true) k_mmln4o
theorem t_mml {X : pX} {ρ0 : sR} (hv : vok X ρ0) : CUTOK X kR zWB c_mml 5 ρ0 q_mml := fun ρ k1 hF hI k4 => by
  have p0 : (50 : Int) ≤ (ρ.1 60064).toInt := ri_lf (x := ρ.1 60064) (y := 50) (hF.2 _ (List.mem_cons_self))
  have p1 : (ρ.1 60064).toInt ≤ 105 := ri_lf (x := 105) (y := ρ.1 60064) (hF.2 _ (List.mem_cons_of_mem _ (List.mem_cons_self)))
  have b0 : (0 : Int) ≤ (ρ.1 60000).toInt := ri_lf (x := ρ.1 60000) (y := 0) (hF.2 _ (List.mem_cons_of_mem _ (List.mem_cons_of_mem _ (List.mem_cons_of_mem _ (List.mem_cons_of_mem _ (List.mem_cons_of_mem _ (List.mem_cons_of_mem _ (List.mem_cons_of_mem _ (List.mem_cons_of_mem _ (List.mem_cons_of_mem _ (List.mem_cons_self)))))))))))
  have b1 : (ρ.1 60000).toInt ≤ 4 := ri_lf (x := 4) (y := ρ.1 60000) (hF.2 _ (List.mem_cons_of_mem _ (List.mem_cons_of_mem _ (List.mem_cons_of_mem _ (List.mem_cons_of_mem _ (List.mem_cons_of_mem _ (List.mem_cons_of_mem _ (List.mem_cons_of_mem _ (List.mem_cons_of_mem _ (List.mem_cons_of_mem _ (List.mem_cons_of_mem _ (List.mem_cons_self))))))))))))
  have hc : (100925506 : Int) = amcode (ρ.2.2.2.1 64353) (ρ.1 60064).toInt.toNat (ρ.1 60000).toInt.toNat := of_decide_eq_true (hF.2 _ (List.mem_cons_of_mem _ (List.mem_cons_of_mem _ (List.mem_cons_of_mem _ (List.mem_cons_of_mem _ (List.mem_cons_of_mem _ (List.mem_cons_of_mem _ (List.mem_cons_of_mem _ (List.mem_cons_of_mem _ (List.mem_cons_of_mem _ (List.mem_cons_of_mem _ (List.mem_cons_of_mem _ (List.mem_cons_self)))))))))))))
  have i1 : (ρ.1 60064 + 1).toNatClampNeg = (ρ.1 60064).toInt.toNat + 1 + 0 := by
    have e : (ρ.1 60064 + 1).toInt = (ρ.1 60064).toInt + 1 := s_add (by have z : (1 : Int32).toInt = 1 := rfl; omega) (by have z : (1 : Int32).toInt = 1 := rfl; omega)
    rw [s_nat, e]
    omega
  have xe1 : (sd X ρ (.elem (.arg 64353) (.add (.arg 60064) (.int 1)))).2 = ρ.2.2.2.1 64353 ((ρ.1 60064).toInt.toNat + 1 + 0) := by rw [← i1]; rfl
  have i2 : (ρ.1 60064 + 2).toNatClampNeg = (ρ.1 60064).toInt.toNat + 1 + 1 := by
    have e : (ρ.1 60064 + 2).toInt = (ρ.1 60064).toInt + 2 := s_add (by have z : (2 : Int32).toInt = 2 := rfl; omega) (by have z : (2 : Int32).toInt = 2 := rfl; omega)
    rw [s_nat, e]
    omega
  have xe2 : (sd X ρ (.elem (.arg 64353) (.add (.arg 60064) (.int 2)))).2 = ρ.2.2.2.1 64353 ((ρ.1 60064).toInt.toNat + 1 + 1) := by rw [← i2]; rfl
  have i3 : (ρ.1 60064 + 3).toNatClampNeg = (ρ.1 60064).toInt.toNat + 1 + 2 := by
    have e : (ρ.1 60064 + 3).toInt = (ρ.1 60064).toInt + 3 := s_add (by have z : (3 : Int32).toInt = 3 := rfl; omega) (by have z : (3 : Int32).toInt = 3 := rfl; omega)
    rw [s_nat, e]
    omega
  have xe3 : (sd X ρ (.elem (.arg 64353) (.add (.arg 60064) (.int 3)))).2 = ρ.2.2.2.1 64353 ((ρ.1 60064).toInt.toNat + 1 + 2) := by rw [← i3]; rfl
  have i4 : (ρ.1 60064 + 4).toNatClampNeg = (ρ.1 60064).toInt.toNat + 1 + 3 := by
    have e : (ρ.1 60064 + 4).toInt = (ρ.1 60064).toInt + 4 := s_add (by have z : (4 : Int32).toInt = 4 := rfl; omega) (by have z : (4 : Int32).toInt = 4 := rfl; omega)
    rw [s_nat, e]
    omega
  have xe4 : (sd X ρ (.elem (.arg 64353) (.add (.arg 60064) (.int 4)))).2 = ρ.2.2.2.1 64353 ((ρ.1 60064).toInt.toNat + 1 + 3) := by rw [← i4]; rfl
  generalize hg : ρ.1 60000 = vv at b0 b1 hc
  rcases (show vv.toInt = 0 ∨ vv.toInt = 1 ∨ vv.toInt = 2 ∨ vv.toInt = 3 ∨ vv.toInt = 4 by omega) with h | h | h | h | h
  · have hV : vv = 0 := Int32.toInt_inj.mp h
    rw [h] at hc
    have hc : (100925506 : Int) = amcode (ρ.2.2.2.1 64353) (ρ.1 60064).toInt.toNat 0 := hc
    rw [show amcode (ρ.2.2.2.1 64353) (ρ.1 60064).toInt.toNat 0 = 0 from rfl] at hc
    exact absurd hc (by decide)
  · have hV : vv = 1 := Int32.toInt_inj.mp h
    rw [h] at hc
    have hc : (100925506 : Int) = amcode (ρ.2.2.2.1 64353) (ρ.1 60064).toInt.toNat 1 := hc
    obtain ⟨nz, su⟩ := am_lo hc.symm
    have z1 : ¬ (sd X ρ (.elem (.arg 64353) (.add (.arg 60064) (.int 1)))).2 = 0 := by rw [xe1]; exact fun q => nz 0 (by decide) (congrArg Int64.toInt q)
    have su : ¬ (ρ.2.2.2.1 64353 ((ρ.1 60064).toInt.toNat + 1 + 0)).toInt % 256 ≤ 64 := by
      have e : ((List.range 1).map (fun i => ((ρ.2.2.2.1 64353) ((ρ.1 60064).toInt.toNat + 1 + i)).toInt % 256)).sum = (ρ.2.2.2.1 64353 ((ρ.1 60064).toInt.toNat + 1 + 0)).toInt % 256 := by
        show (([0] : List Nat).map _).sum = _
        simp only [List.map_cons, List.map_nil, List.sum_cons, List.sum_nil]
        omega
      rw [e] at su
      exact su
    obtain ⟨l1, u1, j1⟩ := mb_r (y := (sd X ρ (.elem (.arg 64353) (.add (.arg 60064) (.int 1)))).2)
    have w1 : ((sd X ρ (.elem (.arg 64353) (.add (.arg 60064) (.int 1)))).2 &&& 255).toInt = (ρ.2.2.2.1 64353 ((ρ.1 60064).toInt.toNat + 1 + 0)).toInt % 256 := by rw [mw_a, xe1]
    have y64 : (64 : Int64).toInt = 64 := rfl
    have z64 : (64 : Int32).toInt = 64 := rfl
    have z0 : (0 : Int32).toInt = 0 := rfl
    have ov : 64 < ((sd X ρ (.elem (.arg 64353) (.add (.arg 60064) (.int 1)))).2 &&& 255).toInt := by omega
    exact t_mmln1o hv ρ k1 ⟨hF.1, fcn (decide_eq_true (show ρ.1 60000 = 1 from hg.trans hV)) (fcn (decide_eq_false z1) (fcn (di_lf (x := ((sd X ρ (.elem (.arg 64353) (.add (.arg 60064) (.int 1)))).2 &&& 255).toInt32) (y := 0) (by rw [z0]; omega)) (fcn (di_lt (x := 64) (y := ((sd X ρ (.elem (.arg 64353) (.add (.arg 60064) (.int 1)))).2 &&& 255).toInt32) (by rw [z64]; omega)) (hF.2))))⟩ hI k4
  · have hV : vv = 2 := Int32.toInt_inj.mp h
    rw [h] at hc
    have hc : (100925506 : Int) = amcode (ρ.2.2.2.1 64353) (ρ.1 60064).toInt.toNat 2 := hc
    obtain ⟨nz, su⟩ := am_lo hc.symm
    have z1 : ¬ (sd X ρ (.elem (.arg 64353) (.add (.arg 60064) (.int 1)))).2 = 0 := by rw [xe1]; exact fun q => nz 0 (by decide) (congrArg Int64.toInt q)
    have z2 : ¬ (sd X ρ (.elem (.arg 64353) (.add (.arg 60064) (.int 2)))).2 = 0 := by rw [xe2]; exact fun q => nz 1 (by decide) (congrArg Int64.toInt q)
    have su : ¬ (ρ.2.2.2.1 64353 ((ρ.1 60064).toInt.toNat + 1 + 0)).toInt % 256 + (ρ.2.2.2.1 64353 ((ρ.1 60064).toInt.toNat + 1 + 1)).toInt % 256 ≤ 64 := by
      have e : ((List.range 2).map (fun i => ((ρ.2.2.2.1 64353) ((ρ.1 60064).toInt.toNat + 1 + i)).toInt % 256)).sum = (ρ.2.2.2.1 64353 ((ρ.1 60064).toInt.toNat + 1 + 0)).toInt % 256 + (ρ.2.2.2.1 64353 ((ρ.1 60064).toInt.toNat + 1 + 1)).toInt % 256 := by
        show (([0, 1] : List Nat).map _).sum = _
        simp only [List.map_cons, List.map_nil, List.sum_cons, List.sum_nil]
        omega
      rw [e] at su
      exact su
    obtain ⟨l1, u1, j1⟩ := mb_r (y := (sd X ρ (.elem (.arg 64353) (.add (.arg 60064) (.int 1)))).2)
    have w1 : ((sd X ρ (.elem (.arg 64353) (.add (.arg 60064) (.int 1)))).2 &&& 255).toInt = (ρ.2.2.2.1 64353 ((ρ.1 60064).toInt.toNat + 1 + 0)).toInt % 256 := by rw [mw_a, xe1]
    obtain ⟨l2, u2, j2⟩ := mb_r (y := (sd X ρ (.elem (.arg 64353) (.add (.arg 60064) (.int 2)))).2)
    have w2 : ((sd X ρ (.elem (.arg 64353) (.add (.arg 60064) (.int 2)))).2 &&& 255).toInt = (ρ.2.2.2.1 64353 ((ρ.1 60064).toInt.toNat + 1 + 1)).toInt % 256 := by rw [mw_a, xe2]
    have y64 : (64 : Int64).toInt = 64 := rfl
    have z64 : (64 : Int32).toInt = 64 := rfl
    have z0 : (0 : Int32).toInt = 0 := rfl
    have c2 : (((sd X ρ (.elem (.arg 64353) (.add (.arg 60064) (.int 1)))).2 &&& 255).toInt32 + ((sd X ρ (.elem (.arg 64353) (.add (.arg 60064) (.int 2)))).2 &&& 255).toInt32).toInt = ((sd X ρ (.elem (.arg 64353) (.add (.arg 60064) (.int 1)))).2 &&& 255).toInt + ((sd X ρ (.elem (.arg 64353) (.add (.arg 60064) (.int 2)))).2 &&& 255).toInt := (s_add (by omega) (by omega)).trans (by omega)
    have ov : 64 < ((sd X ρ (.elem (.arg 64353) (.add (.arg 60064) (.int 1)))).2 &&& 255).toInt + ((sd X ρ (.elem (.arg 64353) (.add (.arg 60064) (.int 2)))).2 &&& 255).toInt := by omega
    exact t_mmln2o hv ρ k1 ⟨hF.1, fcn (decide_eq_true (show ρ.1 60000 = 2 from hg.trans hV)) (fcn (decide_eq_false z1) (fcn (decide_eq_false z2) (fcn (di_lf (x := (((sd X ρ (.elem (.arg 64353) (.add (.arg 60064) (.int 1)))).2 &&& 255).toInt32 + ((sd X ρ (.elem (.arg 64353) (.add (.arg 60064) (.int 2)))).2 &&& 255).toInt32)) (y := 0) (by rw [z0]; omega)) (fcn (di_lt (x := 64) (y := (((sd X ρ (.elem (.arg 64353) (.add (.arg 60064) (.int 1)))).2 &&& 255).toInt32 + ((sd X ρ (.elem (.arg 64353) (.add (.arg 60064) (.int 2)))).2 &&& 255).toInt32)) (by rw [z64]; omega)) (hF.2)))))⟩ hI k4
  · have hV : vv = 3 := Int32.toInt_inj.mp h
    rw [h] at hc
    have hc : (100925506 : Int) = amcode (ρ.2.2.2.1 64353) (ρ.1 60064).toInt.toNat 3 := hc
    obtain ⟨nz, su⟩ := am_lo hc.symm
    have z1 : ¬ (sd X ρ (.elem (.arg 64353) (.add (.arg 60064) (.int 1)))).2 = 0 := by rw [xe1]; exact fun q => nz 0 (by decide) (congrArg Int64.toInt q)
    have z2 : ¬ (sd X ρ (.elem (.arg 64353) (.add (.arg 60064) (.int 2)))).2 = 0 := by rw [xe2]; exact fun q => nz 1 (by decide) (congrArg Int64.toInt q)
    have z3 : ¬ (sd X ρ (.elem (.arg 64353) (.add (.arg 60064) (.int 3)))).2 = 0 := by rw [xe3]; exact fun q => nz 2 (by decide) (congrArg Int64.toInt q)
    have su : ¬ (ρ.2.2.2.1 64353 ((ρ.1 60064).toInt.toNat + 1 + 0)).toInt % 256 + (ρ.2.2.2.1 64353 ((ρ.1 60064).toInt.toNat + 1 + 1)).toInt % 256 + (ρ.2.2.2.1 64353 ((ρ.1 60064).toInt.toNat + 1 + 2)).toInt % 256 ≤ 64 := by
      have e : ((List.range 3).map (fun i => ((ρ.2.2.2.1 64353) ((ρ.1 60064).toInt.toNat + 1 + i)).toInt % 256)).sum = (ρ.2.2.2.1 64353 ((ρ.1 60064).toInt.toNat + 1 + 0)).toInt % 256 + (ρ.2.2.2.1 64353 ((ρ.1 60064).toInt.toNat + 1 + 1)).toInt % 256 + (ρ.2.2.2.1 64353 ((ρ.1 60064).toInt.toNat + 1 + 2)).toInt % 256 := by
        show (([0, 1, 2] : List Nat).map _).sum = _
        simp only [List.map_cons, List.map_nil, List.sum_cons, List.sum_nil]
        omega
      rw [e] at su
      exact su
    obtain ⟨l1, u1, j1⟩ := mb_r (y := (sd X ρ (.elem (.arg 64353) (.add (.arg 60064) (.int 1)))).2)
    have w1 : ((sd X ρ (.elem (.arg 64353) (.add (.arg 60064) (.int 1)))).2 &&& 255).toInt = (ρ.2.2.2.1 64353 ((ρ.1 60064).toInt.toNat + 1 + 0)).toInt % 256 := by rw [mw_a, xe1]
    obtain ⟨l2, u2, j2⟩ := mb_r (y := (sd X ρ (.elem (.arg 64353) (.add (.arg 60064) (.int 2)))).2)
    have w2 : ((sd X ρ (.elem (.arg 64353) (.add (.arg 60064) (.int 2)))).2 &&& 255).toInt = (ρ.2.2.2.1 64353 ((ρ.1 60064).toInt.toNat + 1 + 1)).toInt % 256 := by rw [mw_a, xe2]
    obtain ⟨l3, u3, j3⟩ := mb_r (y := (sd X ρ (.elem (.arg 64353) (.add (.arg 60064) (.int 3)))).2)
    have w3 : ((sd X ρ (.elem (.arg 64353) (.add (.arg 60064) (.int 3)))).2 &&& 255).toInt = (ρ.2.2.2.1 64353 ((ρ.1 60064).toInt.toNat + 1 + 2)).toInt % 256 := by rw [mw_a, xe3]
    have y64 : (64 : Int64).toInt = 64 := rfl
    have z64 : (64 : Int32).toInt = 64 := rfl
    have z0 : (0 : Int32).toInt = 0 := rfl
    have c2 : (((sd X ρ (.elem (.arg 64353) (.add (.arg 60064) (.int 1)))).2 &&& 255).toInt32 + ((sd X ρ (.elem (.arg 64353) (.add (.arg 60064) (.int 2)))).2 &&& 255).toInt32).toInt = ((sd X ρ (.elem (.arg 64353) (.add (.arg 60064) (.int 1)))).2 &&& 255).toInt + ((sd X ρ (.elem (.arg 64353) (.add (.arg 60064) (.int 2)))).2 &&& 255).toInt := (s_add (by omega) (by omega)).trans (by omega)
    have c3 : ((((sd X ρ (.elem (.arg 64353) (.add (.arg 60064) (.int 1)))).2 &&& 255).toInt32 + ((sd X ρ (.elem (.arg 64353) (.add (.arg 60064) (.int 2)))).2 &&& 255).toInt32) + ((sd X ρ (.elem (.arg 64353) (.add (.arg 60064) (.int 3)))).2 &&& 255).toInt32).toInt = ((sd X ρ (.elem (.arg 64353) (.add (.arg 60064) (.int 1)))).2 &&& 255).toInt + ((sd X ρ (.elem (.arg 64353) (.add (.arg 60064) (.int 2)))).2 &&& 255).toInt + ((sd X ρ (.elem (.arg 64353) (.add (.arg 60064) (.int 3)))).2 &&& 255).toInt := (s_add (by omega) (by omega)).trans (by omega)
    have ov : 64 < ((sd X ρ (.elem (.arg 64353) (.add (.arg 60064) (.int 1)))).2 &&& 255).toInt + ((sd X ρ (.elem (.arg 64353) (.add (.arg 60064) (.int 2)))).2 &&& 255).toInt + ((sd X ρ (.elem (.arg 64353) (.add (.arg 60064) (.int 3)))).2 &&& 255).toInt := by omega
    exact t_mmln3o hv ρ k1 ⟨hF.1, fcn (decide_eq_true (show ρ.1 60000 = 3 from hg.trans hV)) (fcn (decide_eq_false z1) (fcn (decide_eq_false z2) (fcn (decide_eq_false z3) (fcn (di_lf (x := ((((sd X ρ (.elem (.arg 64353) (.add (.arg 60064) (.int 1)))).2 &&& 255).toInt32 + ((sd X ρ (.elem (.arg 64353) (.add (.arg 60064) (.int 2)))).2 &&& 255).toInt32) + ((sd X ρ (.elem (.arg 64353) (.add (.arg 60064) (.int 3)))).2 &&& 255).toInt32)) (y := 0) (by rw [z0]; omega)) (fcn (di_lt (x := 64) (y := ((((sd X ρ (.elem (.arg 64353) (.add (.arg 60064) (.int 1)))).2 &&& 255).toInt32 + ((sd X ρ (.elem (.arg 64353) (.add (.arg 60064) (.int 2)))).2 &&& 255).toInt32) + ((sd X ρ (.elem (.arg 64353) (.add (.arg 60064) (.int 3)))).2 &&& 255).toInt32)) (by rw [z64]; omega)) (hF.2))))))⟩ hI k4
  · have hV : vv = 4 := Int32.toInt_inj.mp h
    rw [h] at hc
    have hc : (100925506 : Int) = amcode (ρ.2.2.2.1 64353) (ρ.1 60064).toInt.toNat 4 := hc
    obtain ⟨nz, su⟩ := am_lo hc.symm
    have z1 : ¬ (sd X ρ (.elem (.arg 64353) (.add (.arg 60064) (.int 1)))).2 = 0 := by rw [xe1]; exact fun q => nz 0 (by decide) (congrArg Int64.toInt q)
    have z2 : ¬ (sd X ρ (.elem (.arg 64353) (.add (.arg 60064) (.int 2)))).2 = 0 := by rw [xe2]; exact fun q => nz 1 (by decide) (congrArg Int64.toInt q)
    have z3 : ¬ (sd X ρ (.elem (.arg 64353) (.add (.arg 60064) (.int 3)))).2 = 0 := by rw [xe3]; exact fun q => nz 2 (by decide) (congrArg Int64.toInt q)
    have z4 : ¬ (sd X ρ (.elem (.arg 64353) (.add (.arg 60064) (.int 4)))).2 = 0 := by rw [xe4]; exact fun q => nz 3 (by decide) (congrArg Int64.toInt q)
    have su : ¬ (ρ.2.2.2.1 64353 ((ρ.1 60064).toInt.toNat + 1 + 0)).toInt % 256 + (ρ.2.2.2.1 64353 ((ρ.1 60064).toInt.toNat + 1 + 1)).toInt % 256 + (ρ.2.2.2.1 64353 ((ρ.1 60064).toInt.toNat + 1 + 2)).toInt % 256 + (ρ.2.2.2.1 64353 ((ρ.1 60064).toInt.toNat + 1 + 3)).toInt % 256 ≤ 64 := by
      have e : ((List.range 4).map (fun i => ((ρ.2.2.2.1 64353) ((ρ.1 60064).toInt.toNat + 1 + i)).toInt % 256)).sum = (ρ.2.2.2.1 64353 ((ρ.1 60064).toInt.toNat + 1 + 0)).toInt % 256 + (ρ.2.2.2.1 64353 ((ρ.1 60064).toInt.toNat + 1 + 1)).toInt % 256 + (ρ.2.2.2.1 64353 ((ρ.1 60064).toInt.toNat + 1 + 2)).toInt % 256 + (ρ.2.2.2.1 64353 ((ρ.1 60064).toInt.toNat + 1 + 3)).toInt % 256 := by
        show (([0, 1, 2, 3] : List Nat).map _).sum = _
        simp only [List.map_cons, List.map_nil, List.sum_cons, List.sum_nil]
        omega
      rw [e] at su
      exact su
    obtain ⟨l1, u1, j1⟩ := mb_r (y := (sd X ρ (.elem (.arg 64353) (.add (.arg 60064) (.int 1)))).2)
    have w1 : ((sd X ρ (.elem (.arg 64353) (.add (.arg 60064) (.int 1)))).2 &&& 255).toInt = (ρ.2.2.2.1 64353 ((ρ.1 60064).toInt.toNat + 1 + 0)).toInt % 256 := by rw [mw_a, xe1]
    obtain ⟨l2, u2, j2⟩ := mb_r (y := (sd X ρ (.elem (.arg 64353) (.add (.arg 60064) (.int 2)))).2)
    have w2 : ((sd X ρ (.elem (.arg 64353) (.add (.arg 60064) (.int 2)))).2 &&& 255).toInt = (ρ.2.2.2.1 64353 ((ρ.1 60064).toInt.toNat + 1 + 1)).toInt % 256 := by rw [mw_a, xe2]
    obtain ⟨l3, u3, j3⟩ := mb_r (y := (sd X ρ (.elem (.arg 64353) (.add (.arg 60064) (.int 3)))).2)
    have w3 : ((sd X ρ (.elem (.arg 64353) (.add (.arg 60064) (.int 3)))).2 &&& 255).toInt = (ρ.2.2.2.1 64353 ((ρ.1 60064).toInt.toNat + 1 + 2)).toInt % 256 := by rw [mw_a, xe3]
    obtain ⟨l4, u4, j4⟩ := mb_r (y := (sd X ρ (.elem (.arg 64353) (.add (.arg 60064) (.int 4)))).2)
    have w4 : ((sd X ρ (.elem (.arg 64353) (.add (.arg 60064) (.int 4)))).2 &&& 255).toInt = (ρ.2.2.2.1 64353 ((ρ.1 60064).toInt.toNat + 1 + 3)).toInt % 256 := by rw [mw_a, xe4]
    have y64 : (64 : Int64).toInt = 64 := rfl
    have z64 : (64 : Int32).toInt = 64 := rfl
    have z0 : (0 : Int32).toInt = 0 := rfl
    have c2 : (((sd X ρ (.elem (.arg 64353) (.add (.arg 60064) (.int 1)))).2 &&& 255).toInt32 + ((sd X ρ (.elem (.arg 64353) (.add (.arg 60064) (.int 2)))).2 &&& 255).toInt32).toInt = ((sd X ρ (.elem (.arg 64353) (.add (.arg 60064) (.int 1)))).2 &&& 255).toInt + ((sd X ρ (.elem (.arg 64353) (.add (.arg 60064) (.int 2)))).2 &&& 255).toInt := (s_add (by omega) (by omega)).trans (by omega)
    have c3 : ((((sd X ρ (.elem (.arg 64353) (.add (.arg 60064) (.int 1)))).2 &&& 255).toInt32 + ((sd X ρ (.elem (.arg 64353) (.add (.arg 60064) (.int 2)))).2 &&& 255).toInt32) + ((sd X ρ (.elem (.arg 64353) (.add (.arg 60064) (.int 3)))).2 &&& 255).toInt32).toInt = ((sd X ρ (.elem (.arg 64353) (.add (.arg 60064) (.int 1)))).2 &&& 255).toInt + ((sd X ρ (.elem (.arg 64353) (.add (.arg 60064) (.int 2)))).2 &&& 255).toInt + ((sd X ρ (.elem (.arg 64353) (.add (.arg 60064) (.int 3)))).2 &&& 255).toInt := (s_add (by omega) (by omega)).trans (by omega)
    have c4 : (((((sd X ρ (.elem (.arg 64353) (.add (.arg 60064) (.int 1)))).2 &&& 255).toInt32 + ((sd X ρ (.elem (.arg 64353) (.add (.arg 60064) (.int 2)))).2 &&& 255).toInt32) + ((sd X ρ (.elem (.arg 64353) (.add (.arg 60064) (.int 3)))).2 &&& 255).toInt32) + ((sd X ρ (.elem (.arg 64353) (.add (.arg 60064) (.int 4)))).2 &&& 255).toInt32).toInt = ((sd X ρ (.elem (.arg 64353) (.add (.arg 60064) (.int 1)))).2 &&& 255).toInt + ((sd X ρ (.elem (.arg 64353) (.add (.arg 60064) (.int 2)))).2 &&& 255).toInt + ((sd X ρ (.elem (.arg 64353) (.add (.arg 60064) (.int 3)))).2 &&& 255).toInt + ((sd X ρ (.elem (.arg 64353) (.add (.arg 60064) (.int 4)))).2 &&& 255).toInt := (s_add (by omega) (by omega)).trans (by omega)
    have ov : 64 < ((sd X ρ (.elem (.arg 64353) (.add (.arg 60064) (.int 1)))).2 &&& 255).toInt + ((sd X ρ (.elem (.arg 64353) (.add (.arg 60064) (.int 2)))).2 &&& 255).toInt + ((sd X ρ (.elem (.arg 64353) (.add (.arg 60064) (.int 3)))).2 &&& 255).toInt + ((sd X ρ (.elem (.arg 64353) (.add (.arg 60064) (.int 4)))).2 &&& 255).toInt := by omega
    exact t_mmln4o hv ρ k1 ⟨hF.1, fcn (decide_eq_true (show ρ.1 60000 = 4 from hg.trans hV)) (fcn (decide_eq_false z1) (fcn (decide_eq_false z2) (fcn (decide_eq_false z3) (fcn (decide_eq_false z4) (fcn (di_lf (x := (((((sd X ρ (.elem (.arg 64353) (.add (.arg 60064) (.int 1)))).2 &&& 255).toInt32 + ((sd X ρ (.elem (.arg 64353) (.add (.arg 60064) (.int 2)))).2 &&& 255).toInt32) + ((sd X ρ (.elem (.arg 64353) (.add (.arg 60064) (.int 3)))).2 &&& 255).toInt32) + ((sd X ρ (.elem (.arg 64353) (.add (.arg 60064) (.int 4)))).2 &&& 255).toInt32)) (y := 0) (by rw [z0]; omega)) (fcn (di_lt (x := 64) (y := (((((sd X ρ (.elem (.arg 64353) (.add (.arg 60064) (.int 1)))).2 &&& 255).toInt32 + ((sd X ρ (.elem (.arg 64353) (.add (.arg 60064) (.int 2)))).2 &&& 255).toInt32) + ((sd X ρ (.elem (.arg 64353) (.add (.arg 60064) (.int 3)))).2 &&& 255).toInt32) + ((sd X ρ (.elem (.arg 64353) (.add (.arg 60064) (.int 4)))).2 &&& 255).toInt32)) (by rw [z64]; omega)) (hF.2)))))))⟩ hI k4
theorem s_mml {X : pX} : SREL X pF pdfl mt_all kR zWB c_mml := SREL_enter (d := 5) (q := q_mml) rfl c_mml_f (fun ρ0 hv => t_mml hv) rfl rfl rfl rfl
