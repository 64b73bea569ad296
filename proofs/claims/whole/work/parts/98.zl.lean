set_option maxRecDepth 20000
theorem s9_i {X : pX} {ρ : sR} {a t : sT} {k : Int32} (ha : sk a = 0) (ht : sk t = 0) (h : (sd X ρ t).1.toInt = aslot (sd X ρ a).1.toInt k.toInt) : sc X ρ (109, .add a (.int k), t) = true := by
  have e1 : sn X ρ t = (sd X ρ t).1.toInt := by unfold sn; rw [if_neg (by rw [ht]; decide)]
  show decide (sn X ρ t = aslot (if sk a = 1 then (sd X ρ a).2.toInt else (sd X ρ a).1.toInt) k.toInt) = true
  rw [e1, if_neg (by rw [ha]; decide)]
  exact decide_eq_true h
theorem bi_9 : (List.range 4).all (fun k => (List.range 5).all (fun s => decide (aslot (5632 + (k : Int)) (s : Int) = 50 + 5 * (k : Int) + (s : Int)))) = true := by decide +kernel
/-! ===== the bits of a map (out), the model alone ===== -/
noncomputable def c_bto0 : sC := ((425, 308, 6), ([.long 0], [tr 219, .arg 1308, .arg 60000]), ([], [219, 229, 228, 220, 221]), [((2, .arg 60000, .int 6656), false), ((2, .int 6659, .arg 60000), false), ((2, .arg 60000, .int 0), false), ((2, .int 65535, .arg 60000), false), ((101, .elem (.arg 1761) (.int 0), .int 0), true), ((143, .add (.elem (.arg 1761) (.int 0)) (.sub (.mul (.arg 60000) (.int 5)) (.int 33190)), .arg 60032), true)], ([60064, 60160, 60192], []), (some (.long 0), some (.arg 60064)), [((0, .arg 60064, .arg 60032), true)], ([], []))
theorem c_bto0_f : cfine zWP 65536 c_bto0 = true := by decide +kernel
noncomputable def zf98zl_0 : sQ × Bool := ((2, .arg 60000, .int 6656), false)
noncomputable def zf98zl_1 : sQ × Bool := ((2, .int 6659, .arg 60000), false)
noncomputable def zf98zl_2 : sQ × Bool := ((2, .arg 60000, .int 0), false)
noncomputable def zf98zl_3 : sQ × Bool := ((2, .int 65535, .arg 60000), false)
noncomputable def zf98zl_4 : sQ × Bool := ((101, .elem (.arg 1761) (.int 0), .int 0), true)
noncomputable def zf98zl_5 : sQ × Bool := ((143, .add (.elem (.arg 1761) (.int 0)) (.sub (.mul (.arg 60000) (.int 5)) (.int 33190)), .arg 60032), true)
noncomputable def q_bto : sCut := ((fr 0 425 0 [(0, .long 0)] [], [fBot], 5), (fr 0 308 0 [(0, tr 219), (1, .arg 1308), (2, .arg 60000)] [], [fBot], 5), [zf98zl_0, zf98zl_1, zf98zl_2, zf98zl_3, zf98zl_4, zf98zl_5], [])
noncomputable def zf98zl_6 : sQ × Bool := ((0, .int 0, .arg 60032), true)
noncomputable def zf98zl_7 : sQ × Bool := ((109, .add (.arg 60000) (.int 0), .add (.mul (.arg 60000) (.int 5)) (.int (-33190))), true)
noncomputable def q_bton0 : sCut := ((fr 0 425 0 [(0, .long 0)] [], [fBot], 5), (fr 0 308 0 [(0, tr 219), (1, .arg 1308), (2, .arg 60000)] [], [fBot], 5), [((0, .op1 .l2i (.elem (.arg 1761) (.add (.mul (.arg 60000) (.int 5)) (.int (-33190)))), .int 0), true), zf98zl_6, zf98zl_7, zf98zl_0, zf98zl_1, zf98zl_2, zf98zl_3, zf98zl_4, zf98zl_5], [])
theorem k_bton0 : cbody kR [(zWP, c_fndl)] (cpl1 zWP c_bto0 []) (cpl2 zWP c_bto0 []) (cleaf kR zWP c_bto0 []) 300 true true q_bton0.2.2.1 q_bton0.2.2.2 (cst zWP c_bto0.2.2.1.1 q_bton0.1) (cst zWP c_bto0.2.2.1.2 q_bton0.2.1) = true := by decide +kernel
theorem t_bton0 {X : pX} {ρ0 : sR} (hv : vok X ρ0) : CUTOK X kR zWP c_bto0 5 ρ0 q_bton0 := CUT_run kR_x kR_0 (Cs := [(zWP, c_fndl)]) (fun C hC => by rw [List.mem_singleton.mp hC]; exact s_fndl) c_bto0_f (Q := []) hv (fun q hq => by cases hq) 300 (b1 := true) (b2 := true) k_bton0
noncomputable def zf98zl_8 : sQ × Bool := ((6, .elem (.arg 1761) (.add (.mul (.arg 60000) (.int 5)) (.int (-33189))), .long 0), false)
noncomputable def zf98zl_9 : sQ × Bool := ((109, .add (.arg 60000) (.int 1), .add (.mul (.arg 60000) (.int 5)) (.int (-33189))), true)
noncomputable def q_bton1 : sCut := ((fr 0 425 0 [(0, .long 0)] [], [fBot], 5), (fr 0 308 0 [(0, tr 219), (1, .arg 1308), (2, .arg 60000)] [], [fBot], 5), [((0, .op1 .l2i (.elem (.arg 1761) (.add (.mul (.arg 60000) (.int 5)) (.int (-33190)))), .int 1), true), ((0, .op1 .l2i (.op2 .land (.elem (.arg 1761) (.add (.mul (.arg 60000) (.int 5)) (.int (-33189)))) (.long 255)), .arg 60032), true), zf98zl_8, zf98zl_7, zf98zl_9, zf98zl_0, zf98zl_1, zf98zl_2, zf98zl_3, zf98zl_4, zf98zl_5], [])
theorem k_bton1 : cbody kR [(zWP, c_fndl)] (cpl1 zWP c_bto0 []) (cpl2 zWP c_bto0 []) (cleaf kR zWP c_bto0 []) 300 true true q_bton1.2.2.1 q_bton1.2.2.2 (cst zWP c_bto0.2.2.1.1 q_bton1.1) (cst zWP c_bto0.2.2.1.2 q_bton1.2.1) = true := by decide +kernel
theorem t_bton1 {X : pX} {ρ0 : sR} (hv : vok X ρ0) : CUTOK X kR zWP c_bto0 5 ρ0 q_bton1 := CUT_run kR_x kR_0 (Cs := [(zWP, c_fndl)]) (fun C hC => by rw [List.mem_singleton.mp hC]; exact s_fndl) c_bto0_f (Q := []) hv (fun q hq => by cases hq) 300 (b1 := true) (b2 := true) k_bton1
noncomputable def zf98zl_10 : sQ × Bool := ((6, .elem (.arg 1761) (.add (.mul (.arg 60000) (.int 5)) (.int (-33188))), .long 0), false)
noncomputable def zf98zl_11 : sQ × Bool := ((109, .add (.arg 60000) (.int 2), .add (.mul (.arg 60000) (.int 5)) (.int (-33188))), true)
noncomputable def q_bton2 : sCut := ((fr 0 425 0 [(0, .long 0)] [], [fBot], 5), (fr 0 308 0 [(0, tr 219), (1, .arg 1308), (2, .arg 60000)] [], [fBot], 5), [((0, .op1 .l2i (.elem (.arg 1761) (.add (.mul (.arg 60000) (.int 5)) (.int (-33190)))), .int 2), true), ((0, .add (.op1 .l2i (.op2 .land (.elem (.arg 1761) (.add (.mul (.arg 60000) (.int 5)) (.int (-33189)))) (.long 255))) (.op1 .l2i (.op2 .land (.elem (.arg 1761) (.add (.mul (.arg 60000) (.int 5)) (.int (-33188)))) (.long 255))), .arg 60032), true), zf98zl_8, zf98zl_10, zf98zl_7, zf98zl_9, zf98zl_11, zf98zl_0, zf98zl_1, zf98zl_2, zf98zl_3, zf98zl_4, zf98zl_5], [])
theorem k_bton2 : cbody kR [(zWP, c_fndl)] (cpl1 zWP c_bto0 []) (cpl2 zWP c_bto0 []) (cleaf kR zWP c_bto0 []) 300 true true q_bton2.2.2.1 q_bton2.2.2.2 (cst zWP c_bto0.2.2.1.1 q_bton2.1) (cst zWP c_bto0.2.2.1.2 q_bton2.2.1) = true := by decide +kernel
theorem t_bton2 {X : pX} {ρ0 : sR} (hv : vok X ρ0) : CUTOK X kR zWP c_bto0 5 ρ0 q_bton2 := CUT_run kR_x kR_0 (Cs := [(zWP, c_fndl)]) (fun C hC => by rw [List.mem_singleton.mp hC]; exact s_fndl) c_bto0_f (Q := []) hv (fun q hq => by cases hq) 300 (b1 := true) (b2 := true) k_bton2
noncomputable def zf98zl_12 : sQ × Bool := ((6, .elem (.arg 1761) (.add (.mul (.arg 60000) (.int 5)) (.int (-33187))), .long 0), false)
noncomputable def zf98zl_13 : sQ × Bool := ((109, .add (.arg 60000) (.int 3), .add (.mul (.arg 60000) (.int 5)) (.int (-33187))), true)
noncomputable def q_bton3 : sCut := ((fr 0 425 0 [(0, .long 0)] [], [fBot], 5), (fr 0 308 0 [(0, tr 219), (1, .arg 1308), (2, .arg 60000)] [], [fBot], 5), [((0, .op1 .l2i (.elem (.arg 1761) (.add (.mul (.arg 60000) (.int 5)) (.int (-33190)))), .int 3), true), ((0, .add (.add (.op1 .l2i (.op2 .land (.elem (.arg 1761) (.add (.mul (.arg 60000) (.int 5)) (.int (-33189)))) (.long 255))) (.op1 .l2i (.op2 .land (.elem (.arg 1761) (.add (.mul (.arg 60000) (.int 5)) (.int (-33188)))) (.long 255)))) (.op1 .l2i (.op2 .land (.elem (.arg 1761) (.add (.mul (.arg 60000) (.int 5)) (.int (-33187)))) (.long 255))), .arg 60032), true), zf98zl_8, zf98zl_10, zf98zl_12, zf98zl_7, zf98zl_9, zf98zl_11, zf98zl_13, zf98zl_0, zf98zl_1, zf98zl_2, zf98zl_3, zf98zl_4, zf98zl_5], [])
theorem k_bton3 : cbody kR [(zWP, c_fndl)] (cpl1 zWP c_bto0 []) (cpl2 zWP c_bto0 []) (cleaf kR zWP c_bto0 []) 300 true true q_bton3.2.2.1 q_bton3.2.2.2 (cst zWP c_bto0.2.2.1.1 q_bton3.1) (cst zWP c_bto0.2.2.1.2 q_bton3.2.1) = true := by decide +kernel
theorem t_bton3 {X : pX} {ρ0 : sR} (hv : vok X ρ0) : CUTOK X kR zWP c_bto0 5 ρ0 q_bton3 := CUT_run kR_x kR_0 (Cs := [(zWP, c_fndl)]) (fun C hC => by rw [List.mem_singleton.mp hC]; exact s_fndl) c_bto0_f (Q := []) hv (fun q hq => by cases hq) 300 (b1 := true) (b2 := true) k_bton3
noncomputable def q_bton4 : sCut := ((fr 0 425 0 [(0, .long 0)] [], [fBot], 5), (fr 0 308 0 [(0, tr 219), (1, .arg 1308), (2, .arg 60000)] [], [fBot], 5), [((0, .op1 .l2i (.elem (.arg 1761) (.add (.mul (.arg 60000) (.int 5)) (.int (-33190)))), .int 4), true), ((0, .add (.add (.add (.op1 .l2i (.op2 .land (.elem (.arg 1761) (.add (.mul (.arg 60000) (.int 5)) (.int (-33189)))) (.long 255))) (.op1 .l2i (.op2 .land (.elem (.arg 1761) (.add (.mul (.arg 60000) (.int 5)) (.int (-33188)))) (.long 255)))) (.op1 .l2i (.op2 .land (.elem (.arg 1761) (.add (.mul (.arg 60000) (.int 5)) (.int (-33187)))) (.long 255)))) (.op1 .l2i (.op2 .land (.elem (.arg 1761) (.add (.mul (.arg 60000) (.int 5)) (.int (-33186)))) (.long 255))), .arg 60032), true), zf98zl_8, zf98zl_10, zf98zl_12, ((6, .elem (.arg 1761) (.add (.mul (.arg 60000) (.int 5)) (.int (-33186))), .long 0), false), zf98zl_7, zf98zl_9, zf98zl_11, zf98zl_13, ((109, .add (.arg 60000) (.int 4), .add (.mul (.arg 60000) (.int 5)) (.int (-33186))), true), zf98zl_0, zf98zl_1, zf98zl_2, zf98zl_3, zf98zl_4, zf98zl_5], [])
theorem k_bton4 : cbody kR [(zWP, c_fndl)] (cpl1 zWP c_bto0 []) (cpl2 zWP c_bto0 []) (cleaf kR zWP c_bto0 []) 300 true true q_bton4.2.2.1 q_bton4.2.2.2 (cst zWP c_bto0.2.2.1.1 q_bton4.1) (cst zWP c_bto0.2.2.1.2 q_bton4.2.1) = true := by decide +kernel
theorem t_bton4 {X : pX} {ρ0 : sR} (hv : vok X ρ0) : CUTOK X kR zWP c_bto0 5 ρ0 q_bton4 := CUT_run kR_x kR_0 (Cs := [(zWP, c_fndl)]) (fun C hC => by rw [List.mem_singleton.mp hC]; exact s_fndl) c_bto0_f (Q := []) hv (fun q hq => by cases hq) 300 (b1 := true) (b2 := true) k_bton4
theorem t_bto {X : pX} {ρ0 : sR} (hv : vok X ρ0) : CUTOK X kR zWP c_bto0 5 ρ0 q_bto := fun ρ k1 hF hI k4 => by
  have i0 : (6656 : Int) ≤ (ρ.1 60000).toInt := ri_lf (x := ρ.1 60000) (y := 6656) (hF.2 _ (List.mem_cons_self))
  have i3 : (ρ.1 60000).toInt ≤ 6659 := ri_lf (x := 6659) (y := ρ.1 60000) (hF.2 _ (List.mem_cons_of_mem _ (List.mem_cons_self)))
  have em : (ρ.1 60000 * 5 - 33190).toInt = (ρ.1 60000).toInt * 5 - 33190 := i_of (i_sb (i_ml (i_s _) (show (5 : Int32) = Int32.ofInt 5 from rfl)) (show (33190 : Int32) = Int32.ofInt 33190 from rfl)) (by omega) (by omega)
  obtain ⟨k, hk⟩ : ∃ k : Nat, (ρ.1 60000).toInt = 6656 + k ∧ k < 4 := ⟨((ρ.1 60000).toInt - 6656).toNat, by omega, by omega⟩
  obtain ⟨hk, hk4⟩ := hk
  have mm : (ρ.1 60000 * 5 - 33190).toInt.toNat = 90 + 5 * k := by omega
  have hm : 90 + 5 * k ∈ ([50, 55, 60, 65, 90, 95, 100, 105] : List Nat) := by
    simp only [List.mem_cons, List.not_mem_nil, or_false]
    omega
  obtain ⟨c0, c4, c64⟩ := am_64 (g := (ρ.2.2.2.1 1761)) (hF.2 _ (List.mem_cons_of_mem _ (List.mem_cons_of_mem _ (List.mem_cons_of_mem _ (List.mem_cons_of_mem _ (List.mem_cons_self)))))) hm
  have hB : (ρ.1 60032).toInt = amsum (ρ.2.2.2.1 1761) (ρ.1 60000 * 5 - 33190).toInt.toNat := of_decide_eq_true (hF.2 _ (List.mem_cons_of_mem _ (List.mem_cons_of_mem _ (List.mem_cons_of_mem _ (List.mem_cons_of_mem _ (List.mem_cons_of_mem _ (List.mem_cons_self)))))))
  rw [mm] at hB
  have e0 : (ρ.1 60000 * 5 + (-33190)).toInt = ((90 + 5 * k + 0 : Nat) : Int) := (i_of (i_ad (i_ml (i_s _) (show (5 : Int32) = Int32.ofInt 5 from rfl)) (show (-33190 : Int32) = Int32.ofInt (-33190) from rfl)) (by omega) (by omega)).trans (by omega)
  have x0 : (sd X ρ (.elem (.arg 1761) (.add (.mul (.arg 60000) (.int 5)) (.int (-33190))))).2 = ρ.2.2.2.1 1761 (90 + 5 * k + 0) := by
    show ρ.2.2.2.1 1761 (ρ.1 60000 * 5 + (-33190)).toNatClampNeg = _
    rw [s_nat, e0, Int.toNat_natCast]
  have g0 : (ρ.1 60000 * 5 + (-33190)).toInt = aslot (ρ.1 60000).toInt (0 : Int32).toInt := by
    have h9 := of_decide_eq_true (List.all_eq_true.mp (List.all_eq_true.mp bo_9 k (List.mem_range.mpr hk4)) 0 (by decide))
    have z9 : (0 : Int32).toInt = ((0 : Nat) : Int) := rfl
    rw [e0, hk, z9, h9]
    omega
  have f0 : sc X ρ (109, .add (.arg 60000) (.int 0), .add (.mul (.arg 60000) (.int 5)) (.int (-33190))) = true := s9_i rfl rfl g0
  have e1 : (ρ.1 60000 * 5 + (-33189)).toInt = ((90 + 5 * k + 1 : Nat) : Int) := (i_of (i_ad (i_ml (i_s _) (show (5 : Int32) = Int32.ofInt 5 from rfl)) (show (-33189 : Int32) = Int32.ofInt (-33189) from rfl)) (by omega) (by omega)).trans (by omega)
  have x1 : (sd X ρ (.elem (.arg 1761) (.add (.mul (.arg 60000) (.int 5)) (.int (-33189))))).2 = ρ.2.2.2.1 1761 (90 + 5 * k + 1) := by
    show ρ.2.2.2.1 1761 (ρ.1 60000 * 5 + (-33189)).toNatClampNeg = _
    rw [s_nat, e1, Int.toNat_natCast]
  have g1 : (ρ.1 60000 * 5 + (-33189)).toInt = aslot (ρ.1 60000).toInt (1 : Int32).toInt := by
    have h9 := of_decide_eq_true (List.all_eq_true.mp (List.all_eq_true.mp bo_9 k (List.mem_range.mpr hk4)) 1 (by decide))
    have z9 : (1 : Int32).toInt = ((1 : Nat) : Int) := rfl
    rw [e1, hk, z9, h9]
    omega
  have f1 : sc X ρ (109, .add (.arg 60000) (.int 1), .add (.mul (.arg 60000) (.int 5)) (.int (-33189))) = true := s9_i rfl rfl g1
  have e2 : (ρ.1 60000 * 5 + (-33188)).toInt = ((90 + 5 * k + 2 : Nat) : Int) := (i_of (i_ad (i_ml (i_s _) (show (5 : Int32) = Int32.ofInt 5 from rfl)) (show (-33188 : Int32) = Int32.ofInt (-33188) from rfl)) (by omega) (by omega)).trans (by omega)
  have x2 : (sd X ρ (.elem (.arg 1761) (.add (.mul (.arg 60000) (.int 5)) (.int (-33188))))).2 = ρ.2.2.2.1 1761 (90 + 5 * k + 2) := by
    show ρ.2.2.2.1 1761 (ρ.1 60000 * 5 + (-33188)).toNatClampNeg = _
    rw [s_nat, e2, Int.toNat_natCast]
  have g2 : (ρ.1 60000 * 5 + (-33188)).toInt = aslot (ρ.1 60000).toInt (2 : Int32).toInt := by
    have h9 := of_decide_eq_true (List.all_eq_true.mp (List.all_eq_true.mp bo_9 k (List.mem_range.mpr hk4)) 2 (by decide))
    have z9 : (2 : Int32).toInt = ((2 : Nat) : Int) := rfl
    rw [e2, hk, z9, h9]
    omega
  have f2 : sc X ρ (109, .add (.arg 60000) (.int 2), .add (.mul (.arg 60000) (.int 5)) (.int (-33188))) = true := s9_i rfl rfl g2
  have e3 : (ρ.1 60000 * 5 + (-33187)).toInt = ((90 + 5 * k + 3 : Nat) : Int) := (i_of (i_ad (i_ml (i_s _) (show (5 : Int32) = Int32.ofInt 5 from rfl)) (show (-33187 : Int32) = Int32.ofInt (-33187) from rfl)) (by omega) (by omega)).trans (by omega)
  have x3 : (sd X ρ (.elem (.arg 1761) (.add (.mul (.arg 60000) (.int 5)) (.int (-33187))))).2 = ρ.2.2.2.1 1761 (90 + 5 * k + 3) := by
    show ρ.2.2.2.1 1761 (ρ.1 60000 * 5 + (-33187)).toNatClampNeg = _
    rw [s_nat, e3, Int.toNat_natCast]
  have g3 : (ρ.1 60000 * 5 + (-33187)).toInt = aslot (ρ.1 60000).toInt (3 : Int32).toInt := by
    have h9 := of_decide_eq_true (List.all_eq_true.mp (List.all_eq_true.mp bo_9 k (List.mem_range.mpr hk4)) 3 (by decide))
    have z9 : (3 : Int32).toInt = ((3 : Nat) : Int) := rfl
    rw [e3, hk, z9, h9]
    omega
  have f3 : sc X ρ (109, .add (.arg 60000) (.int 3), .add (.mul (.arg 60000) (.int 5)) (.int (-33187))) = true := s9_i rfl rfl g3
  have e4 : (ρ.1 60000 * 5 + (-33186)).toInt = ((90 + 5 * k + 4 : Nat) : Int) := (i_of (i_ad (i_ml (i_s _) (show (5 : Int32) = Int32.ofInt 5 from rfl)) (show (-33186 : Int32) = Int32.ofInt (-33186) from rfl)) (by omega) (by omega)).trans (by omega)
  have x4 : (sd X ρ (.elem (.arg 1761) (.add (.mul (.arg 60000) (.int 5)) (.int (-33186))))).2 = ρ.2.2.2.1 1761 (90 + 5 * k + 4) := by
    show ρ.2.2.2.1 1761 (ρ.1 60000 * 5 + (-33186)).toNatClampNeg = _
    rw [s_nat, e4, Int.toNat_natCast]
  have g4 : (ρ.1 60000 * 5 + (-33186)).toInt = aslot (ρ.1 60000).toInt (4 : Int32).toInt := by
    have h9 := of_decide_eq_true (List.all_eq_true.mp (List.all_eq_true.mp bo_9 k (List.mem_range.mpr hk4)) 4 (by decide))
    have z9 : (4 : Int32).toInt = ((4 : Nat) : Int) := rfl
    rw [e4, hk, z9, h9]
    omega
  have f4 : sc X ρ (109, .add (.arg 60000) (.int 4), .add (.mul (.arg 60000) (.int 5)) (.int (-33186))) = true := s9_i rfl rfl g4
  obtain ⟨l1, u1, j1⟩ := mb_r (y := (sd X ρ (.elem (.arg 1761) (.add (.mul (.arg 60000) (.int 5)) (.int (-33189))))).2)
  have w1 : ((sd X ρ (.elem (.arg 1761) (.add (.mul (.arg 60000) (.int 5)) (.int (-33189))))).2 &&& 255).toInt = (ρ.2.2.2.1 1761 (90 + 5 * k + 1 + 0)).toInt % 256 := by rw [mw_a, x1]
  obtain ⟨l2, u2, j2⟩ := mb_r (y := (sd X ρ (.elem (.arg 1761) (.add (.mul (.arg 60000) (.int 5)) (.int (-33188))))).2)
  have w2 : ((sd X ρ (.elem (.arg 1761) (.add (.mul (.arg 60000) (.int 5)) (.int (-33188))))).2 &&& 255).toInt = (ρ.2.2.2.1 1761 (90 + 5 * k + 1 + 1)).toInt % 256 := by rw [mw_a, x2]
  obtain ⟨l3, u3, j3⟩ := mb_r (y := (sd X ρ (.elem (.arg 1761) (.add (.mul (.arg 60000) (.int 5)) (.int (-33187))))).2)
  have w3 : ((sd X ρ (.elem (.arg 1761) (.add (.mul (.arg 60000) (.int 5)) (.int (-33187))))).2 &&& 255).toInt = (ρ.2.2.2.1 1761 (90 + 5 * k + 1 + 2)).toInt % 256 := by rw [mw_a, x3]
  obtain ⟨l4, u4, j4⟩ := mb_r (y := (sd X ρ (.elem (.arg 1761) (.add (.mul (.arg 60000) (.int 5)) (.int (-33186))))).2)
  have w4 : ((sd X ρ (.elem (.arg 1761) (.add (.mul (.arg 60000) (.int 5)) (.int (-33186))))).2 &&& 255).toInt = (ρ.2.2.2.1 1761 (90 + 5 * k + 1 + 3)).toInt % 256 := by rw [mw_a, x4]
  have eN : (sd X ρ (.op1 .l2i (.elem (.arg 1761) (.add (.mul (.arg 60000) (.int 5)) (.int (-33190)))))).1.toInt = (ρ.2.2.2.1 1761 (90 + 5 * k)).toInt := by
    show (sd X ρ (.elem (.arg 1761) (.add (.mul (.arg 60000) (.int 5)) (.int (-33190))))).2.toInt32.toInt = _
    rw [x0, Nat.add_zero]
    exact mv_l c0 (by omega)
  have hs : amsum (ρ.2.2.2.1 1761) (90 + 5 * k) = mrow (ρ.2.2.2.1 1761) (90 + 5 * k) 0 % 256 + mrow (ρ.2.2.2.1 1761) (90 + 5 * k) 1 % 256 + mrow (ρ.2.2.2.1 1761) (90 + 5 * k) 2 % 256 + mrow (ρ.2.2.2.1 1761) (90 + 5 * k) 3 % 256 := by
    unfold amsum
    show (([0, 1, 2, 3] : List Nat).map _).sum = _
    simp only [List.map_cons, List.map_nil, List.sum_cons, List.sum_nil]
    omega
  rcases (show (ρ.2.2.2.1 1761 (90 + 5 * k)).toInt = 0 ∨ (ρ.2.2.2.1 1761 (90 + 5 * k)).toInt = 1 ∨ (ρ.2.2.2.1 1761 (90 + 5 * k)).toInt = 2 ∨ (ρ.2.2.2.1 1761 (90 + 5 * k)).toInt = 3 ∨ (ρ.2.2.2.1 1761 (90 + 5 * k)).toInt = 4 by omega) with h | h | h | h | h
  · have fN := di_et (x := (sd X ρ (.op1 .l2i (.elem (.arg 1761) (.add (.mul (.arg 60000) (.int 5)) (.int (-33190)))))).1) (y := 0) (by rw [eN, h]; rfl)
    have r0 : mrow (ρ.2.2.2.1 1761) (90 + 5 * k) 0 = 0 := by unfold mrow; rw [if_neg (by omega)]
    have r1 : mrow (ρ.2.2.2.1 1761) (90 + 5 * k) 1 = 0 := by unfold mrow; rw [if_neg (by omega)]
    have r2 : mrow (ρ.2.2.2.1 1761) (90 + 5 * k) 2 = 0 := by unfold mrow; rw [if_neg (by omega)]
    have r3 : mrow (ρ.2.2.2.1 1761) (90 + 5 * k) 3 = 0 := by unfold mrow; rw [if_neg (by omega)]
    rw [r0, r1, r2, r3] at hs
    have fS := di_et (x := 0) (y := ρ.1 60032) (by rw [hB, hs]; rfl)
    exact t_bton0 hv ρ k1 ⟨hF.1, fcn (fN) (fcn (fS) (fcn (f0) (hF.2)))⟩ hI k4
  · have fN := di_et (x := (sd X ρ (.op1 .l2i (.elem (.arg 1761) (.add (.mul (.arg 60000) (.int 5)) (.int (-33190)))))).1) (y := 1) (by rw [eN, h]; rfl)
    have r0 : mrow (ρ.2.2.2.1 1761) (90 + 5 * k) 0 = (ρ.2.2.2.1 1761 (90 + 5 * k + 1 + 0)).toInt := by unfold mrow; rw [if_pos (by omega)]
    have z0 := bo_nz (g := (ρ.2.2.2.1 1761)) (hF.2 _ (List.mem_cons_of_mem _ (List.mem_cons_of_mem _ (List.mem_cons_of_mem _ (List.mem_cons_of_mem _ (List.mem_cons_self)))))) hm (i := 0) (by omega)
    have r1 : mrow (ρ.2.2.2.1 1761) (90 + 5 * k) 1 = 0 := by unfold mrow; rw [if_neg (by omega)]
    have r2 : mrow (ρ.2.2.2.1 1761) (90 + 5 * k) 2 = 0 := by unfold mrow; rw [if_neg (by omega)]
    have r3 : mrow (ρ.2.2.2.1 1761) (90 + 5 * k) 3 = 0 := by unfold mrow; rw [if_neg (by omega)]
    rw [r0, r1, r2, r3] at hs
    have d1 : ((sd X ρ (.elem (.arg 1761) (.add (.mul (.arg 60000) (.int 5)) (.int (-33189))))).2 &&& 255).toInt32.toInt = ((sd X ρ (.elem (.arg 1761) (.add (.mul (.arg 60000) (.int 5)) (.int (-33189))))).2 &&& 255).toInt := j1
    have fS := di_et (x := ((sd X ρ (.elem (.arg 1761) (.add (.mul (.arg 60000) (.int 5)) (.int (-33189))))).2 &&& 255).toInt32) (y := ρ.1 60032) (by rw [hB, hs, d1]; omega)
    exact t_bton1 hv ρ k1 ⟨hF.1, fcn (fN) (fcn (fS) (fcn (dl_ef (x := (sd X ρ (.elem (.arg 1761) (.add (.mul (.arg 60000) (.int 5)) (.int (-33189))))).2) (y := 0) (by rw [x1]; rw [r0] at z0; exact z0)) (fcn (f0) (fcn (f1) (hF.2)))))⟩ hI k4
  · have fN := di_et (x := (sd X ρ (.op1 .l2i (.elem (.arg 1761) (.add (.mul (.arg 60000) (.int 5)) (.int (-33190)))))).1) (y := 2) (by rw [eN, h]; rfl)
    have r0 : mrow (ρ.2.2.2.1 1761) (90 + 5 * k) 0 = (ρ.2.2.2.1 1761 (90 + 5 * k + 1 + 0)).toInt := by unfold mrow; rw [if_pos (by omega)]
    have z0 := bo_nz (g := (ρ.2.2.2.1 1761)) (hF.2 _ (List.mem_cons_of_mem _ (List.mem_cons_of_mem _ (List.mem_cons_of_mem _ (List.mem_cons_of_mem _ (List.mem_cons_self)))))) hm (i := 0) (by omega)
    have r1 : mrow (ρ.2.2.2.1 1761) (90 + 5 * k) 1 = (ρ.2.2.2.1 1761 (90 + 5 * k + 1 + 1)).toInt := by unfold mrow; rw [if_pos (by omega)]
    have z1 := bo_nz (g := (ρ.2.2.2.1 1761)) (hF.2 _ (List.mem_cons_of_mem _ (List.mem_cons_of_mem _ (List.mem_cons_of_mem _ (List.mem_cons_of_mem _ (List.mem_cons_self)))))) hm (i := 1) (by omega)
    have r2 : mrow (ρ.2.2.2.1 1761) (90 + 5 * k) 2 = 0 := by unfold mrow; rw [if_neg (by omega)]
    have r3 : mrow (ρ.2.2.2.1 1761) (90 + 5 * k) 3 = 0 := by unfold mrow; rw [if_neg (by omega)]
    rw [r0, r1, r2, r3] at hs
    have d1 : ((sd X ρ (.elem (.arg 1761) (.add (.mul (.arg 60000) (.int 5)) (.int (-33189))))).2 &&& 255).toInt32.toInt = ((sd X ρ (.elem (.arg 1761) (.add (.mul (.arg 60000) (.int 5)) (.int (-33189))))).2 &&& 255).toInt := j1
    have d2 : (((sd X ρ (.elem (.arg 1761) (.add (.mul (.arg 60000) (.int 5)) (.int (-33189))))).2 &&& 255).toInt32 + ((sd X ρ (.elem (.arg 1761) (.add (.mul (.arg 60000) (.int 5)) (.int (-33188))))).2 &&& 255).toInt32).toInt = ((sd X ρ (.elem (.arg 1761) (.add (.mul (.arg 60000) (.int 5)) (.int (-33189))))).2 &&& 255).toInt + ((sd X ρ (.elem (.arg 1761) (.add (.mul (.arg 60000) (.int 5)) (.int (-33188))))).2 &&& 255).toInt := (s_add (by omega) (by omega)).trans (by omega)
    have fS := di_et (x := (((sd X ρ (.elem (.arg 1761) (.add (.mul (.arg 60000) (.int 5)) (.int (-33189))))).2 &&& 255).toInt32 + ((sd X ρ (.elem (.arg 1761) (.add (.mul (.arg 60000) (.int 5)) (.int (-33188))))).2 &&& 255).toInt32)) (y := ρ.1 60032) (by rw [hB, hs, d2]; omega)
    exact t_bton2 hv ρ k1 ⟨hF.1, fcn (fN) (fcn (fS) (fcn (dl_ef (x := (sd X ρ (.elem (.arg 1761) (.add (.mul (.arg 60000) (.int 5)) (.int (-33189))))).2) (y := 0) (by rw [x1]; rw [r0] at z0; exact z0)) (fcn (dl_ef (x := (sd X ρ (.elem (.arg 1761) (.add (.mul (.arg 60000) (.int 5)) (.int (-33188))))).2) (y := 0) (by rw [x2]; rw [r1] at z1; exact z1)) (fcn (f0) (fcn (f1) (fcn (f2) (hF.2)))))))⟩ hI k4
  · have fN := di_et (x := (sd X ρ (.op1 .l2i (.elem (.arg 1761) (.add (.mul (.arg 60000) (.int 5)) (.int (-33190)))))).1) (y := 3) (by rw [eN, h]; rfl)
    have r0 : mrow (ρ.2.2.2.1 1761) (90 + 5 * k) 0 = (ρ.2.2.2.1 1761 (90 + 5 * k + 1 + 0)).toInt := by unfold mrow; rw [if_pos (by omega)]
    have z0 := bo_nz (g := (ρ.2.2.2.1 1761)) (hF.2 _ (List.mem_cons_of_mem _ (List.mem_cons_of_mem _ (List.mem_cons_of_mem _ (List.mem_cons_of_mem _ (List.mem_cons_self)))))) hm (i := 0) (by omega)
    have r1 : mrow (ρ.2.2.2.1 1761) (90 + 5 * k) 1 = (ρ.2.2.2.1 1761 (90 + 5 * k + 1 + 1)).toInt := by unfold mrow; rw [if_pos (by omega)]
    have z1 := bo_nz (g := (ρ.2.2.2.1 1761)) (hF.2 _ (List.mem_cons_of_mem _ (List.mem_cons_of_mem _ (List.mem_cons_of_mem _ (List.mem_cons_of_mem _ (List.mem_cons_self)))))) hm (i := 1) (by omega)
    have r2 : mrow (ρ.2.2.2.1 1761) (90 + 5 * k) 2 = (ρ.2.2.2.1 1761 (90 + 5 * k + 1 + 2)).toInt := by unfold mrow; rw [if_pos (by omega)]
    have z2 := bo_nz (g := (ρ.2.2.2.1 1761)) (hF.2 _ (List.mem_cons_of_mem _ (List.mem_cons_of_mem _ (List.mem_cons_of_mem _ (List.mem_cons_of_mem _ (List.mem_cons_self)))))) hm (i := 2) (by omega)
    have r3 : mrow (ρ.2.2.2.1 1761) (90 + 5 * k) 3 = 0 := by unfold mrow; rw [if_neg (by omega)]
    rw [r0, r1, r2, r3] at hs
    have d1 : ((sd X ρ (.elem (.arg 1761) (.add (.mul (.arg 60000) (.int 5)) (.int (-33189))))).2 &&& 255).toInt32.toInt = ((sd X ρ (.elem (.arg 1761) (.add (.mul (.arg 60000) (.int 5)) (.int (-33189))))).2 &&& 255).toInt := j1
    have d2 : (((sd X ρ (.elem (.arg 1761) (.add (.mul (.arg 60000) (.int 5)) (.int (-33189))))).2 &&& 255).toInt32 + ((sd X ρ (.elem (.arg 1761) (.add (.mul (.arg 60000) (.int 5)) (.int (-33188))))).2 &&& 255).toInt32).toInt = ((sd X ρ (.elem (.arg 1761) (.add (.mul (.arg 60000) (.int 5)) (.int (-33189))))).2 &&& 255).toInt + ((sd X ρ (.elem (.arg 1761) (.add (.mul (.arg 60000) (.int 5)) (.int (-33188))))).2 &&& 255).toInt := (s_add (by omega) (by omega)).trans (by omega)
    have d3 : ((((sd X ρ (.elem (.arg 1761) (.add (.mul (.arg 60000) (.int 5)) (.int (-33189))))).2 &&& 255).toInt32 + ((sd X ρ (.elem (.arg 1761) (.add (.mul (.arg 60000) (.int 5)) (.int (-33188))))).2 &&& 255).toInt32) + ((sd X ρ (.elem (.arg 1761) (.add (.mul (.arg 60000) (.int 5)) (.int (-33187))))).2 &&& 255).toInt32).toInt = ((sd X ρ (.elem (.arg 1761) (.add (.mul (.arg 60000) (.int 5)) (.int (-33189))))).2 &&& 255).toInt + ((sd X ρ (.elem (.arg 1761) (.add (.mul (.arg 60000) (.int 5)) (.int (-33188))))).2 &&& 255).toInt + ((sd X ρ (.elem (.arg 1761) (.add (.mul (.arg 60000) (.int 5)) (.int (-33187))))).2 &&& 255).toInt := (s_add (by omega) (by omega)).trans (by omega)
    have fS := di_et (x := ((((sd X ρ (.elem (.arg 1761) (.add (.mul (.arg 60000) (.int 5)) (.int (-33189))))).2 &&& 255).toInt32 + ((sd X ρ (.elem (.arg 1761) (.add (.mul (.arg 60000) (.int 5)) (.int (-33188))))).2 &&& 255).toInt32) + ((sd X ρ (.elem (.arg 1761) (.add (.mul (.arg 60000) (.int 5)) (.int (-33187))))).2 &&& 255).toInt32)) (y := ρ.1 60032) (by rw [hB, hs, d3]; omega)
    exact t_bton3 hv ρ k1 ⟨hF.1, fcn (fN) (fcn (fS) (fcn (dl_ef (x := (sd X ρ (.elem (.arg 1761) (.add (.mul (.arg 60000) (.int 5)) (.int (-33189))))).2) (y := 0) (by rw [x1]; rw [r0] at z0; exact z0)) (fcn (dl_ef (x := (sd X ρ (.elem (.arg 1761) (.add (.mul (.arg 60000) (.int 5)) (.int (-33188))))).2) (y := 0) (by rw [x2]; rw [r1] at z1; exact z1)) (fcn (dl_ef (x := (sd X ρ (.elem (.arg 1761) (.add (.mul (.arg 60000) (.int 5)) (.int (-33187))))).2) (y := 0) (by rw [x3]; rw [r2] at z2; exact z2)) (fcn (f0) (fcn (f1) (fcn (f2) (fcn (f3) (hF.2)))))))))⟩ hI k4
  · have fN := di_et (x := (sd X ρ (.op1 .l2i (.elem (.arg 1761) (.add (.mul (.arg 60000) (.int 5)) (.int (-33190)))))).1) (y := 4) (by rw [eN, h]; rfl)
    have r0 : mrow (ρ.2.2.2.1 1761) (90 + 5 * k) 0 = (ρ.2.2.2.1 1761 (90 + 5 * k + 1 + 0)).toInt := by unfold mrow; rw [if_pos (by omega)]
    have z0 := bo_nz (g := (ρ.2.2.2.1 1761)) (hF.2 _ (List.mem_cons_of_mem _ (List.mem_cons_of_mem _ (List.mem_cons_of_mem _ (List.mem_cons_of_mem _ (List.mem_cons_self)))))) hm (i := 0) (by omega)
    have r1 : mrow (ρ.2.2.2.1 1761) (90 + 5 * k) 1 = (ρ.2.2.2.1 1761 (90 + 5 * k + 1 + 1)).toInt := by unfold mrow; rw [if_pos (by omega)]
    have z1 := bo_nz (g := (ρ.2.2.2.1 1761)) (hF.2 _ (List.mem_cons_of_mem _ (List.mem_cons_of_mem _ (List.mem_cons_of_mem _ (List.mem_cons_of_mem _ (List.mem_cons_self)))))) hm (i := 1) (by omega)
    have r2 : mrow (ρ.2.2.2.1 1761) (90 + 5 * k) 2 = (ρ.2.2.2.1 1761 (90 + 5 * k + 1 + 2)).toInt := by unfold mrow; rw [if_pos (by omega)]
    have z2 := bo_nz (g := (ρ.2.2.2.1 1761)) (hF.2 _ (List.mem_cons_of_mem _ (List.mem_cons_of_mem _ (List.mem_cons_of_mem _ (List.mem_cons_of_mem _ (List.mem_cons_self)))))) hm (i := 2) (by omega)
    have r3 : mrow (ρ.2.2.2.1 1761) (90 + 5 * k) 3 = (ρ.2.2.2.1 1761 (90 + 5 * k + 1 + 3)).toInt := by unfold mrow; rw [if_pos (by omega)]
    have z3 := bo_nz (g := (ρ.2.2.2.1 1761)) (hF.2 _ (List.mem_cons_of_mem _ (List.mem_cons_of_mem _ (List.mem_cons_of_mem _ (List.mem_cons_of_mem _ (List.mem_cons_self)))))) hm (i := 3) (by omega)
    rw [r0, r1, r2, r3] at hs
    have d1 : ((sd X ρ (.elem (.arg 1761) (.add (.mul (.arg 60000) (.int 5)) (.int (-33189))))).2 &&& 255).toInt32.toInt = ((sd X ρ (.elem (.arg 1761) (.add (.mul (.arg 60000) (.int 5)) (.int (-33189))))).2 &&& 255).toInt := j1
    have d2 : (((sd X ρ (.elem (.arg 1761) (.add (.mul (.arg 60000) (.int 5)) (.int (-33189))))).2 &&& 255).toInt32 + ((sd X ρ (.elem (.arg 1761) (.add (.mul (.arg 60000) (.int 5)) (.int (-33188))))).2 &&& 255).toInt32).toInt = ((sd X ρ (.elem (.arg 1761) (.add (.mul (.arg 60000) (.int 5)) (.int (-33189))))).2 &&& 255).toInt + ((sd X ρ (.elem (.arg 1761) (.add (.mul (.arg 60000) (.int 5)) (.int (-33188))))).2 &&& 255).toInt := (s_add (by omega) (by omega)).trans (by omega)
    have d3 : ((((sd X ρ (.elem (.arg 1761) (.add (.mul (.arg 60000) (.int 5)) (.int (-33189))))).2 &&& 255).toInt32 + ((sd X ρ (.elem (.arg 1761) (.add (.mul (.arg 60000) (.int 5)) (.int (-33188))))).2 &&& 255).toInt32) + ((sd X ρ (.elem (.arg 1761) (.add (.mul (.arg 60000) (.int 5)) (.int (-33187))))).2 &&& 255).toInt32).toInt = ((sd X ρ (.elem (.arg 1761) (.add (.mul (.arg 60000) (.int 5)) (.int (-33189))))).2 &&& 255).toInt + ((sd X ρ (.elem (.arg 1761) (.add (.mul (.arg 60000) (.int 5)) (.int (-33188))))).2 &&& 255).toInt + ((sd X ρ (.elem (.arg 1761) (.add (.mul (.arg 60000) (.int 5)) (.int (-33187))))).2 &&& 255).toInt := (s_add (by omega) (by omega)).trans (by omega)
    have d4 : (((((sd X ρ (.elem (.arg 1761) (.add (.mul (.arg 60000) (.int 5)) (.int (-33189))))).2 &&& 255).toInt32 + ((sd X ρ (.elem (.arg 1761) (.add (.mul (.arg 60000) (.int 5)) (.int (-33188))))).2 &&& 255).toInt32) + ((sd X ρ (.elem (.arg 1761) (.add (.mul (.arg 60000) (.int 5)) (.int (-33187))))).2 &&& 255).toInt32) + ((sd X ρ (.elem (.arg 1761) (.add (.mul (.arg 60000) (.int 5)) (.int (-33186))))).2 &&& 255).toInt32).toInt = ((sd X ρ (.elem (.arg 1761) (.add (.mul (.arg 60000) (.int 5)) (.int (-33189))))).2 &&& 255).toInt + ((sd X ρ (.elem (.arg 1761) (.add (.mul (.arg 60000) (.int 5)) (.int (-33188))))).2 &&& 255).toInt + ((sd X ρ (.elem (.arg 1761) (.add (.mul (.arg 60000) (.int 5)) (.int (-33187))))).2 &&& 255).toInt + ((sd X ρ (.elem (.arg 1761) (.add (.mul (.arg 60000) (.int 5)) (.int (-33186))))).2 &&& 255).toInt := (s_add (by omega) (by omega)).trans (by omega)
    have fS := di_et (x := (((((sd X ρ (.elem (.arg 1761) (.add (.mul (.arg 60000) (.int 5)) (.int (-33189))))).2 &&& 255).toInt32 + ((sd X ρ (.elem (.arg 1761) (.add (.mul (.arg 60000) (.int 5)) (.int (-33188))))).2 &&& 255).toInt32) + ((sd X ρ (.elem (.arg 1761) (.add (.mul (.arg 60000) (.int 5)) (.int (-33187))))).2 &&& 255).toInt32) + ((sd X ρ (.elem (.arg 1761) (.add (.mul (.arg 60000) (.int 5)) (.int (-33186))))).2 &&& 255).toInt32)) (y := ρ.1 60032) (by rw [hB, hs, d4]; omega)
    exact t_bton4 hv ρ k1 ⟨hF.1, fcn (fN) (fcn (fS) (fcn (dl_ef (x := (sd X ρ (.elem (.arg 1761) (.add (.mul (.arg 60000) (.int 5)) (.int (-33189))))).2) (y := 0) (by rw [x1]; rw [r0] at z0; exact z0)) (fcn (dl_ef (x := (sd X ρ (.elem (.arg 1761) (.add (.mul (.arg 60000) (.int 5)) (.int (-33188))))).2) (y := 0) (by rw [x2]; rw [r1] at z1; exact z1)) (fcn (dl_ef (x := (sd X ρ (.elem (.arg 1761) (.add (.mul (.arg 60000) (.int 5)) (.int (-33187))))).2) (y := 0) (by rw [x3]; rw [r2] at z2; exact z2)) (fcn (dl_ef (x := (sd X ρ (.elem (.arg 1761) (.add (.mul (.arg 60000) (.int 5)) (.int (-33186))))).2) (y := 0) (by rw [x4]; rw [r3] at z3; exact z3)) (fcn (f0) (fcn (f1) (fcn (f2) (fcn (f3) (fcn (f4) (hF.2)))))))))))⟩ hI k4
theorem e_bto : frun kR [] (cpl1 zWP c_bto0 [q_bto]) (cpl2 zWP c_bto0 [q_bto]) (cleaf kR zWP c_bto0 [q_bto]) 10 65536 (isatP (c_bto0.2.2.2.1) c_bto0.2.2.2.2.2.2.2.1) c_bto0.2.2.2.2.2.2.2.1 (sin0 mt_all c_bto0.1.1 5 c_bto0.2.1.1 (foot zWP c_bto0.2.2.1.1)) (sin0 mt_all c_bto0.1.2.1 5 c_bto0.2.1.2 (foot zWP c_bto0.2.2.1.2)) = true := by decide +kernel
theorem s_bto0 {X : pX} : SREL X pF pdfl mt_all kR zWP c_bto0 := SREL_QC kR_x kR_0 (Cs := []) (fun C hC => by cases hC) (d := 5) rfl c_bto0_f (Q := [q_bto]) (fun ρ0 hv => fun q hq => by
    simp only [List.mem_cons, List.not_mem_nil, or_false] at hq
    rw [hq]; exact t_bto hv) (QC_run 10 e_bto)
noncomputable def c_bto : sC := (c_bto0.1, c_bto0.2.1, c_bto0.2.2.1, c_bto0.2.2.2.1, c_bto0.2.2.2.2.1, (some (.long 0), some (.arg 60032)), [], c_bto0.2.2.2.2.2.2.2)
theorem s_bto {X : pX} : SREL X pF pdfl mt_all kR zWP c_bto := SREL_ans s_bto0 (fun ρ hF => hF) (fun ρ ρ' hF hA hG => ⟨⟨rfl, by
  have e : ρ'.1 60064 = ρ'.1 60032 := of_decide_eq_true (hG.2 _ List.mem_cons_self)
  show some (sv X ρ' (.arg 60032)) = some (sv X ρ' (.arg 60064))
  rw [sv_int rfl, sv_int rfl]
  show some (Value.int (ρ'.1 60032)) = some (Value.int (ρ'.1 60064))
  rw [e]⟩, ⟨hG.1, fun f hf => by cases hf⟩⟩)
/-! ===== the bits of a map (in), the model alone ===== -/
noncomputable def c_bti0 : sC := ((425, 308, 6), ([.long 0], [tr 219, .arg 1308, .arg 60000]), ([], [219, 229, 228, 220, 221]), [((2, .arg 60000, .int 5632), false), ((2, .int 5635, .arg 60000), false), ((2, .arg 60000, .int 0), false), ((2, .int 65535, .arg 60000), false), ((101, .elem (.arg 1761) (.int 0), .int 0), true), ((143, .add (.elem (.arg 1761) (.int 0)) (.sub (.mul (.arg 60000) (.int 5)) (.int 28110)), .arg 60032), true)], ([60064, 60160, 60192], []), (some (.long 0), some (.arg 60064)), [((0, .arg 60064, .arg 60032), true)], ([], []))
theorem c_bti0_f : cfine zWP 65536 c_bti0 = true := by decide +kernel
noncomputable def zf98zl_14 : sQ × Bool := ((2, .arg 60000, .int 5632), false)
noncomputable def zf98zl_15 : sQ × Bool := ((2, .int 5635, .arg 60000), false)
noncomputable def zf98zl_16 : sQ × Bool := ((143, .add (.elem (.arg 1761) (.int 0)) (.sub (.mul (.arg 60000) (.int 5)) (.int 28110)), .arg 60032), true)
noncomputable def q_bti : sCut := ((fr 0 425 0 [(0, .long 0)] [], [fBot], 5), (fr 0 308 0 [(0, tr 219), (1, .arg 1308), (2, .arg 60000)] [], [fBot], 5), [zf98zl_14, zf98zl_15, zf98zl_2, zf98zl_3, zf98zl_4, zf98zl_16], [])
noncomputable def zf98zl_17 : sQ × Bool := ((109, .add (.arg 60000) (.int 0), .add (.mul (.arg 60000) (.int 5)) (.int (-28110))), true)
noncomputable def q_btin0 : sCut := ((fr 0 425 0 [(0, .long 0)] [], [fBot], 5), (fr 0 308 0 [(0, tr 219), (1, .arg 1308), (2, .arg 60000)] [], [fBot], 5), [((0, .op1 .l2i (.elem (.arg 1761) (.add (.mul (.arg 60000) (.int 5)) (.int (-28110)))), .int 0), true), zf98zl_6, zf98zl_17, zf98zl_14, zf98zl_15, zf98zl_2, zf98zl_3, zf98zl_4, zf98zl_16], [])
theorem k_btin0 : cbody kR [(zWP, c_fndl)] (cpl1 zWP c_bti0 []) (cpl2 zWP c_bti0 []) (cleaf kR zWP c_bti0 []) 300 true true q_btin0.2.2.1 q_btin0.2.2.2 (cst zWP c_bti0.2.2.1.1 q_btin0.1) (cst zWP c_bti0.2.2.1.2 q_btin0.2.1) = true := by decide +kernel
theorem t_btin0 {X : pX} {ρ0 : sR} (hv : vok X ρ0) : CUTOK X kR zWP c_bti0 5 ρ0 q_btin0 := CUT_run kR_x kR_0 (Cs := [(zWP, c_fndl)]) (fun C hC => by rw [List.mem_singleton.mp hC]; exact s_fndl) c_bti0_f (Q := []) hv (fun q hq => by cases hq) 300 (b1 := true) (b2 := true) k_btin0
noncomputable def zf98zl_18 : sQ × Bool := ((6, .elem (.arg 1761) (.add (.mul (.arg 60000) (.int 5)) (.int (-28109))), .long 0), false)
noncomputable def zf98zl_19 : sQ × Bool := ((109, .add (.arg 60000) (.int 1), .add (.mul (.arg 60000) (.int 5)) (.int (-28109))), true)
noncomputable def q_btin1 : sCut := ((fr 0 425 0 [(0, .long 0)] [], [fBot], 5), (fr 0 308 0 [(0, tr 219), (1, .arg 1308), (2, .arg 60000)] [], [fBot], 5), [((0, .op1 .l2i (.elem (.arg 1761) (.add (.mul (.arg 60000) (.int 5)) (.int (-28110)))), .int 1), true), ((0, .op1 .l2i (.op2 .land (.elem (.arg 1761) (.add (.mul (.arg 60000) (.int 5)) (.int (-28109)))) (.long 255)), .arg 60032), true), zf98zl_18, zf98zl_17, zf98zl_19, zf98zl_14, zf98zl_15, zf98zl_2, zf98zl_3, zf98zl_4, zf98zl_16], [])
theorem k_btin1 : cbody kR [(zWP, c_fndl)] (cpl1 zWP c_bti0 []) (cpl2 zWP c_bti0 []) (cleaf kR zWP c_bti0 []) 300 true true q_btin1.2.2.1 q_btin1.2.2.2 (cst zWP c_bti0.2.2.1.1 q_btin1.1) (cst zWP c_bti0.2.2.1.2 q_btin1.2.1) = true := by decide +kernel
theorem t_btin1 {X : pX} {ρ0 : sR} (hv : vok X ρ0) : CUTOK X kR zWP c_bti0 5 ρ0 q_btin1 := CUT_run kR_x kR_0 (Cs := [(zWP, c_fndl)]) (fun C hC => by rw [List.mem_singleton.mp hC]; exact s_fndl) c_bti0_f (Q := []) hv (fun q hq => by cases hq) 300 (b1 := true) (b2 := true) k_btin1
noncomputable def zf98zl_20 : sQ × Bool := ((6, .elem (.arg 1761) (.add (.mul (.arg 60000) (.int 5)) (.int (-28108))), .long 0), false)
noncomputable def zf98zl_21 : sQ × Bool := ((109, .add (.arg 60000) (.int 2), .add (.mul (.arg 60000) (.int 5)) (.int (-28108))), true)
noncomputable def q_btin2 : sCut := ((fr 0 425 0 [(0, .long 0)] [], [fBot], 5), (fr 0 308 0 [(0, tr 219), (1, .arg 1308), (2, .arg 60000)] [], [fBot], 5), [((0, .op1 .l2i (.elem (.arg 1761) (.add (.mul (.arg 60000) (.int 5)) (.int (-28110)))), .int 2), true), ((0, .add (.op1 .l2i (.op2 .land (.elem (.arg 1761) (.add (.mul (.arg 60000) (.int 5)) (.int (-28109)))) (.long 255))) (.op1 .l2i (.op2 .land (.elem (.arg 1761) (.add (.mul (.arg 60000) (.int 5)) (.int (-28108)))) (.long 255))), .arg 60032), true), zf98zl_18, zf98zl_20, zf98zl_17, zf98zl_19, zf98zl_21, zf98zl_14, zf98zl_15, zf98zl_2, zf98zl_3, zf98zl_4, zf98zl_16], [])
theorem k_btin2 : cbody kR [(zWP, c_fndl)] (cpl1 zWP c_bti0 []) (cpl2 zWP c_bti0 []) (cleaf kR zWP c_bti0 []) 300 true true q_btin2.2.2.1 q_btin2.2.2.2 (cst zWP c_bti0.2.2.1.1 q_btin2.1) (cst zWP c_bti0.2.2.1.2 q_btin2.2.1) = true := by decide +kernel
theorem t_btin2 {X : pX} {ρ0 : sR} (hv : vok X ρ0) : CUTOK X kR zWP c_bti0 5 ρ0 q_btin2 := CUT_run kR_x kR_0 (Cs := [(zWP, c_fndl)]) (fun C hC => by rw [List.mem_singleton.mp hC]; exact s_fndl) c_bti0_f (Q := []) hv (fun q hq => by cases hq) 300 (b1 := true) (b2 := true) k_btin2
noncomputable def zf98zl_22 : sQ × Bool := ((6, .elem (.arg 1761) (.add (.mul (.arg 60000) (.int 5)) (.int (-28107))), .long 0), false)
noncomputable def zf98zl_23 : sQ × Bool := ((109, .add (.arg 60000) (.int 3), .add (.mul (.arg 60000) (.int 5)) (.int (-28107))), true)
noncomputable def q_btin3 : sCut := ((fr 0 425 0 [(0, .long 0)] [], [fBot], 5), (fr 0 308 0 [(0, tr 219), (1, .arg 1308), (2, .arg 60000)] [], [fBot], 5), [((0, .op1 .l2i (.elem (.arg 1761) (.add (.mul (.arg 60000) (.int 5)) (.int (-28110)))), .int 3), true), ((0, .add (.add (.op1 .l2i (.op2 .land (.elem (.arg 1761) (.add (.mul (.arg 60000) (.int 5)) (.int (-28109)))) (.long 255))) (.op1 .l2i (.op2 .land (.elem (.arg 1761) (.add (.mul (.arg 60000) (.int 5)) (.int (-28108)))) (.long 255)))) (.op1 .l2i (.op2 .land (.elem (.arg 1761) (.add (.mul (.arg 60000) (.int 5)) (.int (-28107)))) (.long 255))), .arg 60032), true), zf98zl_18, zf98zl_20, zf98zl_22, zf98zl_17, zf98zl_19, zf98zl_21, zf98zl_23, zf98zl_14, zf98zl_15, zf98zl_2, zf98zl_3, zf98zl_4, zf98zl_16], [])
theorem k_btin3 : cbody kR [(zWP, c_fndl)] (cpl1 zWP c_bti0 []) (cpl2 zWP c_bti0 []) (cleaf kR zWP c_bti0 []) 300 true true q_btin3.2.2.1 q_btin3.2.2.2 (cst zWP c_bti0.2.2.1.1 q_btin3.1) (cst zWP c_bti0.2.2.1.2 q_btin3.2.1) = true := by decide +kernel
theorem t_btin3 {X : pX} {ρ0 : sR} (hv : vok X ρ0) : CUTOK X kR zWP c_bti0 5 ρ0 q_btin3 := CUT_run kR_x kR_0 (Cs := [(zWP, c_fndl)]) (fun C hC => by rw [List.mem_singleton.mp hC]; exact s_fndl) c_bti0_f (Q := []) hv (fun q hq => by cases hq) 300 (b1 := true) (b2 := true) k_btin3
noncomputable def q_btin4 : sCut := ((fr 0 425 0 [(0, .long 0)] [], [fBot], 5), (fr 0 308 0 [(0, tr 219), (1, .arg 1308), (2, .arg 60000)] [], [fBot], 5), [((0, .op1 .l2i (.elem (.arg 1761) (.add (.mul (.arg 60000) (.int 5)) (.int (-28110)))), .int 4), true), ((0, .add (.add (.add (.op1 .l2i (.op2 .land (.elem (.arg 1761) (.add (.mul (.arg 60000) (.int 5)) (.int (-28109)))) (.long 255))) (.op1 .l2i (.op2 .land (.elem (.arg 1761) (.add (.mul (.arg 60000) (.int 5)) (.int (-28108)))) (.long 255)))) (.op1 .l2i (.op2 .land (.elem (.arg 1761) (.add (.mul (.arg 60000) (.int 5)) (.int (-28107)))) (.long 255)))) (.op1 .l2i (.op2 .land (.elem (.arg 1761) (.add (.mul (.arg 60000) (.int 5)) (.int (-28106)))) (.long 255))), .arg 60032), true), zf98zl_18, zf98zl_20, zf98zl_22, ((6, .elem (.arg 1761) (.add (.mul (.arg 60000) (.int 5)) (.int (-28106))), .long 0), false), zf98zl_17, zf98zl_19, zf98zl_21, zf98zl_23, ((109, .add (.arg 60000) (.int 4), .add (.mul (.arg 60000) (.int 5)) (.int (-28106))), true), zf98zl_14, zf98zl_15, zf98zl_2, zf98zl_3, zf98zl_4, zf98zl_16], [])
theorem k_btin4 : cbody kR [(zWP, c_fndl)] (cpl1 zWP c_bti0 []) (cpl2 zWP c_bti0 []) (cleaf kR zWP c_bti0 []) 300 true true q_btin4.2.2.1 q_btin4.2.2.2 (cst zWP c_bti0.2.2.1.1 q_btin4.1) (cst zWP c_bti0.2.2.1.2 q_btin4.2.1) = true := by decide +kernel
theorem t_btin4 {X : pX} {ρ0 : sR} (hv : vok X ρ0) : CUTOK X kR zWP c_bti0 5 ρ0 q_btin4 := CUT_run kR_x kR_0 (Cs := [(zWP, c_fndl)]) (fun C hC => by rw [List.mem_singleton.mp hC]; exact s_fndl) c_bti0_f (Q := []) hv (fun q hq => by cases hq) 300 (b1 := true) (b2 := true) k_btin4
theorem t_bti {X : pX} {ρ0 : sR} (hv : vok X ρ0) : CUTOK X kR zWP c_bti0 5 ρ0 q_bti := fun ρ k1 hF hI k4 => by
  have i0 : (5632 : Int) ≤ (ρ.1 60000).toInt := ri_lf (x := ρ.1 60000) (y := 5632) (hF.2 _ (List.mem_cons_self))
  have i3 : (ρ.1 60000).toInt ≤ 5635 := ri_lf (x := 5635) (y := ρ.1 60000) (hF.2 _ (List.mem_cons_of_mem _ (List.mem_cons_self)))
  have em : (ρ.1 60000 * 5 - 28110).toInt = (ρ.1 60000).toInt * 5 - 28110 := i_of (i_sb (i_ml (i_s _) (show (5 : Int32) = Int32.ofInt 5 from rfl)) (show (28110 : Int32) = Int32.ofInt 28110 from rfl)) (by omega) (by omega)
  obtain ⟨k, hk⟩ : ∃ k : Nat, (ρ.1 60000).toInt = 5632 + k ∧ k < 4 := ⟨((ρ.1 60000).toInt - 5632).toNat, by omega, by omega⟩
  obtain ⟨hk, hk4⟩ := hk
  have mm : (ρ.1 60000 * 5 - 28110).toInt.toNat = 50 + 5 * k := by omega
  have hm : 50 + 5 * k ∈ ([50, 55, 60, 65, 90, 95, 100, 105] : List Nat) := by
    simp only [List.mem_cons, List.not_mem_nil, or_false]
    omega
  obtain ⟨c0, c4, c64⟩ := am_64 (g := (ρ.2.2.2.1 1761)) (hF.2 _ (List.mem_cons_of_mem _ (List.mem_cons_of_mem _ (List.mem_cons_of_mem _ (List.mem_cons_of_mem _ (List.mem_cons_self)))))) hm
  have hB : (ρ.1 60032).toInt = amsum (ρ.2.2.2.1 1761) (ρ.1 60000 * 5 - 28110).toInt.toNat := of_decide_eq_true (hF.2 _ (List.mem_cons_of_mem _ (List.mem_cons_of_mem _ (List.mem_cons_of_mem _ (List.mem_cons_of_mem _ (List.mem_cons_of_mem _ (List.mem_cons_self)))))))
  rw [mm] at hB
  have e0 : (ρ.1 60000 * 5 + (-28110)).toInt = ((50 + 5 * k + 0 : Nat) : Int) := (i_of (i_ad (i_ml (i_s _) (show (5 : Int32) = Int32.ofInt 5 from rfl)) (show (-28110 : Int32) = Int32.ofInt (-28110) from rfl)) (by omega) (by omega)).trans (by omega)
  have x0 : (sd X ρ (.elem (.arg 1761) (.add (.mul (.arg 60000) (.int 5)) (.int (-28110))))).2 = ρ.2.2.2.1 1761 (50 + 5 * k + 0) := by
    show ρ.2.2.2.1 1761 (ρ.1 60000 * 5 + (-28110)).toNatClampNeg = _
    rw [s_nat, e0, Int.toNat_natCast]
  have g0 : (ρ.1 60000 * 5 + (-28110)).toInt = aslot (ρ.1 60000).toInt (0 : Int32).toInt := by
    have h9 := of_decide_eq_true (List.all_eq_true.mp (List.all_eq_true.mp bi_9 k (List.mem_range.mpr hk4)) 0 (by decide))
    have z9 : (0 : Int32).toInt = ((0 : Nat) : Int) := rfl
    rw [e0, hk, z9, h9]
    omega
  have f0 : sc X ρ (109, .add (.arg 60000) (.int 0), .add (.mul (.arg 60000) (.int 5)) (.int (-28110))) = true := s9_i rfl rfl g0
  have e1 : (ρ.1 60000 * 5 + (-28109)).toInt = ((50 + 5 * k + 1 : Nat) : Int) := (i_of (i_ad (i_ml (i_s _) (show (5 : Int32) = Int32.ofInt 5 from rfl)) (show (-28109 : Int32) = Int32.ofInt (-28109) from rfl)) (by omega) (by omega)).trans (by omega)
  have x1 : (sd X ρ (.elem (.arg 1761) (.add (.mul (.arg 60000) (.int 5)) (.int (-28109))))).2 = ρ.2.2.2.1 1761 (50 + 5 * k + 1) := by
    show ρ.2.2.2.1 1761 (ρ.1 60000 * 5 + (-28109)).toNatClampNeg = _
    rw [s_nat, e1, Int.toNat_natCast]
  have g1 : (ρ.1 60000 * 5 + (-28109)).toInt = aslot (ρ.1 60000).toInt (1 : Int32).toInt := by
    have h9 := of_decide_eq_true (List.all_eq_true.mp (List.all_eq_true.mp bi_9 k (List.mem_range.mpr hk4)) 1 (by decide))
    have z9 : (1 : Int32).toInt = ((1 : Nat) : Int) := rfl
    rw [e1, hk, z9, h9]
    omega
  have f1 : sc X ρ (109, .add (.arg 60000) (.int 1), .add (.mul (.arg 60000) (.int 5)) (.int (-28109))) = true := s9_i rfl rfl g1
  have e2 : (ρ.1 60000 * 5 + (-28108)).toInt = ((50 + 5 * k + 2 : Nat) : Int) := (i_of (i_ad (i_ml (i_s _) (show (5 : Int32) = Int32.ofInt 5 from rfl)) (show (-28108 : Int32) = Int32.ofInt (-28108) from rfl)) (by omega) (by omega)).trans (by omega)
  have x2 : (sd X ρ (.elem (.arg 1761) (.add (.mul (.arg 60000) (.int 5)) (.int (-28108))))).2 = ρ.2.2.2.1 1761 (50 + 5 * k + 2) := by
    show ρ.2.2.2.1 1761 (ρ.1 60000 * 5 + (-28108)).toNatClampNeg = _
    rw [s_nat, e2, Int.toNat_natCast]
  have g2 : (ρ.1 60000 * 5 + (-28108)).toInt = aslot (ρ.1 60000).toInt (2 : Int32).toInt := by
    have h9 := of_decide_eq_true (List.all_eq_true.mp (List.all_eq_true.mp bi_9 k (List.mem_range.mpr hk4)) 2 (by decide))
    have z9 : (2 : Int32).toInt = ((2 : Nat) : Int) := rfl
    rw [e2, hk, z9, h9]
    omega
  have f2 : sc X ρ (109, .add (.arg 60000) (.int 2), .add (.mul (.arg 60000) (.int 5)) (.int (-28108))) = true := s9_i rfl rfl g2
  have e3 : (ρ.1 60000 * 5 + (-28107)).toInt = ((50 + 5 * k + 3 : Nat) : Int) := (i_of (i_ad (i_ml (i_s _) (show (5 : Int32) = Int32.ofInt 5 from rfl)) (show (-28107 : Int32) = Int32.ofInt (-28107) from rfl)) (by omega) (by omega)).trans (by omega)
  have x3 : (sd X ρ (.elem (.arg 1761) (.add (.mul (.arg 60000) (.int 5)) (.int (-28107))))).2 = ρ.2.2.2.1 1761 (50 + 5 * k + 3) := by
    show ρ.2.2.2.1 1761 (ρ.1 60000 * 5 + (-28107)).toNatClampNeg = _
    rw [s_nat, e3, Int.toNat_natCast]
  have g3 : (ρ.1 60000 * 5 + (-28107)).toInt = aslot (ρ.1 60000).toInt (3 : Int32).toInt := by
    have h9 := of_decide_eq_true (List.all_eq_true.mp (List.all_eq_true.mp bi_9 k (List.mem_range.mpr hk4)) 3 (by decide))
    have z9 : (3 : Int32).toInt = ((3 : Nat) : Int) := rfl
    rw [e3, hk, z9, h9]
    omega
  have f3 : sc X ρ (109, .add (.arg 60000) (.int 3), .add (.mul (.arg 60000) (.int 5)) (.int (-28107))) = true := s9_i rfl rfl g3
  have e4 : (ρ.1 60000 * 5 + (-28106)).toInt = ((50 + 5 * k + 4 : Nat) : Int) := (i_of (i_ad (i_ml (i_s _) (show (5 : Int32) = Int32.ofInt 5 from rfl)) (show (-28106 : Int32) = Int32.ofInt (-28106) from rfl)) (by omega) (by omega)).trans (by omega)
  have x4 : (sd X ρ (.elem (.arg 1761) (.add (.mul (.arg 60000) (.int 5)) (.int (-28106))))).2 = ρ.2.2.2.1 1761 (50 + 5 * k + 4) := by
    show ρ.2.2.2.1 1761 (ρ.1 60000 * 5 + (-28106)).toNatClampNeg = _
    rw [s_nat, e4, Int.toNat_natCast]
  have g4 : (ρ.1 60000 * 5 + (-28106)).toInt = aslot (ρ.1 60000).toInt (4 : Int32).toInt := by
    have h9 := of_decide_eq_true (List.all_eq_true.mp (List.all_eq_true.mp bi_9 k (List.mem_range.mpr hk4)) 4 (by decide))
    have z9 : (4 : Int32).toInt = ((4 : Nat) : Int) := rfl
    rw [e4, hk, z9, h9]
    omega
  have f4 : sc X ρ (109, .add (.arg 60000) (.int 4), .add (.mul (.arg 60000) (.int 5)) (.int (-28106))) = true := s9_i rfl rfl g4
  obtain ⟨l1, u1, j1⟩ := mb_r (y := (sd X ρ (.elem (.arg 1761) (.add (.mul (.arg 60000) (.int 5)) (.int (-28109))))).2)
  have w1 : ((sd X ρ (.elem (.arg 1761) (.add (.mul (.arg 60000) (.int 5)) (.int (-28109))))).2 &&& 255).toInt = (ρ.2.2.2.1 1761 (50 + 5 * k + 1 + 0)).toInt % 256 := by rw [mw_a, x1]
  obtain ⟨l2, u2, j2⟩ := mb_r (y := (sd X ρ (.elem (.arg 1761) (.add (.mul (.arg 60000) (.int 5)) (.int (-28108))))).2)
  have w2 : ((sd X ρ (.elem (.arg 1761) (.add (.mul (.arg 60000) (.int 5)) (.int (-28108))))).2 &&& 255).toInt = (ρ.2.2.2.1 1761 (50 + 5 * k + 1 + 1)).toInt % 256 := by rw [mw_a, x2]
  obtain ⟨l3, u3, j3⟩ := mb_r (y := (sd X ρ (.elem (.arg 1761) (.add (.mul (.arg 60000) (.int 5)) (.int (-28107))))).2)
  have w3 : ((sd X ρ (.elem (.arg 1761) (.add (.mul (.arg 60000) (.int 5)) (.int (-28107))))).2 &&& 255).toInt = (ρ.2.2.2.1 1761 (50 + 5 * k + 1 + 2)).toInt % 256 := by rw [mw_a, x3]
  obtain ⟨l4, u4, j4⟩ := mb_r (y := (sd X ρ (.elem (.arg 1761) (.add (.mul (.arg 60000) (.int 5)) (.int (-28106))))).2)
  have w4 : ((sd X ρ (.elem (.arg 1761) (.add (.mul (.arg 60000) (.int 5)) (.int (-28106))))).2 &&& 255).toInt = (ρ.2.2.2.1 1761 (50 + 5 * k + 1 + 3)).toInt % 256 := by rw [mw_a, x4]
  have eN : (sd X ρ (.op1 .l2i (.elem (.arg 1761) (.add (.mul (.arg 60000) (.int 5)) (.int (-28110)))))).1.toInt = (ρ.2.2.2.1 1761 (50 + 5 * k)).toInt := by
    show (sd X ρ (.elem (.arg 1761) (.add (.mul (.arg 60000) (.int 5)) (.int (-28110))))).2.toInt32.toInt = _
    rw [x0, Nat.add_zero]
    exact mv_l c0 (by omega)
  have hs : amsum (ρ.2.2.2.1 1761) (50 + 5 * k) = mrow (ρ.2.2.2.1 1761) (50 + 5 * k) 0 % 256 + mrow (ρ.2.2.2.1 1761) (50 + 5 * k) 1 % 256 + mrow (ρ.2.2.2.1 1761) (50 + 5 * k) 2 % 256 + mrow (ρ.2.2.2.1 1761) (50 + 5 * k) 3 % 256 := by
    unfold amsum
    show (([0, 1, 2, 3] : List Nat).map _).sum = _
    simp only [List.map_cons, List.map_nil, List.sum_cons, List.sum_nil]
    omega
  rcases (show (ρ.2.2.2.1 1761 (50 + 5 * k)).toInt = 0 ∨ (ρ.2.2.2.1 1761 (50 + 5 * k)).toInt = 1 ∨ (ρ.2.2.2.1 1761 (50 + 5 * k)).toInt = 2 ∨ (ρ.2.2.2.1 1761 (50 + 5 * k)).toInt = 3 ∨ (ρ.2.2.2.1 1761 (50 + 5 * k)).toInt = 4 by omega) with h | h | h | h | h
  · have fN := di_et (x := (sd X ρ (.op1 .l2i (.elem (.arg 1761) (.add (.mul (.arg 60000) (.int 5)) (.int (-28110)))))).1) (y := 0) (by rw [eN, h]; rfl)
    have r0 : mrow (ρ.2.2.2.1 1761) (50 + 5 * k) 0 = 0 := by unfold mrow; rw [if_neg (by omega)]
    have r1 : mrow (ρ.2.2.2.1 1761) (50 + 5 * k) 1 = 0 := by unfold mrow; rw [if_neg (by omega)]
    have r2 : mrow (ρ.2.2.2.1 1761) (50 + 5 * k) 2 = 0 := by unfold mrow; rw [if_neg (by omega)]
    have r3 : mrow (ρ.2.2.2.1 1761) (50 + 5 * k) 3 = 0 := by unfold mrow; rw [if_neg (by omega)]
    rw [r0, r1, r2, r3] at hs
    have fS := di_et (x := 0) (y := ρ.1 60032) (by rw [hB, hs]; rfl)
    exact t_btin0 hv ρ k1 ⟨hF.1, fcn (fN) (fcn (fS) (fcn (f0) (hF.2)))⟩ hI k4
  · have fN := di_et (x := (sd X ρ (.op1 .l2i (.elem (.arg 1761) (.add (.mul (.arg 60000) (.int 5)) (.int (-28110)))))).1) (y := 1) (by rw [eN, h]; rfl)
    have r0 : mrow (ρ.2.2.2.1 1761) (50 + 5 * k) 0 = (ρ.2.2.2.1 1761 (50 + 5 * k + 1 + 0)).toInt := by unfold mrow; rw [if_pos (by omega)]
    have z0 := bo_nz (g := (ρ.2.2.2.1 1761)) (hF.2 _ (List.mem_cons_of_mem _ (List.mem_cons_of_mem _ (List.mem_cons_of_mem _ (List.mem_cons_of_mem _ (List.mem_cons_self)))))) hm (i := 0) (by omega)
    have r1 : mrow (ρ.2.2.2.1 1761) (50 + 5 * k) 1 = 0 := by unfold mrow; rw [if_neg (by omega)]
    have r2 : mrow (ρ.2.2.2.1 1761) (50 + 5 * k) 2 = 0 := by unfold mrow; rw [if_neg (by omega)]
    have r3 : mrow (ρ.2.2.2.1 1761) (50 + 5 * k) 3 = 0 := by unfold mrow; rw [if_neg (by omega)]
    rw [r0, r1, r2, r3] at hs
    have d1 : ((sd X ρ (.elem (.arg 1761) (.add (.mul (.arg 60000) (.int 5)) (.int (-28109))))).2 &&& 255).toInt32.toInt = ((sd X ρ (.elem (.arg 1761) (.add (.mul (.arg 60000) (.int 5)) (.int (-28109))))).2 &&& 255).toInt := j1
    have fS := di_et (x := ((sd X ρ (.elem (.arg 1761) (.add (.mul (.arg 60000) (.int 5)) (.int (-28109))))).2 &&& 255).toInt32) (y := ρ.1 60032) (by rw [hB, hs, d1]; omega)
    exact t_btin1 hv ρ k1 ⟨hF.1, fcn (fN) (fcn (fS) (fcn (dl_ef (x := (sd X ρ (.elem (.arg 1761) (.add (.mul (.arg 60000) (.int 5)) (.int (-28109))))).2) (y := 0) (by rw [x1]; rw [r0] at z0; exact z0)) (fcn (f0) (fcn (f1) (hF.2)))))⟩ hI k4
  · have fN := di_et (x := (sd X ρ (.op1 .l2i (.elem (.arg 1761) (.add (.mul (.arg 60000) (.int 5)) (.int (-28110)))))).1) (y := 2) (by rw [eN, h]; rfl)
    have r0 : mrow (ρ.2.2.2.1 1761) (50 + 5 * k) 0 = (ρ.2.2.2.1 1761 (50 + 5 * k + 1 + 0)).toInt := by unfold mrow; rw [if_pos (by omega)]
    have z0 := bo_nz (g := (ρ.2.2.2.1 1761)) (hF.2 _ (List.mem_cons_of_mem _ (List.mem_cons_of_mem _ (List.mem_cons_of_mem _ (List.mem_cons_of_mem _ (List.mem_cons_self)))))) hm (i := 0) (by omega)
    have r1 : mrow (ρ.2.2.2.1 1761) (50 + 5 * k) 1 = (ρ.2.2.2.1 1761 (50 + 5 * k + 1 + 1)).toInt := by unfold mrow; rw [if_pos (by omega)]
    have z1 := bo_nz (g := (ρ.2.2.2.1 1761)) (hF.2 _ (List.mem_cons_of_mem _ (List.mem_cons_of_mem _ (List.mem_cons_of_mem _ (List.mem_cons_of_mem _ (List.mem_cons_self)))))) hm (i := 1) (by omega)
    have r2 : mrow (ρ.2.2.2.1 1761) (50 + 5 * k) 2 = 0 := by unfold mrow; rw [if_neg (by omega)]
    have r3 : mrow (ρ.2.2.2.1 1761) (50 + 5 * k) 3 = 0 := by unfold mrow; rw [if_neg (by omega)]
    rw [r0, r1, r2, r3] at hs
    have d1 : ((sd X ρ (.elem (.arg 1761) (.add (.mul (.arg 60000) (.int 5)) (.int (-28109))))).2 &&& 255).toInt32.toInt = ((sd X ρ (.elem (.arg 1761) (.add (.mul (.arg 60000) (.int 5)) (.int (-28109))))).2 &&& 255).toInt := j1
    have d2 : (((sd X ρ (.elem (.arg 1761) (.add (.mul (.arg 60000) (.int 5)) (.int (-28109))))).2 &&& 255).toInt32 + ((sd X ρ (.elem (.arg 1761) (.add (.mul (.arg 60000) (.int 5)) (.int (-28108))))).2 &&& 255).toInt32).toInt = ((sd X ρ (.elem (.arg 1761) (.add (.mul (.arg 60000) (.int 5)) (.int (-28109))))).2 &&& 255).toInt + ((sd X ρ (.elem (.arg 1761) (.add (.mul (.arg 60000) (.int 5)) (.int (-28108))))).2 &&& 255).toInt := (s_add (by omega) (by omega)).trans (by omega)
    have fS := di_et (x := (((sd X ρ (.elem (.arg 1761) (.add (.mul (.arg 60000) (.int 5)) (.int (-28109))))).2 &&& 255).toInt32 + ((sd X ρ (.elem (.arg 1761) (.add (.mul (.arg 60000) (.int 5)) (.int (-28108))))).2 &&& 255).toInt32)) (y := ρ.1 60032) (by rw [hB, hs, d2]; omega)
    exact t_btin2 hv ρ k1 ⟨hF.1, fcn (fN) (fcn (fS) (fcn (dl_ef (x := (sd X ρ (.elem (.arg 1761) (.add (.mul (.arg 60000) (.int 5)) (.int (-28109))))).2) (y := 0) (by rw [x1]; rw [r0] at z0; exact z0)) (fcn (dl_ef (x := (sd X ρ (.elem (.arg 1761) (.add (.mul (.arg 60000) (.int 5)) (.int (-28108))))).2) (y := 0) (by rw [x2]; rw [r1] at z1; exact z1)) (fcn (f0) (fcn (f1) (fcn (f2) (hF.2)))))))⟩ hI k4
  · have fN := di_et (x := (sd X ρ (.op1 .l2i (.elem (.arg 1761) (.add (.mul (.arg 60000) (.int 5)) (.int (-28110)))))).1) (y := 3) (by rw [eN, h]; rfl)
    have r0 : mrow (ρ.2.2.2.1 1761) (50 + 5 * k) 0 = (ρ.2.2.2.1 1761 (50 + 5 * k + 1 + 0)).toInt := by unfold mrow; rw [if_pos (by omega)]
    have z0 := bo_nz (g := (ρ.2.2.2.1 1761)) (hF.2 _ (List.mem_cons_of_mem _ (List.mem_cons_of_mem _ (List.mem_cons_of_mem _ (List.mem_cons_of_mem _ (List.mem_cons_self)))))) hm (i := 0) (by omega)
    have r1 : mrow (ρ.2.2.2.1 1761) (50 + 5 * k) 1 = (ρ.2.2.2.1 1761 (50 + 5 * k + 1 + 1)).toInt := by unfold mrow; rw [if_pos (by omega)]
    have z1 := bo_nz (g := (ρ.2.2.2.1 1761)) (hF.2 _ (List.mem_cons_of_mem _ (List.mem_cons_of_mem _ (List.mem_cons_of_mem _ (List.mem_cons_of_mem _ (List.mem_cons_self)))))) hm (i := 1) (by omega)
    have r2 : mrow (ρ.2.2.2.1 1761) (50 + 5 * k) 2 = (ρ.2.2.2.1 1761 (50 + 5 * k + 1 + 2)).toInt := by unfold mrow; rw [if_pos (by omega)]
    have z2 := bo_nz (g := (ρ.2.2.2.1 1761)) (hF.2 _ (List.mem_cons_of_mem _ (List.mem_cons_of_mem _ (List.mem_cons_of_mem _ (List.mem_cons_of_mem _ (List.mem_cons_self)))))) hm (i := 2) (by omega)
    have r3 : mrow (ρ.2.2.2.1 1761) (50 + 5 * k) 3 = 0 := by unfold mrow; rw [if_neg (by omega)]
    rw [r0, r1, r2, r3] at hs
    have d1 : ((sd X ρ (.elem (.arg 1761) (.add (.mul (.arg 60000) (.int 5)) (.int (-28109))))).2 &&& 255).toInt32.toInt = ((sd X ρ (.elem (.arg 1761) (.add (.mul (.arg 60000) (.int 5)) (.int (-28109))))).2 &&& 255).toInt := j1
    have d2 : (((sd X ρ (.elem (.arg 1761) (.add (.mul (.arg 60000) (.int 5)) (.int (-28109))))).2 &&& 255).toInt32 + ((sd X ρ (.elem (.arg 1761) (.add (.mul (.arg 60000) (.int 5)) (.int (-28108))))).2 &&& 255).toInt32).toInt = ((sd X ρ (.elem (.arg 1761) (.add (.mul (.arg 60000) (.int 5)) (.int (-28109))))).2 &&& 255).toInt + ((sd X ρ (.elem (.arg 1761) (.add (.mul (.arg 60000) (.int 5)) (.int (-28108))))).2 &&& 255).toInt := (s_add (by omega) (by omega)).trans (by omega)
    have d3 : ((((sd X ρ (.elem (.arg 1761) (.add (.mul (.arg 60000) (.int 5)) (.int (-28109))))).2 &&& 255).toInt32 + ((sd X ρ (.elem (.arg 1761) (.add (.mul (.arg 60000) (.int 5)) (.int (-28108))))).2 &&& 255).toInt32) + ((sd X ρ (.elem (.arg 1761) (.add (.mul (.arg 60000) (.int 5)) (.int (-28107))))).2 &&& 255).toInt32).toInt = ((sd X ρ (.elem (.arg 1761) (.add (.mul (.arg 60000) (.int 5)) (.int (-28109))))).2 &&& 255).toInt + ((sd X ρ (.elem (.arg 1761) (.add (.mul (.arg 60000) (.int 5)) (.int (-28108))))).2 &&& 255).toInt + ((sd X ρ (.elem (.arg 1761) (.add (.mul (.arg 60000) (.int 5)) (.int (-28107))))).2 &&& 255).toInt := (s_add (by omega) (by omega)).trans (by omega)
    have fS := di_et (x := ((((sd X ρ (.elem (.arg 1761) (.add (.mul (.arg 60000) (.int 5)) (.int (-28109))))).2 &&& 255).toInt32 + ((sd X ρ (.elem (.arg 1761) (.add (.mul (.arg 60000) (.int 5)) (.int (-28108))))).2 &&& 255).toInt32) + ((sd X ρ (.elem (.arg 1761) (.add (.mul (.arg 60000) (.int 5)) (.int (-28107))))).2 &&& 255).toInt32)) (y := ρ.1 60032) (by rw [hB, hs, d3]; omega)
    exact t_btin3 hv ρ k1 ⟨hF.1, fcn (fN) (fcn (fS) (fcn (dl_ef (x := (sd X ρ (.elem (.arg 1761) (.add (.mul (.arg 60000) (.int 5)) (.int (-28109))))).2) (y := 0) (by rw [x1]; rw [r0] at z0; exact z0)) (fcn (dl_ef (x := (sd X ρ (.elem (.arg 1761) (.add (.mul (.arg 60000) (.int 5)) (.int (-28108))))).2) (y := 0) (by rw [x2]; rw [r1] at z1; exact z1)) (fcn (dl_ef (x := (sd X ρ (.elem (.arg 1761) (.add (.mul (.arg 60000) (.int 5)) (.int (-28107))))).2) (y := 0) (by rw [x3]; rw [r2] at z2; exact z2)) (fcn (f0) (fcn (f1) (fcn (f2) (fcn (f3) (hF.2)))))))))⟩ hI k4
  · have fN := di_et (x := (sd X ρ (.op1 .l2i (.elem (.arg 1761) (.add (.mul (.arg 60000) (.int 5)) (.int (-28110)))))).1) (y := 4) (by rw [eN, h]; rfl)
    have r0 : mrow (ρ.2.2.2.1 1761) (50 + 5 * k) 0 = (ρ.2.2.2.1 1761 (50 + 5 * k + 1 + 0)).toInt := by unfold mrow; rw [if_pos (by omega)]
    have z0 := bo_nz (g := (ρ.2.2.2.1 1761)) (hF.2 _ (List.mem_cons_of_mem _ (List.mem_cons_of_mem _ (List.mem_cons_of_mem _ (List.mem_cons_of_mem _ (List.mem_cons_self)))))) hm (i := 0) (by omega)
    have r1 : mrow (ρ.2.2.2.1 1761) (50 + 5 * k) 1 = (ρ.2.2.2.1 1761 (50 + 5 * k + 1 + 1)).toInt := by unfold mrow; rw [if_pos (by omega)]
    have z1 := bo_nz (g := (ρ.2.2.2.1 1761)) (hF.2 _ (List.mem_cons_of_mem _ (List.mem_cons_of_mem _ (List.mem_cons_of_mem _ (List.mem_cons_of_mem _ (List.mem_cons_self)))))) hm (i := 1) (by omega)
    have r2 : mrow (ρ.2.2.2.1 1761) (50 + 5 * k) 2 = (ρ.2.2.2.1 1761 (50 + 5 * k + 1 + 2)).toInt := by unfold mrow; rw [if_pos (by omega)]
    have z2 := bo_nz (g := (ρ.2.2.2.1 1761)) (hF.2 _ (List.mem_cons_of_mem _ (List.mem_cons_of_mem _ (List.mem_cons_of_mem _ (List.mem_cons_of_mem _ (List.mem_cons_self)))))) hm (i := 2) (by omega)
    have r3 : mrow (ρ.2.2.2.1 1761) (50 + 5 * k) 3 = (ρ.2.2.2.1 1761 (50 + 5 * k + 1 + 3)).toInt := by unfold mrow; rw [if_pos (by omega)]
    have z3 := bo_nz (g := (ρ.2.2.2.1 1761)) (hF.2 _ (List.mem_cons_of_mem _ (List.mem_cons_of_mem _ (List.mem_cons_of_mem _ (List.mem_cons_of_mem _ (List.mem_cons_self)))))) hm (i := 3) (by omega)
    rw [r0, r1, r2, r3] at hs
    have d1 : ((sd X ρ (.elem (.arg 1761) (.add (.mul (.arg 60000) (.int 5)) (.int (-28109))))).2 &&& 255).toInt32.toInt = ((sd X ρ (.elem (.arg 1761) (.add (.mul (.arg 60000) (.int 5)) (.int (-28109))))).2 &&& 255).toInt := j1
    have d2 : (((sd X ρ (.elem (.arg 1761) (.add (.mul (.arg 60000) (.int 5)) (.int (-28109))))).2 &&& 255).toInt32 + ((sd X ρ (.elem (.arg 1761) (.add (.mul (.arg 60000) (.int 5)) (.int (-28108))))).2 &&& 255).toInt32).toInt = ((sd X ρ (.elem (.arg 1761) (.add (.mul (.arg 60000) (.int 5)) (.int (-28109))))).2 &&& 255).toInt + ((sd X ρ (.elem (.arg 1761) (.add (.mul (.arg 60000) (.int 5)) (.int (-28108))))).2 &&& 255).toInt := (s_add (by omega) (by omega)).trans (by omega)
    have d3 : ((((sd X ρ (.elem (.arg 1761) (.add (.mul (.arg 60000) (.int 5)) (.int (-28109))))).2 &&& 255).toInt32 + ((sd X ρ (.elem (.arg 1761) (.add (.mul (.arg 60000) (.int 5)) (.int (-28108))))).2 &&& 255).toInt32) + ((sd X ρ (.elem (.arg 1761) (.add (.mul (.arg 60000) (.int 5)) (.int (-28107))))).2 &&& 255).toInt32).toInt = ((sd X ρ (.elem (.arg 1761) (.add (.mul (.arg 60000) (.int 5)) (.int (-28109))))).2 &&& 255).toInt + ((sd X ρ (.elem (.arg 1761) (.add (.mul (.arg 60000) (.int 5)) (.int (-28108))))).2 &&& 255).toInt + ((sd X ρ (.elem (.arg 1761) (.add (.mul (.arg 60000) (.int 5)) (.int (-28107))))).2 &&& 255).toInt := (s_add (by omega) (by omega)).trans (by omega)
    have d4 : (((((sd X ρ (.elem (.arg 1761) (.add (.mul (.arg 60000) (.int 5)) (.int (-28109))))).2 &&& 255).toInt32 + ((sd X ρ (.elem (.arg 1761) (.add (.mul (.arg 60000) (.int 5)) (.int (-28108))))).2 &&& 255).toInt32) + ((sd X ρ (.elem (.arg 1761) (.add (.mul (.arg 60000) (.int 5)) (.int (-28107))))).2 &&& 255).toInt32) + ((sd X ρ (.elem (.arg 1761) (.add (.mul (.arg 60000) (.int 5)) (.int (-28106))))).2 &&& 255).toInt32).toInt = ((sd X ρ (.elem (.arg 1761) (.add (.mul (.arg 60000) (.int 5)) (.int (-28109))))).2 &&& 255).toInt + ((sd X ρ (.elem (.arg 1761) (.add (.mul (.arg 60000) (.int 5)) (.int (-28108))))).2 &&& 255).toInt + ((sd X ρ (.elem (.arg 1761) (.add (.mul (.arg 60000) (.int 5)) (.int (-28107))))).2 &&& 255).toInt + ((sd X ρ (.elem (.arg 1761) (.add (.mul (.arg 60000) (.int 5)) (.int (-28106))))).2 &&& 255).toInt := (s_add (by omega) (by omega)).trans (by omega)
    have fS := di_et (x := (((((sd X ρ (.elem (.arg 1761) (.add (.mul (.arg 60000) (.int 5)) (.int (-28109))))).2 &&& 255).toInt32 + ((sd X ρ (.elem (.arg 1761) (.add (.mul (.arg 60000) (.int 5)) (.int (-28108))))).2 &&& 255).toInt32) + ((sd X ρ (.elem (.arg 1761) (.add (.mul (.arg 60000) (.int 5)) (.int (-28107))))).2 &&& 255).toInt32) + ((sd X ρ (.elem (.arg 1761) (.add (.mul (.arg 60000) (.int 5)) (.int (-28106))))).2 &&& 255).toInt32)) (y := ρ.1 60032) (by rw [hB, hs, d4]; omega)
    exact t_btin4 hv ρ k1 ⟨hF.1, fcn (fN) (fcn (fS) (fcn (dl_ef (x := (sd X ρ (.elem (.arg 1761) (.add (.mul (.arg 60000) (.int 5)) (.int (-28109))))).2) (y := 0) (by rw [x1]; rw [r0] at z0; exact z0)) (fcn (dl_ef (x := (sd X ρ (.elem (.arg 1761) (.add (.mul (.arg 60000) (.int 5)) (.int (-28108))))).2) (y := 0) (by rw [x2]; rw [r1] at z1; exact z1)) (fcn (dl_ef (x := (sd X ρ (.elem (.arg 1761) (.add (.mul (.arg 60000) (.int 5)) (.int (-28107))))).2) (y := 0) (by rw [x3]; rw [r2] at z2; exact z2)) (fcn (dl_ef (x := (sd X ρ (.elem (.arg 1761) (.add (.mul (.arg 60000) (.int 5)) (.int (-28106))))).2) (y := 0) (by rw [x4]; rw [r3] at z3; exact z3)) (fcn (f0) (fcn (f1) (fcn (f2) (fcn (f3) (fcn (f4) (hF.2)))))))))))⟩ hI k4
theorem e_bti : frun kR [] (cpl1 zWP c_bti0 [q_bti]) (cpl2 zWP c_bti0 [q_bti]) (cleaf kR zWP c_bti0 [q_bti]) 10 65536 (isatP (c_bti0.2.2.2.1) c_bti0.2.2.2.2.2.2.2.1) c_bti0.2.2.2.2.2.2.2.1 (sin0 mt_all c_bti0.1.1 5 c_bti0.2.1.1 (foot zWP c_bti0.2.2.1.1)) (sin0 mt_all c_bti0.1.2.1 5 c_bti0.2.1.2 (foot zWP c_bti0.2.2.1.2)) = true := by decide +kernel
theorem s_bti0 {X : pX} : SREL X pF pdfl mt_all kR zWP c_bti0 := SREL_QC kR_x kR_0 (Cs := []) (fun C hC => by cases hC) (d := 5) rfl c_bti0_f (Q := [q_bti]) (fun ρ0 hv => fun q hq => by
    simp only [List.mem_cons, List.not_mem_nil, or_false] at hq
    rw [hq]; exact t_bti hv) (QC_run 10 e_bti)
noncomputable def c_bti : sC := (c_bti0.1, c_bti0.2.1, c_bti0.2.2.1, c_bti0.2.2.2.1, c_bti0.2.2.2.2.1, (some (.long 0), some (.arg 60032)), [], c_bti0.2.2.2.2.2.2.2)
theorem s_bti {X : pX} : SREL X pF pdfl mt_all kR zWP c_bti := SREL_ans s_bti0 (fun ρ hF => hF) (fun ρ ρ' hF hA hG => ⟨⟨rfl, by
  have e : ρ'.1 60064 = ρ'.1 60032 := of_decide_eq_true (hG.2 _ List.mem_cons_self)
  show some (sv X ρ' (.arg 60032)) = some (sv X ρ' (.arg 60064))
  rw [sv_int rfl, sv_int rfl]
  show some (Value.int (ρ'.1 60032)) = some (Value.int (ρ'.1 60064))
  rw [e]⟩, ⟨hG.1, fun f hf => by cases hf⟩⟩)
