set_option maxRecDepth 20000
/-! ===== entry and octet with power, an entry there is ===== -/
theorem en_tab : (List.range 156).all (fun p => (decide (p = 13) || (decide (p = 110) || (decide (p = 111) || decide (p = 112)))) || ((decide (pt_BOOK.getD (5 * p + 1) 0 &&& 15 < 6) && decide (Int32.ofInt (ztab104.getD p 0) < 6)) && ((decide (pt_BOOK.getD (5 * p + 1) 0 &&& 15 = 0) && decide (Int32.ofInt (ztab104.getD p 0) = 0)) || (decide (pt_BOOK.getD (5 * p + 1) 0 &&& 15 = 1) && decide (Int32.ofInt (ztab104.getD p 0) = 1)) || (decide (pt_BOOK.getD (5 * p + 1) 0 &&& 15 = 2) && decide (Int32.ofInt (ztab104.getD p 0) = 2)) || (decide (pt_BOOK.getD (5 * p + 1) 0 &&& 15 = 3) && decide (Int32.ofInt (ztab104.getD p 0) = 3)) || (decide (pt_BOOK.getD (5 * p + 1) 0 &&& 15 = 4) && decide (Int32.ofInt (ztab104.getD p 0) = 4)) || (decide (pt_BOOK.getD (5 * p + 1) 0 &&& 15 = 5) && decide (Int32.ofInt (ztab104.getD p 0) = 5))))) = true := by decide +kernel
theorem bz_0 : tbv [] (.op2 .iand (.op1 .l2i (.op2 .lushr (.arg 5121) (.int 0))) (.int 255)) (.op1 .l2i (.op2 .land (.op2 .lshr (.arg 5121) (.int 0)) (.long 255))) = true := by decide +kernel
theorem bz_1 : tbv [] (.op2 .iand (.op1 .l2i (.op2 .lushr (.arg 5121) (.int 8))) (.int 255)) (.op1 .l2i (.op2 .land (.op2 .lshr (.arg 5121) (.int 8)) (.long 255))) = true := by decide +kernel
theorem bz_2 : tbv [] (.op2 .iand (.op1 .l2i (.op2 .lushr (.arg 5121) (.int 16))) (.int 255)) (.op1 .l2i (.op2 .land (.op2 .lshr (.arg 5121) (.int 16)) (.long 255))) = true := by decide +kernel
theorem bz_3 : tbv [] (.op2 .iand (.op1 .l2i (.op2 .lushr (.arg 5121) (.int 24))) (.int 255)) (.op1 .l2i (.op2 .land (.op2 .lshr (.arg 5121) (.int 24)) (.long 255))) = true := by decide +kernel
/-- a byte of a number, both ways, its place not known -/
theorem bz_i {X : pX} {ρ : sR} (hv : vok X ρ) (h0 : 0 ≤ (ρ.1 60384).toInt) (h4 : (ρ.1 60384).toInt < 4) : sv X ρ (.op2 .iand (.op1 .l2i (.op2 .lushr (.arg 60065) (.mul (.arg 60384) (.int 8)))) (.int 255)) = sv X ρ (.op1 .l2i (.op2 .land (.op2 .lshr (.arg 60065) (.mul (.arg 60384) (.int 8))) (.long 255))) := by
  have ka : ∀ x y : Int32 × Int64, s2 .lushr x y = s2 .lushr x (y.1, 0) := fun _ _ => rfl
  have kb : ∀ x y : Int32 × Int64, s2 .lshr x y = s2 .lshr x (y.1, 0) := fun _ _ => rfl
  have key : ∀ k : Int32, (sd X ρ (.mul (.arg 60384) (.int 8))).1 = k → sv X ρ (.op2 .iand (.op1 .l2i (.op2 .lushr (.arg 60065) (.int k))) (.int 255)) = sv X ρ (.op1 .l2i (.op2 .land (.op2 .lshr (.arg 60065) (.int k)) (.long 255))) → sv X ρ (.op2 .iand (.op1 .l2i (.op2 .lushr (.arg 60065) (.mul (.arg 60384) (.int 8)))) (.int 255)) = sv X ρ (.op1 .l2i (.op2 .land (.op2 .lshr (.arg 60065) (.mul (.arg 60384) (.int 8))) (.long 255))) := by
    intro k e h
    rw [sv_int rfl, sv_int rfl] at h ⊢
    have h := Value.int.inj h
    refine congrArg Value.int ?_
    have h : (s2 .iand (s1 .l2i (s2 .lushr (sd X ρ (.arg 60065)) (k, 0))) (255, 0)).1 = (s1 .l2i (s2 .land (s2 .lshr (sd X ρ (.arg 60065)) (k, 0)) (0, 255))).1 := h
    show (s2 .iand (s1 .l2i (s2 .lushr (sd X ρ (.arg 60065)) (sd X ρ (.mul (.arg 60384) (.int 8))))) (255, 0)).1 = (s1 .l2i (s2 .land (s2 .lshr (sd X ρ (.arg 60065)) (sd X ρ (.mul (.arg 60384) (.int 8)))) (0, 255))).1
    rw [ka, kb, e]
    exact h
  have em : ∀ c : Int32, ρ.1 60384 = c → (sd X ρ (.mul (.arg 60384) (.int 8))).1 = c * 8 := fun c e => by
    show ρ.1 60384 * 8 = c * 8
    rw [e]
  rcases (show (ρ.1 60384).toInt = 0 ∨ (ρ.1 60384).toInt = 1 ∨ (ρ.1 60384).toInt = 2 ∨ (ρ.1 60384).toInt = 3 by omega) with h | h | h | h
  · exact key 0 (em 0 (Int32.toInt_inj.mp (by rw [h]; rfl))) (bx_k hv bz_0 rfl)
  · exact key 8 (em 1 (Int32.toInt_inj.mp (by rw [h]; rfl))) (bx_k hv bz_1 rfl)
  · exact key 16 (em 2 (Int32.toInt_inj.mp (by rw [h]; rfl))) (bx_k hv bz_2 rfl)
  · exact key 24 (em 3 (Int32.toInt_inj.mp (by rw [h]; rfl))) (bx_k hv bz_3 rfl)
noncomputable def cD_ent0 : sC := ((182, 408, 20), ([tr 0, .int 0, .arg 60320, .arg 60352], [tr 219, .int 0, .arg 60320, .arg 60352]), (fT1, fT2), [((0, .arg 1282, .int 0), false), ((2, .arg 60320, .int 0), false), ((2, .int 65535, .arg 60320), false), ((2, .arg 60352, .int 0), false), ((109, .add (.arg 60320) (.arg 60352), .arg 60416), true), ((2, .arg 60416, .int 0), false)], ([19232], []), (none, none), [], ([], []))
theorem cD_ent0_f : cfine zT 65536 cD_ent0 = true := by decide +kernel
theorem s_ent0 {X : pX} {t : Int} : SRELP X kR zT cD_ent0 19 20 (PT X t) (QJ X t) := SRELP_in cD_ent0_f (fun ρ hk hf _ hp => by
  have hon := hf.2 _ (List.mem_cons_self)
  have hi0 := hf.2 _ (List.mem_cons_of_mem _ (List.mem_cons_self))
  have hi1 := hf.2 _ (List.mem_cons_of_mem _ (List.mem_cons_of_mem _ (List.mem_cons_self)))
  have hs0 := hf.2 _ (List.mem_cons_of_mem _ (List.mem_cons_of_mem _ (List.mem_cons_of_mem _ (List.mem_cons_self))))
  have h109 := hf.2 _ (List.mem_cons_of_mem _ (List.mem_cons_of_mem _ (List.mem_cons_of_mem _ (List.mem_cons_of_mem _ (List.mem_cons_self)))))
  have hl0 := hf.2 _ (List.mem_cons_of_mem _ (List.mem_cons_of_mem _ (List.mem_cons_of_mem _ (List.mem_cons_of_mem _ (List.mem_cons_of_mem _ (List.mem_cons_self))))))
  have on1 : ¬ ρ.1 1282 = 0 := of_decide_eq_false hon
  have g1 : (ρ.1 60416).toInt = aslot (ρ.1 60320).toInt (ρ.1 60352).toInt := of_decide_eq_true h109
  have g2 : (0 : Int) ≤ (ρ.1 60416).toInt := ri_lf (x := ρ.1 60416) (y := 0) hl0
  rcases as_cases g1 with q | q | ⟨p, hp2, hn, -⟩
  · omega
  · omega
  have m1 := op_tab hk hp2 (s := 60416) rfl hn
  have d := (hp.1.1.1).1 on1
  have l155 : sc X ρ (2, .int 155, .arg 60416) = false := decide_eq_false (nlt_i (show (ρ.1 60416).toInt ≤ (155 : Int32).toInt by rw [hn, show (155 : Int32).toInt = 155 from rfl]; omega))
  have tt := List.all_eq_true.mp en_tab p (List.mem_range.mpr hp2)
  simp only [Bool.or_eq_true, Bool.and_eq_true, decide_eq_true_eq] at tt
  rcases tt with (t | t | t | t) | ⟨⟨t5, t6⟩, tt⟩
  · exact r_er0_13 hk ⟨hf.1, fcn (hon) (fcn (hi0) (fcn (hi1) (fcn (hs0) (fcn (decide_eq_true (show (13 : Int32).toInt = aslot (ρ.1 60320).toInt (ρ.1 60352).toInt by rw [← g1, hn, t]; rfl)) ((fun f hf => by cases hf))))))⟩ (fun c hc => by cases hc) (fun ρ3 k3 f3 am => c_En k3 f3.1 ⟨some (.long (ρ3.2.1 60065)), some (.long (ρ3.2.1 60065)), rfl, rfl, ⟨(ρ3.2.1 60065), rfl, rfl⟩, k3, f3.1, of_decide_eq_true (f3.2 _ List.mem_cons_self), PT_keep am (by decide +kernel) hp⟩)
  · exact r_er0_110 hk ⟨hf.1, fcn (hon) (fcn (hi0) (fcn (hi1) (fcn (hs0) (fcn (decide_eq_true (show (110 : Int32).toInt = aslot (ρ.1 60320).toInt (ρ.1 60352).toInt by rw [← g1, hn, t]; rfl)) ((fun f hf => by cases hf))))))⟩ (fun c hc => by cases hc) (fun ρ3 k3 f3 am => c_En k3 f3.1 ⟨some (.long (ρ3.2.1 60065)), some (.long (ρ3.2.1 60065)), rfl, rfl, ⟨(ρ3.2.1 60065), rfl, rfl⟩, k3, f3.1, of_decide_eq_true (f3.2 _ List.mem_cons_self), PT_keep am (by decide +kernel) hp⟩)
  · exact r_er0_111 hk ⟨hf.1, fcn (hon) (fcn (hi0) (fcn (hi1) (fcn (hs0) (fcn (decide_eq_true (show (111 : Int32).toInt = aslot (ρ.1 60320).toInt (ρ.1 60352).toInt by rw [← g1, hn, t]; rfl)) ((fun f hf => by cases hf))))))⟩ (fun c hc => by cases hc) (fun ρ3 k3 f3 am => c_En k3 f3.1 ⟨some (.long (ρ3.2.1 60065)), some (.long (ρ3.2.1 60065)), rfl, rfl, ⟨(ρ3.2.1 60065), rfl, rfl⟩, k3, f3.1, of_decide_eq_true (f3.2 _ List.mem_cons_self), PT_keep am (by decide +kernel) hp⟩)
  · exact r_er0_112 hk ⟨hf.1, fcn (hon) (fcn (hi0) (fcn (hi1) (fcn (hs0) (fcn (decide_eq_true (show (112 : Int32).toInt = aslot (ρ.1 60320).toInt (ρ.1 60352).toInt by rw [← g1, hn, t]; rfl)) ((fun f hf => by cases hf))))))⟩ (fun c hc => by cases hc) (fun ρ3 k3 f3 am => c_En k3 f3.1 ⟨some (.long (ρ3.2.1 60065)), some (.long (ρ3.2.1 60065)), rfl, rfl, ⟨(ρ3.2.1 60065), rfl, rfl⟩, k3, f3.1, of_decide_eq_true (f3.2 _ List.mem_cons_self), PT_keep am (by decide +kernel) hp⟩)
  · exact r_en0 hk ⟨hf.1, fcn (hon) (fcn (hi0) (fcn (hi1) (fcn (hs0) (fcn (h109) (fcn (hl0) (fcn (l155) (fcn (decide_eq_true (show (sd X ρ (.elem (.string "" 1) (.add (.mul (.arg 60416) (.int 5)) (.int 1)))).1 &&& 15 < 6 by rw [m1.1]; exact t5)) (fcn (decide_eq_true (show ρ.2.2.1 104 (ρ.1 60416).toNatClampNeg < 6 by rw [m1.2.2.2.1]; exact t6)) ((fall_S (L := fw_0) (by decide +kernel) d.1))))))))))⟩ (iok_S (L := iw_0) (by decide +kernel) d.2) (fun ρ3 k3 f3 am => c_En k3 f3.1 ⟨some (.long (ρ3.2.1 60065)), some (.long (ρ3.2.1 60065)), rfl, rfl, ⟨(ρ3.2.1 60065), rfl, rfl⟩, k3, f3.1, of_decide_eq_true (f3.2 _ List.mem_cons_self), PT_keep am (by decide +kernel) hp⟩))
noncomputable def cD_ent1 : sC := ((182, 408, 20), ([tr 0, .int 1, .arg 60320, .arg 60352], [tr 219, .int 1, .arg 60320, .arg 60352]), (fT1, fT2), [((0, .arg 1314, .int 0), false), ((2, .arg 60320, .int 0), false), ((2, .int 65535, .arg 60320), false), ((2, .arg 60352, .int 0), false), ((109, .add (.arg 60320) (.arg 60352), .arg 60416), true), ((2, .arg 60416, .int 0), false)], ([19232], []), (none, none), [], ([], []))
theorem cD_ent1_f : cfine zT 65536 cD_ent1 = true := by decide +kernel
theorem s_ent1 {X : pX} {t : Int} : SRELP X kR zT cD_ent1 19 20 (PT X t) (QJ X t) := SRELP_in cD_ent1_f (fun ρ hk hf _ hp => by
  have hon := hf.2 _ (List.mem_cons_self)
  have hi0 := hf.2 _ (List.mem_cons_of_mem _ (List.mem_cons_self))
  have hi1 := hf.2 _ (List.mem_cons_of_mem _ (List.mem_cons_of_mem _ (List.mem_cons_self)))
  have hs0 := hf.2 _ (List.mem_cons_of_mem _ (List.mem_cons_of_mem _ (List.mem_cons_of_mem _ (List.mem_cons_self))))
  have h109 := hf.2 _ (List.mem_cons_of_mem _ (List.mem_cons_of_mem _ (List.mem_cons_of_mem _ (List.mem_cons_of_mem _ (List.mem_cons_self)))))
  have hl0 := hf.2 _ (List.mem_cons_of_mem _ (List.mem_cons_of_mem _ (List.mem_cons_of_mem _ (List.mem_cons_of_mem _ (List.mem_cons_of_mem _ (List.mem_cons_self))))))
  have on1 : ¬ ρ.1 1314 = 0 := of_decide_eq_false hon
  have g1 : (ρ.1 60416).toInt = aslot (ρ.1 60320).toInt (ρ.1 60352).toInt := of_decide_eq_true h109
  have g2 : (0 : Int) ≤ (ρ.1 60416).toInt := ri_lf (x := ρ.1 60416) (y := 0) hl0
  rcases as_cases g1 with q | q | ⟨p, hp2, hn, -⟩
  · omega
  · omega
  have m1 := op_tab hk hp2 (s := 60416) rfl hn
  have d := (hp.1.1.2.1).1 on1
  have l155 : sc X ρ (2, .int 155, .arg 60416) = false := decide_eq_false (nlt_i (show (ρ.1 60416).toInt ≤ (155 : Int32).toInt by rw [hn, show (155 : Int32).toInt = 155 from rfl]; omega))
  have tt := List.all_eq_true.mp en_tab p (List.mem_range.mpr hp2)
  simp only [Bool.or_eq_true, Bool.and_eq_true, decide_eq_true_eq] at tt
  rcases tt with (t | t | t | t) | ⟨⟨t5, t6⟩, tt⟩
  · exact r_er1_13 hk ⟨hf.1, fcn (hon) (fcn (hi0) (fcn (hi1) (fcn (hs0) (fcn (decide_eq_true (show (13 : Int32).toInt = aslot (ρ.1 60320).toInt (ρ.1 60352).toInt by rw [← g1, hn, t]; rfl)) ((fun f hf => by cases hf))))))⟩ (fun c hc => by cases hc) (fun ρ3 k3 f3 am => c_En k3 f3.1 ⟨some (.long (ρ3.2.1 60065)), some (.long (ρ3.2.1 60065)), rfl, rfl, ⟨(ρ3.2.1 60065), rfl, rfl⟩, k3, f3.1, of_decide_eq_true (f3.2 _ List.mem_cons_self), PT_keep am (by decide +kernel) hp⟩)
  · exact r_er1_110 hk ⟨hf.1, fcn (hon) (fcn (hi0) (fcn (hi1) (fcn (hs0) (fcn (decide_eq_true (show (110 : Int32).toInt = aslot (ρ.1 60320).toInt (ρ.1 60352).toInt by rw [← g1, hn, t]; rfl)) ((fun f hf => by cases hf))))))⟩ (fun c hc => by cases hc) (fun ρ3 k3 f3 am => c_En k3 f3.1 ⟨some (.long (ρ3.2.1 60065)), some (.long (ρ3.2.1 60065)), rfl, rfl, ⟨(ρ3.2.1 60065), rfl, rfl⟩, k3, f3.1, of_decide_eq_true (f3.2 _ List.mem_cons_self), PT_keep am (by decide +kernel) hp⟩)
  · exact r_er1_111 hk ⟨hf.1, fcn (hon) (fcn (hi0) (fcn (hi1) (fcn (hs0) (fcn (decide_eq_true (show (111 : Int32).toInt = aslot (ρ.1 60320).toInt (ρ.1 60352).toInt by rw [← g1, hn, t]; rfl)) ((fun f hf => by cases hf))))))⟩ (fun c hc => by cases hc) (fun ρ3 k3 f3 am => c_En k3 f3.1 ⟨some (.long (ρ3.2.1 60065)), some (.long (ρ3.2.1 60065)), rfl, rfl, ⟨(ρ3.2.1 60065), rfl, rfl⟩, k3, f3.1, of_decide_eq_true (f3.2 _ List.mem_cons_self), PT_keep am (by decide +kernel) hp⟩)
  · exact r_er1_112 hk ⟨hf.1, fcn (hon) (fcn (hi0) (fcn (hi1) (fcn (hs0) (fcn (decide_eq_true (show (112 : Int32).toInt = aslot (ρ.1 60320).toInt (ρ.1 60352).toInt by rw [← g1, hn, t]; rfl)) ((fun f hf => by cases hf))))))⟩ (fun c hc => by cases hc) (fun ρ3 k3 f3 am => c_En k3 f3.1 ⟨some (.long (ρ3.2.1 60065)), some (.long (ρ3.2.1 60065)), rfl, rfl, ⟨(ρ3.2.1 60065), rfl, rfl⟩, k3, f3.1, of_decide_eq_true (f3.2 _ List.mem_cons_self), PT_keep am (by decide +kernel) hp⟩)
  · exact r_en1 hk ⟨hf.1, fcn (hon) (fcn (hi0) (fcn (hi1) (fcn (hs0) (fcn (h109) (fcn (hl0) (fcn (l155) (fcn (decide_eq_true (show (sd X ρ (.elem (.string "" 1) (.add (.mul (.arg 60416) (.int 5)) (.int 1)))).1 &&& 15 < 6 by rw [m1.1]; exact t5)) (fcn (decide_eq_true (show ρ.2.2.1 104 (ρ.1 60416).toNatClampNeg < 6 by rw [m1.2.2.2.1]; exact t6)) ((fall_S (L := fw_1) (by decide +kernel) d.1))))))))))⟩ (iok_S (L := iw_1) (by decide +kernel) d.2) (fun ρ3 k3 f3 am => c_En k3 f3.1 ⟨some (.long (ρ3.2.1 60065)), some (.long (ρ3.2.1 60065)), rfl, rfl, ⟨(ρ3.2.1 60065), rfl, rfl⟩, k3, f3.1, of_decide_eq_true (f3.2 _ List.mem_cons_self), PT_keep am (by decide +kernel) hp⟩))
noncomputable def cD_ent2 : sC := ((182, 408, 20), ([tr 0, .int 2, .arg 60320, .arg 60352], [tr 219, .int 2, .arg 60320, .arg 60352]), (fT1, fT2), [((0, .arg 1346, .int 0), false), ((2, .arg 60320, .int 0), false), ((2, .int 65535, .arg 60320), false), ((2, .arg 60352, .int 0), false), ((109, .add (.arg 60320) (.arg 60352), .arg 60416), true), ((2, .arg 60416, .int 0), false)], ([19232], []), (none, none), [], ([], []))
theorem cD_ent2_f : cfine zT 65536 cD_ent2 = true := by decide +kernel
theorem s_ent2 {X : pX} {t : Int} : SRELP X kR zT cD_ent2 19 20 (PT X t) (QJ X t) := SRELP_in cD_ent2_f (fun ρ hk hf _ hp => by
  have hon := hf.2 _ (List.mem_cons_self)
  have hi0 := hf.2 _ (List.mem_cons_of_mem _ (List.mem_cons_self))
  have hi1 := hf.2 _ (List.mem_cons_of_mem _ (List.mem_cons_of_mem _ (List.mem_cons_self)))
  have hs0 := hf.2 _ (List.mem_cons_of_mem _ (List.mem_cons_of_mem _ (List.mem_cons_of_mem _ (List.mem_cons_self))))
  have h109 := hf.2 _ (List.mem_cons_of_mem _ (List.mem_cons_of_mem _ (List.mem_cons_of_mem _ (List.mem_cons_of_mem _ (List.mem_cons_self)))))
  have hl0 := hf.2 _ (List.mem_cons_of_mem _ (List.mem_cons_of_mem _ (List.mem_cons_of_mem _ (List.mem_cons_of_mem _ (List.mem_cons_of_mem _ (List.mem_cons_self))))))
  have on1 : ¬ ρ.1 1346 = 0 := of_decide_eq_false hon
  have g1 : (ρ.1 60416).toInt = aslot (ρ.1 60320).toInt (ρ.1 60352).toInt := of_decide_eq_true h109
  have g2 : (0 : Int) ≤ (ρ.1 60416).toInt := ri_lf (x := ρ.1 60416) (y := 0) hl0
  rcases as_cases g1 with q | q | ⟨p, hp2, hn, -⟩
  · omega
  · omega
  have m1 := op_tab hk hp2 (s := 60416) rfl hn
  have d := (hp.1.1.2.2.1).1 on1
  have l155 : sc X ρ (2, .int 155, .arg 60416) = false := decide_eq_false (nlt_i (show (ρ.1 60416).toInt ≤ (155 : Int32).toInt by rw [hn, show (155 : Int32).toInt = 155 from rfl]; omega))
  have tt := List.all_eq_true.mp en_tab p (List.mem_range.mpr hp2)
  simp only [Bool.or_eq_true, Bool.and_eq_true, decide_eq_true_eq] at tt
  rcases tt with (t | t | t | t) | ⟨⟨t5, t6⟩, tt⟩
  · exact r_er2_13 hk ⟨hf.1, fcn (hon) (fcn (hi0) (fcn (hi1) (fcn (hs0) (fcn (decide_eq_true (show (13 : Int32).toInt = aslot (ρ.1 60320).toInt (ρ.1 60352).toInt by rw [← g1, hn, t]; rfl)) ((fun f hf => by cases hf))))))⟩ (fun c hc => by cases hc) (fun ρ3 k3 f3 am => c_En k3 f3.1 ⟨some (.long (ρ3.2.1 60065)), some (.long (ρ3.2.1 60065)), rfl, rfl, ⟨(ρ3.2.1 60065), rfl, rfl⟩, k3, f3.1, of_decide_eq_true (f3.2 _ List.mem_cons_self), PT_keep am (by decide +kernel) hp⟩)
  · exact r_er2_110 hk ⟨hf.1, fcn (hon) (fcn (hi0) (fcn (hi1) (fcn (hs0) (fcn (decide_eq_true (show (110 : Int32).toInt = aslot (ρ.1 60320).toInt (ρ.1 60352).toInt by rw [← g1, hn, t]; rfl)) ((fun f hf => by cases hf))))))⟩ (fun c hc => by cases hc) (fun ρ3 k3 f3 am => c_En k3 f3.1 ⟨some (.long (ρ3.2.1 60065)), some (.long (ρ3.2.1 60065)), rfl, rfl, ⟨(ρ3.2.1 60065), rfl, rfl⟩, k3, f3.1, of_decide_eq_true (f3.2 _ List.mem_cons_self), PT_keep am (by decide +kernel) hp⟩)
  · exact r_er2_111 hk ⟨hf.1, fcn (hon) (fcn (hi0) (fcn (hi1) (fcn (hs0) (fcn (decide_eq_true (show (111 : Int32).toInt = aslot (ρ.1 60320).toInt (ρ.1 60352).toInt by rw [← g1, hn, t]; rfl)) ((fun f hf => by cases hf))))))⟩ (fun c hc => by cases hc) (fun ρ3 k3 f3 am => c_En k3 f3.1 ⟨some (.long (ρ3.2.1 60065)), some (.long (ρ3.2.1 60065)), rfl, rfl, ⟨(ρ3.2.1 60065), rfl, rfl⟩, k3, f3.1, of_decide_eq_true (f3.2 _ List.mem_cons_self), PT_keep am (by decide +kernel) hp⟩)
  · exact r_er2_112 hk ⟨hf.1, fcn (hon) (fcn (hi0) (fcn (hi1) (fcn (hs0) (fcn (decide_eq_true (show (112 : Int32).toInt = aslot (ρ.1 60320).toInt (ρ.1 60352).toInt by rw [← g1, hn, t]; rfl)) ((fun f hf => by cases hf))))))⟩ (fun c hc => by cases hc) (fun ρ3 k3 f3 am => c_En k3 f3.1 ⟨some (.long (ρ3.2.1 60065)), some (.long (ρ3.2.1 60065)), rfl, rfl, ⟨(ρ3.2.1 60065), rfl, rfl⟩, k3, f3.1, of_decide_eq_true (f3.2 _ List.mem_cons_self), PT_keep am (by decide +kernel) hp⟩)
  · exact r_en2 hk ⟨hf.1, fcn (hon) (fcn (hi0) (fcn (hi1) (fcn (hs0) (fcn (h109) (fcn (hl0) (fcn (l155) (fcn (decide_eq_true (show (sd X ρ (.elem (.string "" 1) (.add (.mul (.arg 60416) (.int 5)) (.int 1)))).1 &&& 15 < 6 by rw [m1.1]; exact t5)) (fcn (decide_eq_true (show ρ.2.2.1 104 (ρ.1 60416).toNatClampNeg < 6 by rw [m1.2.2.2.1]; exact t6)) ((fall_S (L := fw_2) (by decide +kernel) d.1))))))))))⟩ (iok_S (L := iw_2) (by decide +kernel) d.2) (fun ρ3 k3 f3 am => c_En k3 f3.1 ⟨some (.long (ρ3.2.1 60065)), some (.long (ρ3.2.1 60065)), rfl, rfl, ⟨(ρ3.2.1 60065), rfl, rfl⟩, k3, f3.1, of_decide_eq_true (f3.2 _ List.mem_cons_self), PT_keep am (by decide +kernel) hp⟩))
noncomputable def cD_ent3 : sC := ((182, 408, 20), ([tr 0, .int 3, .arg 60320, .arg 60352], [tr 219, .int 3, .arg 60320, .arg 60352]), (fT1, fT2), [((0, .arg 1378, .int 0), false), ((2, .arg 60320, .int 0), false), ((2, .int 65535, .arg 60320), false), ((2, .arg 60352, .int 0), false), ((109, .add (.arg 60320) (.arg 60352), .arg 60416), true), ((2, .arg 60416, .int 0), false)], ([19232], []), (none, none), [], ([], []))
theorem cD_ent3_f : cfine zT 65536 cD_ent3 = true := by decide +kernel
theorem s_ent3 {X : pX} {t : Int} : SRELP X kR zT cD_ent3 19 20 (PT X t) (QJ X t) := SRELP_in cD_ent3_f (fun ρ hk hf _ hp => by
  have hon := hf.2 _ (List.mem_cons_self)
  have hi0 := hf.2 _ (List.mem_cons_of_mem _ (List.mem_cons_self))
  have hi1 := hf.2 _ (List.mem_cons_of_mem _ (List.mem_cons_of_mem _ (List.mem_cons_self)))
  have hs0 := hf.2 _ (List.mem_cons_of_mem _ (List.mem_cons_of_mem _ (List.mem_cons_of_mem _ (List.mem_cons_self))))
  have h109 := hf.2 _ (List.mem_cons_of_mem _ (List.mem_cons_of_mem _ (List.mem_cons_of_mem _ (List.mem_cons_of_mem _ (List.mem_cons_self)))))
  have hl0 := hf.2 _ (List.mem_cons_of_mem _ (List.mem_cons_of_mem _ (List.mem_cons_of_mem _ (List.mem_cons_of_mem _ (List.mem_cons_of_mem _ (List.mem_cons_self))))))
  have on1 : ¬ ρ.1 1378 = 0 := of_decide_eq_false hon
  have g1 : (ρ.1 60416).toInt = aslot (ρ.1 60320).toInt (ρ.1 60352).toInt := of_decide_eq_true h109
  have g2 : (0 : Int) ≤ (ρ.1 60416).toInt := ri_lf (x := ρ.1 60416) (y := 0) hl0
  rcases as_cases g1 with q | q | ⟨p, hp2, hn, -⟩
  · omega
  · omega
  have m1 := op_tab hk hp2 (s := 60416) rfl hn
  have d := (hp.1.1.2.2.2).1 on1
  have l155 : sc X ρ (2, .int 155, .arg 60416) = false := decide_eq_false (nlt_i (show (ρ.1 60416).toInt ≤ (155 : Int32).toInt by rw [hn, show (155 : Int32).toInt = 155 from rfl]; omega))
  have tt := List.all_eq_true.mp en_tab p (List.mem_range.mpr hp2)
  simp only [Bool.or_eq_true, Bool.and_eq_true, decide_eq_true_eq] at tt
  rcases tt with (t | t | t | t) | ⟨⟨t5, t6⟩, tt⟩
  · exact r_er3_13 hk ⟨hf.1, fcn (hon) (fcn (hi0) (fcn (hi1) (fcn (hs0) (fcn (decide_eq_true (show (13 : Int32).toInt = aslot (ρ.1 60320).toInt (ρ.1 60352).toInt by rw [← g1, hn, t]; rfl)) ((fun f hf => by cases hf))))))⟩ (fun c hc => by cases hc) (fun ρ3 k3 f3 am => c_En k3 f3.1 ⟨some (.long (ρ3.2.1 60065)), some (.long (ρ3.2.1 60065)), rfl, rfl, ⟨(ρ3.2.1 60065), rfl, rfl⟩, k3, f3.1, of_decide_eq_true (f3.2 _ List.mem_cons_self), PT_keep am (by decide +kernel) hp⟩)
  · exact r_er3_110 hk ⟨hf.1, fcn (hon) (fcn (hi0) (fcn (hi1) (fcn (hs0) (fcn (decide_eq_true (show (110 : Int32).toInt = aslot (ρ.1 60320).toInt (ρ.1 60352).toInt by rw [← g1, hn, t]; rfl)) ((fun f hf => by cases hf))))))⟩ (fun c hc => by cases hc) (fun ρ3 k3 f3 am => c_En k3 f3.1 ⟨some (.long (ρ3.2.1 60065)), some (.long (ρ3.2.1 60065)), rfl, rfl, ⟨(ρ3.2.1 60065), rfl, rfl⟩, k3, f3.1, of_decide_eq_true (f3.2 _ List.mem_cons_self), PT_keep am (by decide +kernel) hp⟩)
  · exact r_er3_111 hk ⟨hf.1, fcn (hon) (fcn (hi0) (fcn (hi1) (fcn (hs0) (fcn (decide_eq_true (show (111 : Int32).toInt = aslot (ρ.1 60320).toInt (ρ.1 60352).toInt by rw [← g1, hn, t]; rfl)) ((fun f hf => by cases hf))))))⟩ (fun c hc => by cases hc) (fun ρ3 k3 f3 am => c_En k3 f3.1 ⟨some (.long (ρ3.2.1 60065)), some (.long (ρ3.2.1 60065)), rfl, rfl, ⟨(ρ3.2.1 60065), rfl, rfl⟩, k3, f3.1, of_decide_eq_true (f3.2 _ List.mem_cons_self), PT_keep am (by decide +kernel) hp⟩)
  · exact r_er3_112 hk ⟨hf.1, fcn (hon) (fcn (hi0) (fcn (hi1) (fcn (hs0) (fcn (decide_eq_true (show (112 : Int32).toInt = aslot (ρ.1 60320).toInt (ρ.1 60352).toInt by rw [← g1, hn, t]; rfl)) ((fun f hf => by cases hf))))))⟩ (fun c hc => by cases hc) (fun ρ3 k3 f3 am => c_En k3 f3.1 ⟨some (.long (ρ3.2.1 60065)), some (.long (ρ3.2.1 60065)), rfl, rfl, ⟨(ρ3.2.1 60065), rfl, rfl⟩, k3, f3.1, of_decide_eq_true (f3.2 _ List.mem_cons_self), PT_keep am (by decide +kernel) hp⟩)
  · exact r_en3 hk ⟨hf.1, fcn (hon) (fcn (hi0) (fcn (hi1) (fcn (hs0) (fcn (h109) (fcn (hl0) (fcn (l155) (fcn (decide_eq_true (show (sd X ρ (.elem (.string "" 1) (.add (.mul (.arg 60416) (.int 5)) (.int 1)))).1 &&& 15 < 6 by rw [m1.1]; exact t5)) (fcn (decide_eq_true (show ρ.2.2.1 104 (ρ.1 60416).toNatClampNeg < 6 by rw [m1.2.2.2.1]; exact t6)) ((fall_S (L := fw_3) (by decide +kernel) d.1))))))))))⟩ (iok_S (L := iw_3) (by decide +kernel) d.2) (fun ρ3 k3 f3 am => c_En k3 f3.1 ⟨some (.long (ρ3.2.1 60065)), some (.long (ρ3.2.1 60065)), rfl, rfl, ⟨(ρ3.2.1 60065), rfl, rfl⟩, k3, f3.1, of_decide_eq_true (f3.2 _ List.mem_cons_self), PT_keep am (by decide +kernel) hp⟩))
