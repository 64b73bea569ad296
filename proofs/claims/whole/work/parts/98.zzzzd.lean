set_option maxRecDepth 20000
/-! ===== entries and octets, over all drives ===== -/
noncomputable def c_slo13 : sC := (c_sloc.1, c_sloc.2.1, c_sloc.2.2.1, c_sloc.2.2.2.1 ++ [((109, .add (.arg 60000) (.arg 60032), .int 13), true)], c_sloc.2.2.2.2.1, (some (.int 13), some (.int 0)), [], c_sloc.2.2.2.2.2.2.2)
noncomputable def c_fnd13 : sC := (c_fndm.1, c_fndm.2.1, c_fndm.2.2.1, c_fndm.2.2.2.1 ++ [((109, .add (.arg 60000) (.arg 60032), .int 13), true)], c_fndm.2.2.2.2.1, (some (.long 0), some (.int 13)), [], c_fndm.2.2.2.2.2.2.2)
theorem s_slo13 {X : pX} : SREL X pF pdfl mt_all kR zWP c_slo13 := SREL_ans s_sloc (fun ρ hF => ⟨hF.1, fun f hf => hF.2 f (List.mem_append_left _ hf)⟩) (fun ρ ρ' hF hA hG => ⟨⟨by
  have h1 : ((13 : Int32)).toInt = aslot (ρ.1 60000).toInt (ρ.1 60032).toInt := of_decide_eq_true (hF.2 ((109, .add (.arg 60000) (.arg 60032), .int 13), true) (List.mem_append_right _ List.mem_cons_self))
  have h2 : (ρ'.1 60160).toInt = aslot (ρ'.1 60000).toInt (ρ'.1 60032).toInt := of_decide_eq_true (hG.2 _ List.mem_cons_self)
  rw [(hA.1 60000 (by decide)).1, (hA.1 60032 (by decide)).1, ← h1] at h2
  show some (sv X ρ' (.int 13)) = some (sv X ρ' (.arg 60160))
  rw [sv_int rfl, sv_int rfl]
  show some (Value.int (13 : Int32)) = some (Value.int (ρ'.1 60160))
  rw [Int32.toInt_inj.mp h2], rfl⟩, ⟨hG.1, fun f hf => by cases hf⟩⟩)
theorem s_fnd13 {X : pX} : SREL X pF pdfl mt_all kR zWP c_fnd13 := SREL_ans s_fndm (fun ρ hF => ⟨hF.1, fun f hf => hF.2 f (List.mem_append_left _ hf)⟩) (fun ρ ρ' hF hA hG => ⟨⟨rfl, by
  have h1 : ((13 : Int32)).toInt = aslot (ρ.1 60000).toInt (ρ.1 60032).toInt := of_decide_eq_true (hF.2 ((109, .add (.arg 60000) (.arg 60032), .int 13), true) (List.mem_append_right _ List.mem_cons_self))
  have h2 : (ρ'.1 60160).toInt = aslot (ρ'.1 60000).toInt (ρ'.1 60032).toInt := of_decide_eq_true (hG.2 _ List.mem_cons_self)
  rw [(hA.1 60000 (by decide)).1, (hA.1 60032 (by decide)).1, ← h1] at h2
  show some (sv X ρ' (.int 13)) = some (sv X ρ' (.arg 60160))
  rw [sv_int rfl, sv_int rfl]
  show some (Value.int (13 : Int32)) = some (Value.int (ρ'.1 60160))
  rw [Int32.toInt_inj.mp h2]⟩, ⟨hG.1, fun f hf => by cases hf⟩⟩)
noncomputable def c_slo110 : sC := (c_sloc.1, c_sloc.2.1, c_sloc.2.2.1, c_sloc.2.2.2.1 ++ [((109, .add (.arg 60000) (.arg 60032), .int 110), true)], c_sloc.2.2.2.2.1, (some (.int 110), some (.int 0)), [], c_sloc.2.2.2.2.2.2.2)
noncomputable def c_fnd110 : sC := (c_fndm.1, c_fndm.2.1, c_fndm.2.2.1, c_fndm.2.2.2.1 ++ [((109, .add (.arg 60000) (.arg 60032), .int 110), true)], c_fndm.2.2.2.2.1, (some (.long 0), some (.int 110)), [], c_fndm.2.2.2.2.2.2.2)
theorem s_slo110 {X : pX} : SREL X pF pdfl mt_all kR zWP c_slo110 := SREL_ans s_sloc (fun ρ hF => ⟨hF.1, fun f hf => hF.2 f (List.mem_append_left _ hf)⟩) (fun ρ ρ' hF hA hG => ⟨⟨by
  have h1 : ((110 : Int32)).toInt = aslot (ρ.1 60000).toInt (ρ.1 60032).toInt := of_decide_eq_true (hF.2 ((109, .add (.arg 60000) (.arg 60032), .int 110), true) (List.mem_append_right _ List.mem_cons_self))
  have h2 : (ρ'.1 60160).toInt = aslot (ρ'.1 60000).toInt (ρ'.1 60032).toInt := of_decide_eq_true (hG.2 _ List.mem_cons_self)
  rw [(hA.1 60000 (by decide)).1, (hA.1 60032 (by decide)).1, ← h1] at h2
  show some (sv X ρ' (.int 110)) = some (sv X ρ' (.arg 60160))
  rw [sv_int rfl, sv_int rfl]
  show some (Value.int (110 : Int32)) = some (Value.int (ρ'.1 60160))
  rw [Int32.toInt_inj.mp h2], rfl⟩, ⟨hG.1, fun f hf => by cases hf⟩⟩)
theorem s_fnd110 {X : pX} : SREL X pF pdfl mt_all kR zWP c_fnd110 := SREL_ans s_fndm (fun ρ hF => ⟨hF.1, fun f hf => hF.2 f (List.mem_append_left _ hf)⟩) (fun ρ ρ' hF hA hG => ⟨⟨rfl, by
  have h1 : ((110 : Int32)).toInt = aslot (ρ.1 60000).toInt (ρ.1 60032).toInt := of_decide_eq_true (hF.2 ((109, .add (.arg 60000) (.arg 60032), .int 110), true) (List.mem_append_right _ List.mem_cons_self))
  have h2 : (ρ'.1 60160).toInt = aslot (ρ'.1 60000).toInt (ρ'.1 60032).toInt := of_decide_eq_true (hG.2 _ List.mem_cons_self)
  rw [(hA.1 60000 (by decide)).1, (hA.1 60032 (by decide)).1, ← h1] at h2
  show some (sv X ρ' (.int 110)) = some (sv X ρ' (.arg 60160))
  rw [sv_int rfl, sv_int rfl]
  show some (Value.int (110 : Int32)) = some (Value.int (ρ'.1 60160))
  rw [Int32.toInt_inj.mp h2]⟩, ⟨hG.1, fun f hf => by cases hf⟩⟩)
noncomputable def c_slo111 : sC := (c_sloc.1, c_sloc.2.1, c_sloc.2.2.1, c_sloc.2.2.2.1 ++ [((109, .add (.arg 60000) (.arg 60032), .int 111), true)], c_sloc.2.2.2.2.1, (some (.int 111), some (.int 0)), [], c_sloc.2.2.2.2.2.2.2)
noncomputable def c_fnd111 : sC := (c_fndm.1, c_fndm.2.1, c_fndm.2.2.1, c_fndm.2.2.2.1 ++ [((109, .add (.arg 60000) (.arg 60032), .int 111), true)], c_fndm.2.2.2.2.1, (some (.long 0), some (.int 111)), [], c_fndm.2.2.2.2.2.2.2)
theorem s_slo111 {X : pX} : SREL X pF pdfl mt_all kR zWP c_slo111 := SREL_ans s_sloc (fun ρ hF => ⟨hF.1, fun f hf => hF.2 f (List.mem_append_left _ hf)⟩) (fun ρ ρ' hF hA hG => ⟨⟨by
  have h1 : ((111 : Int32)).toInt = aslot (ρ.1 60000).toInt (ρ.1 60032).toInt := of_decide_eq_true (hF.2 ((109, .add (.arg 60000) (.arg 60032), .int 111), true) (List.mem_append_right _ List.mem_cons_self))
  have h2 : (ρ'.1 60160).toInt = aslot (ρ'.1 60000).toInt (ρ'.1 60032).toInt := of_decide_eq_true (hG.2 _ List.mem_cons_self)
  rw [(hA.1 60000 (by decide)).1, (hA.1 60032 (by decide)).1, ← h1] at h2
  show some (sv X ρ' (.int 111)) = some (sv X ρ' (.arg 60160))
  rw [sv_int rfl, sv_int rfl]
  show some (Value.int (111 : Int32)) = some (Value.int (ρ'.1 60160))
  rw [Int32.toInt_inj.mp h2], rfl⟩, ⟨hG.1, fun f hf => by cases hf⟩⟩)
theorem s_fnd111 {X : pX} : SREL X pF pdfl mt_all kR zWP c_fnd111 := SREL_ans s_fndm (fun ρ hF => ⟨hF.1, fun f hf => hF.2 f (List.mem_append_left _ hf)⟩) (fun ρ ρ' hF hA hG => ⟨⟨rfl, by
  have h1 : ((111 : Int32)).toInt = aslot (ρ.1 60000).toInt (ρ.1 60032).toInt := of_decide_eq_true (hF.2 ((109, .add (.arg 60000) (.arg 60032), .int 111), true) (List.mem_append_right _ List.mem_cons_self))
  have h2 : (ρ'.1 60160).toInt = aslot (ρ'.1 60000).toInt (ρ'.1 60032).toInt := of_decide_eq_true (hG.2 _ List.mem_cons_self)
  rw [(hA.1 60000 (by decide)).1, (hA.1 60032 (by decide)).1, ← h1] at h2
  show some (sv X ρ' (.int 111)) = some (sv X ρ' (.arg 60160))
  rw [sv_int rfl, sv_int rfl]
  show some (Value.int (111 : Int32)) = some (Value.int (ρ'.1 60160))
  rw [Int32.toInt_inj.mp h2]⟩, ⟨hG.1, fun f hf => by cases hf⟩⟩)
noncomputable def c_slo112 : sC := (c_sloc.1, c_sloc.2.1, c_sloc.2.2.1, c_sloc.2.2.2.1 ++ [((109, .add (.arg 60000) (.arg 60032), .int 112), true)], c_sloc.2.2.2.2.1, (some (.int 112), some (.int 0)), [], c_sloc.2.2.2.2.2.2.2)
noncomputable def c_fnd112 : sC := (c_fndm.1, c_fndm.2.1, c_fndm.2.2.1, c_fndm.2.2.2.1 ++ [((109, .add (.arg 60000) (.arg 60032), .int 112), true)], c_fndm.2.2.2.2.1, (some (.long 0), some (.int 112)), [], c_fndm.2.2.2.2.2.2.2)
theorem s_slo112 {X : pX} : SREL X pF pdfl mt_all kR zWP c_slo112 := SREL_ans s_sloc (fun ρ hF => ⟨hF.1, fun f hf => hF.2 f (List.mem_append_left _ hf)⟩) (fun ρ ρ' hF hA hG => ⟨⟨by
  have h1 : ((112 : Int32)).toInt = aslot (ρ.1 60000).toInt (ρ.1 60032).toInt := of_decide_eq_true (hF.2 ((109, .add (.arg 60000) (.arg 60032), .int 112), true) (List.mem_append_right _ List.mem_cons_self))
  have h2 : (ρ'.1 60160).toInt = aslot (ρ'.1 60000).toInt (ρ'.1 60032).toInt := of_decide_eq_true (hG.2 _ List.mem_cons_self)
  rw [(hA.1 60000 (by decide)).1, (hA.1 60032 (by decide)).1, ← h1] at h2
  show some (sv X ρ' (.int 112)) = some (sv X ρ' (.arg 60160))
  rw [sv_int rfl, sv_int rfl]
  show some (Value.int (112 : Int32)) = some (Value.int (ρ'.1 60160))
  rw [Int32.toInt_inj.mp h2], rfl⟩, ⟨hG.1, fun f hf => by cases hf⟩⟩)
theorem s_fnd112 {X : pX} : SREL X pF pdfl mt_all kR zWP c_fnd112 := SREL_ans s_fndm (fun ρ hF => ⟨hF.1, fun f hf => hF.2 f (List.mem_append_left _ hf)⟩) (fun ρ ρ' hF hA hG => ⟨⟨rfl, by
  have h1 : ((112 : Int32)).toInt = aslot (ρ.1 60000).toInt (ρ.1 60032).toInt := of_decide_eq_true (hF.2 ((109, .add (.arg 60000) (.arg 60032), .int 112), true) (List.mem_append_right _ List.mem_cons_self))
  have h2 : (ρ'.1 60160).toInt = aslot (ρ'.1 60000).toInt (ρ'.1 60032).toInt := of_decide_eq_true (hG.2 _ List.mem_cons_self)
  rw [(hA.1 60000 (by decide)).1, (hA.1 60032 (by decide)).1, ← h1] at h2
  show some (sv X ρ' (.int 112)) = some (sv X ρ' (.arg 60160))
  rw [sv_int rfl, sv_int rfl]
  show some (Value.int (112 : Int32)) = some (Value.int (ρ'.1 60160))
  rw [Int32.toInt_inj.mp h2]⟩, ⟨hG.1, fun f hf => by cases hf⟩⟩)
noncomputable def tEn : (sF × List sF × Nat) × (sF × List sF × Nat) := ((fr 0 182 25 [] [.arg 60065], [fBot], 18), (fr 0 408 26 [] [.arg 60065], [fBot], 19))
noncomputable def q_teEn : sCut := (tEn.1, tEn.2, [], [])
theorem k_teEn : cbody kR [] [] [] (lendP kR zT cD_en.2.2.1.1 cD_en.2.2.1.2 [.arg 60065] [.arg 60065]) 100 true true q_teEn.2.2.1 q_teEn.2.2.2 (cst zT cD_en.2.2.1.1 q_teEn.1) (cst zT cD_en.2.2.1.2 q_teEn.2.1) = true := by decide +kernel
theorem c_En {X : pX} {J : sR → List Value → List Value → Prop} {ρ : sR} (hk : kok X ρ kR) (hv : vok X ρ) (hJ : J ρ (dS X ρ [.arg 60065]) (dS X ρ [.arg 60065])) : RPt X J ρ tEn := END_P kR_x kR_0 (Cs := []) (fun C hC => by cases hC) cD_en_f 100 (q := q_teEn) k_teEn hk ⟨hv, fun f hf => by cases hf⟩ (fun c hc => by cases hc) hJ
noncomputable def cD_en0 : sC := ((182, 408, 20), ([tr 0, .int 0, .arg 60320, .arg 60352], [tr 219, .int 0, .arg 60320, .arg 60352]), (fT1, fT2), [], ([19232, 60000, 60064, 60065, 60096, 60128, 60160] ++ c_vlt0.2.2.2.2.1.1, c_vlt0.2.2.2.2.1.2), (none, none), [], ([], []))
theorem cD_en0_f : cfine zT 65536 cD_en0 = true := by decide +kernel
noncomputable def f_en0 : sFs := [((0, .arg 1282, .int 0), false), ((2, .arg 60320, .int 0), false), ((2, .int 65535, .arg 60320), false), ((2, .arg 60352, .int 0), false), ((109, .add (.arg 60320) (.arg 60352), .arg 60416), true), ((2, .arg 60416, .int 0), false), ((2, .int 155, .arg 60416), false), ((2, .op2 .iand (.elem (.string "" 1) (.add (.mul (.arg 60416) (.int 5)) (.int 1))) (.int 15), .int 6), true), ((2, .elem (.arg 104) (.arg 60416), .int 6), true), ((6, .arg 1825, .op2 .lmul (.arg 5441) (.long 1000000)), true), ((6, .arg 2113, .op1 .i2l (.arg 20448)), true), ((0, .arg 3296, .arg 6338), true), ((0, .arg 1574, .arg 1318), true), ((0, .arg 20192, .arg 2816), true), ((0, .arg 20064, .arg 2784), true), ((0, .arg 6082, .arg 1954), true), ((0, .arg 6210, .arg 1986), true), ((6, .arg 5313, .arg 1633), true), ((6, .arg 5473, .arg 1857), true), ((6, .arg 5505, .arg 1889), true), ((6, .arg 5537, .arg 1921), true), ((100, .elem (.arg 2944) (.int 0), .arg 1318), true), ((104, .add (.arg 6625) (.add (.arg 7041) (.elem (.arg 2944) (.int 0))), .arg 1318), true), ((2, .arg 2816, .int 1), false), ((2, .int 7, .arg 2816), false), ((0, .arg 2050, .int 0), true), ((101, .elem (.arg 1761) (.int 0), .int 0), true)]
noncomputable def i_en0 : sI := [([((0, .arg 2816, .int 4), true), ((0, .arg 2050, .int 0), true), ((6, .arg 7073, .long 6), true), ((0, .arg 2018, .int 0), false)], (0, .arg 20704, .arg 3072), true), ([((0, .arg 2816, .int 4), true), ((0, .arg 2050, .int 0), true), ((6, .arg 7073, .long 6), true), ((0, .arg 2018, .int 0), true)], (0, .arg 20704, .int 0), true), ([((0, .arg 2816, .int 4), true), ((0, .arg 2050, .int 0), true), ((6, .arg 7073, .long 6), true), ((0, .arg 2018, .int 0), false)], (2, .int 0, .arg 3072), true), ([((0, .arg 2816, .int 4), true), ((0, .arg 2050, .int 0), true), ((6, .arg 7073, .long 6), true), ((0, .arg 2018, .int 0), false)], (2, .arg 3072, .int 5), true), ([((0, .arg 2816, .int 4), true), ((0, .arg 2050, .int 0), true), ((6, .arg 7073, .long 6), true), ((0, .arg 2018, .int 0), false), ((0, .arg 3040, .int 17), false)], (0, .arg 3040, .int 18), true), ([((0, .arg 2816, .int 4), true), ((0, .arg 2050, .int 0), true), ((6, .arg 7073, .long (-1)), true), ((0, .arg 2018, .int 0), false)], (0, .arg 20832, .arg 3104), true), ([((0, .arg 2816, .int 4), true), ((0, .arg 2050, .int 0), true), ((6, .arg 7073, .long (-1)), true), ((0, .arg 2018, .int 0), true)], (0, .arg 20832, .int (-1)), true), ([((0, .arg 2816, .int 4), true), ((0, .arg 2050, .int 0), true), ((6, .arg 7073, .long (-1)), true), ((0, .arg 2018, .int 0), false)], (2, .int (-1), .arg 3104), true), ([((0, .arg 2816, .int 4), true), ((0, .arg 2050, .int 0), true), ((6, .arg 7073, .long (-1)), true), ((0, .arg 2018, .int 0), false)], (2, .arg 3104, .int 12), true), ([((0, .arg 2816, .int 4), true), ((0, .arg 2050, .int 0), true), ((6, .arg 7073, .long (-1)), true), ((0, .arg 2018, .int 0), false)], (2, .arg 3104, .div (.arg 1330) (.int 12)), true), ([((0, .arg 2816, .int 4), true), ((0, .arg 2050, .int 0), true), ((6, .arg 7073, .long (-1)), true), ((0, .arg 2018, .int 0), false)], (8, .long 0, .arg 1857), true), ([((0, .arg 2816, .int 4), true), ((0, .arg 2050, .int 0), true), ((6, .arg 7073, .long 1), true)], (0, .arg 3008, .arg 20576), true), ([((0, .arg 2816, .int 4), true), ((0, .arg 2050, .int 0), true), ((6, .arg 7073, .long 6), false)], (0, .arg 1986, .int 0), true), ([((0, .arg 2816, .int 4), true), ((0, .arg 2050, .int 0), true), ((6, .arg 7073, .long 0), true)], (0, .arg 1954, .int 0), true), ([((6, .arg 7073, .long (-1)), false), ((6, .arg 7073, .long 0), false), ((6, .arg 7073, .long 1), false), ((6, .arg 7073, .long 3), false), ((6, .arg 7073, .long 6), false)], (6, .arg 7073, .long 8), true)]
noncomputable def p_en0 : sCut := (tEn.1, tEn.2, [((0, .arg 19232, .int 0), true)], [])
theorem e_en0 : frun kR [(zWP, c_slol), (zWP, c_fndl), (zT, c_vlt0)] (cpl1 zT cD_en0 [p_en0]) (cpl2 zT cD_en0 [p_en0]) (cleafN kR zT cD_en0 [p_en0]) 400 65536 (isatP f_en0 i_en0) i_en0 (sin0 mt_all cD_en0.1.1 18 cD_en0.2.1.1 (foot zT cD_en0.2.2.1.1)) (sin0 mt_all cD_en0.1.2.1 19 cD_en0.2.1.2 (foot zT cD_en0.2.2.1.2)) = true := by decide +kernel
theorem r_en0 {X : pX} {J : sR → List Value → List Value → Prop} {ρ : sR} (k1 : kok X ρ kR) (k2 : fok X ρ f_en0) (ki : iok X ρ i_en0) (hQ : ∀ ρ3 : sR, kok X ρ3 kR → fok X ρ3 p_en0.2.2.1 → agrM 65536 cD_en0.2.2.2.2.1.1 cD_en0.2.2.2.2.1.2 ρ3 ρ → RPt X J ρ3 tEn) : RelP X pF pdfl mt_all 19 20 (foot zT fT1) (foot zT fT2) J ρ (sin0 mt_all 182 18 cD_en0.2.1.1 (foot zT fT1)) (sin0 mt_all 408 19 cD_en0.2.1.2 (foot zT fT2)) := START_P kR_x kR_0 (Cs := [(zWP, c_slol), (zWP, c_fndl), (zT, c_vlt0)]) (fun C hC => by
  simp only [List.mem_cons, List.not_mem_nil, or_false] at hC
  rcases hC with rfl | rfl | rfl
  · exact s_slol
  · exact s_fndl
  · exact s_vlt0) cD_en0_f (Q := [p_en0]) 400 e_en0 k1 k2 ki (fun p hp => by
  rw [List.mem_singleton.mp hp]
  exact fun ρ3 k3 f3 _ am => hQ ρ3 k3 f3 am)
noncomputable def cD_en1 : sC := ((182, 408, 20), ([tr 0, .int 1, .arg 60320, .arg 60352], [tr 219, .int 1, .arg 60320, .arg 60352]), (fT1, fT2), [], ([19232, 60000, 60064, 60065, 60096, 60128, 60160] ++ c_vlt1.2.2.2.2.1.1, c_vlt1.2.2.2.2.1.2), (none, none), [], ([], []))
theorem cD_en1_f : cfine zT 65536 cD_en1 = true := by decide +kernel
noncomputable def f_en1 : sFs := [((0, .arg 1314, .int 0), false), ((2, .arg 60320, .int 0), false), ((2, .int 65535, .arg 60320), false), ((2, .arg 60352, .int 0), false), ((109, .add (.arg 60320) (.arg 60352), .arg 60416), true), ((2, .arg 60416, .int 0), false), ((2, .int 155, .arg 60416), false), ((2, .op2 .iand (.elem (.string "" 1) (.add (.mul (.arg 60416) (.int 5)) (.int 1))) (.int 15), .int 6), true), ((2, .elem (.arg 104) (.arg 60416), .int 6), true), ((6, .arg 2689, .op2 .lmul (.arg 5569) (.long 1000000)), true), ((6, .arg 2977, .op1 .i2l (.arg 20480)), true), ((0, .arg 7072, .arg 6370), true), ((0, .arg 1606, .arg 1382), true), ((0, .arg 20224, .arg 6592), true), ((0, .arg 20096, .arg 6560), true), ((0, .arg 6114, .arg 2882), true), ((0, .arg 6242, .arg 2914), true), ((6, .arg 5345, .arg 2497), true), ((6, .arg 5601, .arg 2721), true), ((6, .arg 5633, .arg 2753), true), ((6, .arg 5665, .arg 2785), true), ((100, .elem (.arg 6720) (.int 0), .arg 1382), true), ((104, .add (.arg 6657) (.add (.arg 30305) (.elem (.arg 6720) (.int 0))), .arg 1382), true), ((2, .arg 6592, .int 1), false), ((2, .int 7, .arg 6592), false), ((0, .arg 2978, .int 0), true), ((101, .elem (.arg 2625) (.int 0), .int 0), true)]
noncomputable def i_en1 : sI := [([((0, .arg 6592, .int 4), true), ((0, .arg 2978, .int 0), true), ((6, .arg 30337, .long 6), true), ((0, .arg 2946, .int 0), false)], (0, .arg 20736, .arg 6848), true), ([((0, .arg 6592, .int 4), true), ((0, .arg 2978, .int 0), true), ((6, .arg 30337, .long 6), true), ((0, .arg 2946, .int 0), true)], (0, .arg 20736, .int 0), true), ([((0, .arg 6592, .int 4), true), ((0, .arg 2978, .int 0), true), ((6, .arg 30337, .long 6), true), ((0, .arg 2946, .int 0), false)], (2, .int 0, .arg 6848), true), ([((0, .arg 6592, .int 4), true), ((0, .arg 2978, .int 0), true), ((6, .arg 30337, .long 6), true), ((0, .arg 2946, .int 0), false)], (2, .arg 6848, .int 5), true), ([((0, .arg 6592, .int 4), true), ((0, .arg 2978, .int 0), true), ((6, .arg 30337, .long 6), true), ((0, .arg 2946, .int 0), false), ((0, .arg 6816, .int 17), false)], (0, .arg 6816, .int 18), true), ([((0, .arg 6592, .int 4), true), ((0, .arg 2978, .int 0), true), ((6, .arg 30337, .long (-1)), true), ((0, .arg 2946, .int 0), false)], (0, .arg 20864, .arg 6880), true), ([((0, .arg 6592, .int 4), true), ((0, .arg 2978, .int 0), true), ((6, .arg 30337, .long (-1)), true), ((0, .arg 2946, .int 0), true)], (0, .arg 20864, .int (-1)), true), ([((0, .arg 6592, .int 4), true), ((0, .arg 2978, .int 0), true), ((6, .arg 30337, .long (-1)), true), ((0, .arg 2946, .int 0), false)], (2, .int (-1), .arg 6880), true), ([((0, .arg 6592, .int 4), true), ((0, .arg 2978, .int 0), true), ((6, .arg 30337, .long (-1)), true), ((0, .arg 2946, .int 0), false)], (2, .arg 6880, .int 12), true), ([((0, .arg 6592, .int 4), true), ((0, .arg 2978, .int 0), true), ((6, .arg 30337, .long (-1)), true), ((0, .arg 2946, .int 0), false)], (2, .arg 6880, .div (.arg 1394) (.int 12)), true), ([((0, .arg 6592, .int 4), true), ((0, .arg 2978, .int 0), true), ((6, .arg 30337, .long (-1)), true), ((0, .arg 2946, .int 0), false)], (8, .long 0, .arg 2721), true), ([((0, .arg 6592, .int 4), true), ((0, .arg 2978, .int 0), true), ((6, .arg 30337, .long 1), true)], (0, .arg 6784, .arg 20608), true), ([((0, .arg 6592, .int 4), true), ((0, .arg 2978, .int 0), true), ((6, .arg 30337, .long 6), false)], (0, .arg 2914, .int 0), true), ([((0, .arg 6592, .int 4), true), ((0, .arg 2978, .int 0), true), ((6, .arg 30337, .long 0), true)], (0, .arg 2882, .int 0), true), ([((6, .arg 30337, .long (-1)), false), ((6, .arg 30337, .long 0), false), ((6, .arg 30337, .long 1), false), ((6, .arg 30337, .long 3), false), ((6, .arg 30337, .long 6), false)], (6, .arg 30337, .long 8), true)]
noncomputable def p_en1 : sCut := (tEn.1, tEn.2, [((0, .arg 19232, .int 0), true)], [])
theorem e_en1 : frun kR [(zWP, c_slol), (zWP, c_fndl), (zT, c_vlt1)] (cpl1 zT cD_en1 [p_en1]) (cpl2 zT cD_en1 [p_en1]) (cleafN kR zT cD_en1 [p_en1]) 400 65536 (isatP f_en1 i_en1) i_en1 (sin0 mt_all cD_en1.1.1 18 cD_en1.2.1.1 (foot zT cD_en1.2.2.1.1)) (sin0 mt_all cD_en1.1.2.1 19 cD_en1.2.1.2 (foot zT cD_en1.2.2.1.2)) = true := by decide +kernel
theorem r_en1 {X : pX} {J : sR → List Value → List Value → Prop} {ρ : sR} (k1 : kok X ρ kR) (k2 : fok X ρ f_en1) (ki : iok X ρ i_en1) (hQ : ∀ ρ3 : sR, kok X ρ3 kR → fok X ρ3 p_en1.2.2.1 → agrM 65536 cD_en1.2.2.2.2.1.1 cD_en1.2.2.2.2.1.2 ρ3 ρ → RPt X J ρ3 tEn) : RelP X pF pdfl mt_all 19 20 (foot zT fT1) (foot zT fT2) J ρ (sin0 mt_all 182 18 cD_en1.2.1.1 (foot zT fT1)) (sin0 mt_all 408 19 cD_en1.2.1.2 (foot zT fT2)) := START_P kR_x kR_0 (Cs := [(zWP, c_slol), (zWP, c_fndl), (zT, c_vlt1)]) (fun C hC => by
  simp only [List.mem_cons, List.not_mem_nil, or_false] at hC
  rcases hC with rfl | rfl | rfl
  · exact s_slol
  · exact s_fndl
  · exact s_vlt1) cD_en1_f (Q := [p_en1]) 400 e_en1 k1 k2 ki (fun p hp => by
  rw [List.mem_singleton.mp hp]
  exact fun ρ3 k3 f3 _ am => hQ ρ3 k3 f3 am)
noncomputable def cD_en2 : sC := ((182, 408, 20), ([tr 0, .int 2, .arg 60320, .arg 60352], [tr 219, .int 2, .arg 60320, .arg 60352]), (fT1, fT2), [], ([19232, 60000, 60064, 60065, 60096, 60128, 60160] ++ c_vlt2.2.2.2.2.1.1, c_vlt2.2.2.2.2.1.2), (none, none), [], ([], []))
theorem cD_en2_f : cfine zT 65536 cD_en2 = true := by decide +kernel
noncomputable def f_en2 : sFs := [((0, .arg 1346, .int 0), false), ((2, .arg 60320, .int 0), false), ((2, .int 65535, .arg 60320), false), ((2, .arg 60352, .int 0), false), ((109, .add (.arg 60320) (.arg 60352), .arg 60416), true), ((2, .arg 60416, .int 0), false), ((2, .int 155, .arg 60416), false), ((2, .op2 .iand (.elem (.string "" 1) (.add (.mul (.arg 60416) (.int 5)) (.int 1))) (.int 15), .int 6), true), ((2, .elem (.arg 104) (.arg 60416), .int 6), true), ((6, .arg 3553, .op2 .lmul (.arg 5697) (.long 1000000)), true), ((6, .arg 3841, .op1 .i2l (.arg 20512)), true), ((0, .arg 10848, .arg 6402), true), ((0, .arg 1638, .arg 1446), true), ((0, .arg 20256, .arg 10368), true), ((0, .arg 20128, .arg 10336), true), ((0, .arg 6146, .arg 3810), true), ((0, .arg 6274, .arg 3842), true), ((6, .arg 5377, .arg 3361), true), ((6, .arg 5729, .arg 3585), true), ((6, .arg 5761, .arg 3617), true), ((6, .arg 5793, .arg 3649), true), ((100, .elem (.arg 10496) (.int 0), .arg 1446), true), ((104, .add (.arg 6689) (.add (.arg 30753) (.elem (.arg 10496) (.int 0))), .arg 1446), true), ((2, .arg 10368, .int 1), false), ((2, .int 7, .arg 10368), false), ((0, .arg 3906, .int 0), true), ((101, .elem (.arg 3489) (.int 0), .int 0), true)]
noncomputable def i_en2 : sI := [([((0, .arg 10368, .int 4), true), ((0, .arg 3906, .int 0), true), ((6, .arg 30785, .long 6), true), ((0, .arg 3874, .int 0), false)], (0, .arg 20768, .arg 10624), true), ([((0, .arg 10368, .int 4), true), ((0, .arg 3906, .int 0), true), ((6, .arg 30785, .long 6), true), ((0, .arg 3874, .int 0), true)], (0, .arg 20768, .int 0), true), ([((0, .arg 10368, .int 4), true), ((0, .arg 3906, .int 0), true), ((6, .arg 30785, .long 6), true), ((0, .arg 3874, .int 0), false)], (2, .int 0, .arg 10624), true), ([((0, .arg 10368, .int 4), true), ((0, .arg 3906, .int 0), true), ((6, .arg 30785, .long 6), true), ((0, .arg 3874, .int 0), false)], (2, .arg 10624, .int 5), true), ([((0, .arg 10368, .int 4), true), ((0, .arg 3906, .int 0), true), ((6, .arg 30785, .long 6), true), ((0, .arg 3874, .int 0), false), ((0, .arg 10592, .int 17), false)], (0, .arg 10592, .int 18), true), ([((0, .arg 10368, .int 4), true), ((0, .arg 3906, .int 0), true), ((6, .arg 30785, .long (-1)), true), ((0, .arg 3874, .int 0), false)], (0, .arg 20896, .arg 10656), true), ([((0, .arg 10368, .int 4), true), ((0, .arg 3906, .int 0), true), ((6, .arg 30785, .long (-1)), true), ((0, .arg 3874, .int 0), true)], (0, .arg 20896, .int (-1)), true), ([((0, .arg 10368, .int 4), true), ((0, .arg 3906, .int 0), true), ((6, .arg 30785, .long (-1)), true), ((0, .arg 3874, .int 0), false)], (2, .int (-1), .arg 10656), true), ([((0, .arg 10368, .int 4), true), ((0, .arg 3906, .int 0), true), ((6, .arg 30785, .long (-1)), true), ((0, .arg 3874, .int 0), false)], (2, .arg 10656, .int 12), true), ([((0, .arg 10368, .int 4), true), ((0, .arg 3906, .int 0), true), ((6, .arg 30785, .long (-1)), true), ((0, .arg 3874, .int 0), false)], (2, .arg 10656, .div (.arg 1458) (.int 12)), true), ([((0, .arg 10368, .int 4), true), ((0, .arg 3906, .int 0), true), ((6, .arg 30785, .long (-1)), true), ((0, .arg 3874, .int 0), false)], (8, .long 0, .arg 3585), true), ([((0, .arg 10368, .int 4), true), ((0, .arg 3906, .int 0), true), ((6, .arg 30785, .long 1), true)], (0, .arg 10560, .arg 20640), true), ([((0, .arg 10368, .int 4), true), ((0, .arg 3906, .int 0), true), ((6, .arg 30785, .long 6), false)], (0, .arg 3842, .int 0), true), ([((0, .arg 10368, .int 4), true), ((0, .arg 3906, .int 0), true), ((6, .arg 30785, .long 0), true)], (0, .arg 3810, .int 0), true), ([((6, .arg 30785, .long (-1)), false), ((6, .arg 30785, .long 0), false), ((6, .arg 30785, .long 1), false), ((6, .arg 30785, .long 3), false), ((6, .arg 30785, .long 6), false)], (6, .arg 30785, .long 8), true)]
noncomputable def p_en2 : sCut := (tEn.1, tEn.2, [((0, .arg 19232, .int 0), true)], [])
theorem e_en2 : frun kR [(zWP, c_slol), (zWP, c_fndl), (zT, c_vlt2)] (cpl1 zT cD_en2 [p_en2]) (cpl2 zT cD_en2 [p_en2]) (cleafN kR zT cD_en2 [p_en2]) 400 65536 (isatP f_en2 i_en2) i_en2 (sin0 mt_all cD_en2.1.1 18 cD_en2.2.1.1 (foot zT cD_en2.2.2.1.1)) (sin0 mt_all cD_en2.1.2.1 19 cD_en2.2.1.2 (foot zT cD_en2.2.2.1.2)) = true := by decide +kernel
theorem r_en2 {X : pX} {J : sR → List Value → List Value → Prop} {ρ : sR} (k1 : kok X ρ kR) (k2 : fok X ρ f_en2) (ki : iok X ρ i_en2) (hQ : ∀ ρ3 : sR, kok X ρ3 kR → fok X ρ3 p_en2.2.2.1 → agrM 65536 cD_en2.2.2.2.2.1.1 cD_en2.2.2.2.2.1.2 ρ3 ρ → RPt X J ρ3 tEn) : RelP X pF pdfl mt_all 19 20 (foot zT fT1) (foot zT fT2) J ρ (sin0 mt_all 182 18 cD_en2.2.1.1 (foot zT fT1)) (sin0 mt_all 408 19 cD_en2.2.1.2 (foot zT fT2)) := START_P kR_x kR_0 (Cs := [(zWP, c_slol), (zWP, c_fndl), (zT, c_vlt2)]) (fun C hC => by
  simp only [List.mem_cons, List.not_mem_nil, or_false] at hC
  rcases hC with rfl | rfl | rfl
  · exact s_slol
  · exact s_fndl
  · exact s_vlt2) cD_en2_f (Q := [p_en2]) 400 e_en2 k1 k2 ki (fun p hp => by
  rw [List.mem_singleton.mp hp]
  exact fun ρ3 k3 f3 _ am => hQ ρ3 k3 f3 am)
noncomputable def cD_en3 : sC := ((182, 408, 20), ([tr 0, .int 3, .arg 60320, .arg 60352], [tr 219, .int 3, .arg 60320, .arg 60352]), (fT1, fT2), [], ([19232, 60000, 60064, 60065, 60096, 60128, 60160] ++ c_vlt3.2.2.2.2.1.1, c_vlt3.2.2.2.2.1.2), (none, none), [], ([], []))
theorem cD_en3_f : cfine zT 65536 cD_en3 = true := by decide +kernel
noncomputable def f_en3 : sFs := [((0, .arg 1378, .int 0), false), ((2, .arg 60320, .int 0), false), ((2, .int 65535, .arg 60320), false), ((2, .arg 60352, .int 0), false), ((109, .add (.arg 60320) (.arg 60352), .arg 60416), true), ((2, .arg 60416, .int 0), false), ((2, .int 155, .arg 60416), false), ((2, .op2 .iand (.elem (.string "" 1) (.add (.mul (.arg 60416) (.int 5)) (.int 1))) (.int 15), .int 6), true), ((2, .elem (.arg 104) (.arg 60416), .int 6), true), ((6, .arg 4417, .op2 .lmul (.arg 5825) (.long 1000000)), true), ((6, .arg 4705, .op1 .i2l (.arg 20544)), true), ((0, .arg 14624, .arg 6434), true), ((0, .arg 1670, .arg 1510), true), ((0, .arg 20288, .arg 14144), true), ((0, .arg 20160, .arg 14112), true), ((0, .arg 6178, .arg 4738), true), ((0, .arg 6306, .arg 4770), true), ((6, .arg 5409, .arg 4225), true), ((6, .arg 5857, .arg 4449), true), ((6, .arg 5889, .arg 4481), true), ((6, .arg 5921, .arg 4513), true), ((100, .elem (.arg 14272) (.int 0), .arg 1510), true), ((104, .add (.arg 6721) (.add (.arg 31201) (.elem (.arg 14272) (.int 0))), .arg 1510), true), ((2, .arg 14144, .int 1), false), ((2, .int 7, .arg 14144), false), ((0, .arg 4834, .int 0), true), ((101, .elem (.arg 4353) (.int 0), .int 0), true)]
noncomputable def i_en3 : sI := [([((0, .arg 14144, .int 4), true), ((0, .arg 4834, .int 0), true), ((6, .arg 31233, .long 6), true), ((0, .arg 4802, .int 0), false)], (0, .arg 20800, .arg 14400), true), ([((0, .arg 14144, .int 4), true), ((0, .arg 4834, .int 0), true), ((6, .arg 31233, .long 6), true), ((0, .arg 4802, .int 0), true)], (0, .arg 20800, .int 0), true), ([((0, .arg 14144, .int 4), true), ((0, .arg 4834, .int 0), true), ((6, .arg 31233, .long 6), true), ((0, .arg 4802, .int 0), false)], (2, .int 0, .arg 14400), true), ([((0, .arg 14144, .int 4), true), ((0, .arg 4834, .int 0), true), ((6, .arg 31233, .long 6), true), ((0, .arg 4802, .int 0), false)], (2, .arg 14400, .int 5), true), ([((0, .arg 14144, .int 4), true), ((0, .arg 4834, .int 0), true), ((6, .arg 31233, .long 6), true), ((0, .arg 4802, .int 0), false), ((0, .arg 14368, .int 17), false)], (0, .arg 14368, .int 18), true), ([((0, .arg 14144, .int 4), true), ((0, .arg 4834, .int 0), true), ((6, .arg 31233, .long (-1)), true), ((0, .arg 4802, .int 0), false)], (0, .arg 20928, .arg 14432), true), ([((0, .arg 14144, .int 4), true), ((0, .arg 4834, .int 0), true), ((6, .arg 31233, .long (-1)), true), ((0, .arg 4802, .int 0), true)], (0, .arg 20928, .int (-1)), true), ([((0, .arg 14144, .int 4), true), ((0, .arg 4834, .int 0), true), ((6, .arg 31233, .long (-1)), true), ((0, .arg 4802, .int 0), false)], (2, .int (-1), .arg 14432), true), ([((0, .arg 14144, .int 4), true), ((0, .arg 4834, .int 0), true), ((6, .arg 31233, .long (-1)), true), ((0, .arg 4802, .int 0), false)], (2, .arg 14432, .int 12), true), ([((0, .arg 14144, .int 4), true), ((0, .arg 4834, .int 0), true), ((6, .arg 31233, .long (-1)), true), ((0, .arg 4802, .int 0), false)], (2, .arg 14432, .div (.arg 1522) (.int 12)), true), ([((0, .arg 14144, .int 4), true), ((0, .arg 4834, .int 0), true), ((6, .arg 31233, .long (-1)), true), ((0, .arg 4802, .int 0), false)], (8, .long 0, .arg 4449), true), ([((0, .arg 14144, .int 4), true), ((0, .arg 4834, .int 0), true), ((6, .arg 31233, .long 1), true)], (0, .arg 14336, .arg 20672), true), ([((0, .arg 14144, .int 4), true), ((0, .arg 4834, .int 0), true), ((6, .arg 31233, .long 6), false)], (0, .arg 4770, .int 0), true), ([((0, .arg 14144, .int 4), true), ((0, .arg 4834, .int 0), true), ((6, .arg 31233, .long 0), true)], (0, .arg 4738, .int 0), true), ([((6, .arg 31233, .long (-1)), false), ((6, .arg 31233, .long 0), false), ((6, .arg 31233, .long 1), false), ((6, .arg 31233, .long 3), false), ((6, .arg 31233, .long 6), false)], (6, .arg 31233, .long 8), true)]
noncomputable def p_en3 : sCut := (tEn.1, tEn.2, [((0, .arg 19232, .int 0), true)], [])
theorem e_en3 : frun kR [(zWP, c_slol), (zWP, c_fndl), (zT, c_vlt3)] (cpl1 zT cD_en3 [p_en3]) (cpl2 zT cD_en3 [p_en3]) (cleafN kR zT cD_en3 [p_en3]) 400 65536 (isatP f_en3 i_en3) i_en3 (sin0 mt_all cD_en3.1.1 18 cD_en3.2.1.1 (foot zT cD_en3.2.2.1.1)) (sin0 mt_all cD_en3.1.2.1 19 cD_en3.2.1.2 (foot zT cD_en3.2.2.1.2)) = true := by decide +kernel
theorem r_en3 {X : pX} {J : sR → List Value → List Value → Prop} {ρ : sR} (k1 : kok X ρ kR) (k2 : fok X ρ f_en3) (ki : iok X ρ i_en3) (hQ : ∀ ρ3 : sR, kok X ρ3 kR → fok X ρ3 p_en3.2.2.1 → agrM 65536 cD_en3.2.2.2.2.1.1 cD_en3.2.2.2.2.1.2 ρ3 ρ → RPt X J ρ3 tEn) : RelP X pF pdfl mt_all 19 20 (foot zT fT1) (foot zT fT2) J ρ (sin0 mt_all 182 18 cD_en3.2.1.1 (foot zT fT1)) (sin0 mt_all 408 19 cD_en3.2.1.2 (foot zT fT2)) := START_P kR_x kR_0 (Cs := [(zWP, c_slol), (zWP, c_fndl), (zT, c_vlt3)]) (fun C hC => by
  simp only [List.mem_cons, List.not_mem_nil, or_false] at hC
  rcases hC with rfl | rfl | rfl
  · exact s_slol
  · exact s_fndl
  · exact s_vlt3) cD_en3_f (Q := [p_en3]) 400 e_en3 k1 k2 ki (fun p hp => by
  rw [List.mem_singleton.mp hp]
  exact fun ρ3 k3 f3 _ am => hQ ρ3 k3 f3 am)
noncomputable def cD_er0_13 : sC := ((182, 408, 20), ([tr 0, .int 0, .arg 60320, .arg 60352], [tr 219, .int 0, .arg 60320, .arg 60352]), (fT1, fT2), [], ([19232, 60000, 60064, 60065, 60096, 60128, 60160], []), (none, none), [], ([], []))
theorem cD_er0_13_f : cfine zT 65536 cD_er0_13 = true := by decide +kernel
noncomputable def f_er0_13 : sFs := [((0, .arg 1282, .int 0), false), ((2, .arg 60320, .int 0), false), ((2, .int 65535, .arg 60320), false), ((2, .arg 60352, .int 0), false), ((109, .add (.arg 60320) (.arg 60352), .int 13), true)]
noncomputable def i_er0_13 : sI := []
noncomputable def p_er0_13 : sCut := (tEn.1, tEn.2, [((0, .arg 19232, .int 0), true)], [])
theorem e_er0_13 : frun kR [(zWP, c_slo13), (zWP, c_fnd13)] (cpl1 zT cD_er0_13 [p_er0_13]) (cpl2 zT cD_er0_13 [p_er0_13]) (cleafN kR zT cD_er0_13 [p_er0_13]) 400 65536 (isatP f_er0_13 i_er0_13) i_er0_13 (sin0 mt_all cD_er0_13.1.1 18 cD_er0_13.2.1.1 (foot zT cD_er0_13.2.2.1.1)) (sin0 mt_all cD_er0_13.1.2.1 19 cD_er0_13.2.1.2 (foot zT cD_er0_13.2.2.1.2)) = true := by decide +kernel
theorem r_er0_13 {X : pX} {J : sR → List Value → List Value → Prop} {ρ : sR} (k1 : kok X ρ kR) (k2 : fok X ρ f_er0_13) (ki : iok X ρ i_er0_13) (hQ : ∀ ρ3 : sR, kok X ρ3 kR → fok X ρ3 p_er0_13.2.2.1 → agrM 65536 cD_er0_13.2.2.2.2.1.1 cD_er0_13.2.2.2.2.1.2 ρ3 ρ → RPt X J ρ3 tEn) : RelP X pF pdfl mt_all 19 20 (foot zT fT1) (foot zT fT2) J ρ (sin0 mt_all 182 18 cD_er0_13.2.1.1 (foot zT fT1)) (sin0 mt_all 408 19 cD_er0_13.2.1.2 (foot zT fT2)) := START_P kR_x kR_0 (Cs := [(zWP, c_slo13), (zWP, c_fnd13)]) (fun C hC => by
  simp only [List.mem_cons, List.not_mem_nil, or_false] at hC
  rcases hC with rfl | rfl
  · exact s_slo13
  · exact s_fnd13) cD_er0_13_f (Q := [p_er0_13]) 400 e_er0_13 k1 k2 ki (fun p hp => by
  rw [List.mem_singleton.mp hp]
  exact fun ρ3 k3 f3 _ am => hQ ρ3 k3 f3 am)
noncomputable def cD_er0_110 : sC := ((182, 408, 20), ([tr 0, .int 0, .arg 60320, .arg 60352], [tr 219, .int 0, .arg 60320, .arg 60352]), (fT1, fT2), [], ([19232, 60000, 60064, 60065, 60096, 60128, 60160], []), (none, none), [], ([], []))
theorem cD_er0_110_f : cfine zT 65536 cD_er0_110 = true := by decide +kernel
noncomputable def f_er0_110 : sFs := [((0, .arg 1282, .int 0), false), ((2, .arg 60320, .int 0), false), ((2, .int 65535, .arg 60320), false), ((2, .arg 60352, .int 0), false), ((109, .add (.arg 60320) (.arg 60352), .int 110), true)]
noncomputable def i_er0_110 : sI := []
noncomputable def p_er0_110 : sCut := (tEn.1, tEn.2, [((0, .arg 19232, .int 0), true)], [])
theorem e_er0_110 : frun kR [(zWP, c_slo110), (zWP, c_fnd110)] (cpl1 zT cD_er0_110 [p_er0_110]) (cpl2 zT cD_er0_110 [p_er0_110]) (cleafN kR zT cD_er0_110 [p_er0_110]) 400 65536 (isatP f_er0_110 i_er0_110) i_er0_110 (sin0 mt_all cD_er0_110.1.1 18 cD_er0_110.2.1.1 (foot zT cD_er0_110.2.2.1.1)) (sin0 mt_all cD_er0_110.1.2.1 19 cD_er0_110.2.1.2 (foot zT cD_er0_110.2.2.1.2)) = true := by decide +kernel
theorem r_er0_110 {X : pX} {J : sR → List Value → List Value → Prop} {ρ : sR} (k1 : kok X ρ kR) (k2 : fok X ρ f_er0_110) (ki : iok X ρ i_er0_110) (hQ : ∀ ρ3 : sR, kok X ρ3 kR → fok X ρ3 p_er0_110.2.2.1 → agrM 65536 cD_er0_110.2.2.2.2.1.1 cD_er0_110.2.2.2.2.1.2 ρ3 ρ → RPt X J ρ3 tEn) : RelP X pF pdfl mt_all 19 20 (foot zT fT1) (foot zT fT2) J ρ (sin0 mt_all 182 18 cD_er0_110.2.1.1 (foot zT fT1)) (sin0 mt_all 408 19 cD_er0_110.2.1.2 (foot zT fT2)) := START_P kR_x kR_0 (Cs := [(zWP, c_slo110), (zWP, c_fnd110)]) (fun C hC => by
  simp only [List.mem_cons, List.not_mem_nil, or_false] at hC
  rcases hC with rfl | rfl
  · exact s_slo110
  · exact s_fnd110) cD_er0_110_f (Q := [p_er0_110]) 400 e_er0_110 k1 k2 ki (fun p hp => by
  rw [List.mem_singleton.mp hp]
  exact fun ρ3 k3 f3 _ am => hQ ρ3 k3 f3 am)
noncomputable def cD_er0_111 : sC := ((182, 408, 20), ([tr 0, .int 0, .arg 60320, .arg 60352], [tr 219, .int 0, .arg 60320, .arg 60352]), (fT1, fT2), [], ([19232, 60000, 60064, 60065, 60096, 60128, 60160], []), (none, none), [], ([], []))
theorem cD_er0_111_f : cfine zT 65536 cD_er0_111 = true := by decide +kernel
noncomputable def f_er0_111 : sFs := [((0, .arg 1282, .int 0), false), ((2, .arg 60320, .int 0), false), ((2, .int 65535, .arg 60320), false), ((2, .arg 60352, .int 0), false), ((109, .add (.arg 60320) (.arg 60352), .int 111), true)]
noncomputable def i_er0_111 : sI := []
noncomputable def p_er0_111 : sCut := (tEn.1, tEn.2, [((0, .arg 19232, .int 0), true)], [])
theorem e_er0_111 : frun kR [(zWP, c_slo111), (zWP, c_fnd111)] (cpl1 zT cD_er0_111 [p_er0_111]) (cpl2 zT cD_er0_111 [p_er0_111]) (cleafN kR zT cD_er0_111 [p_er0_111]) 400 65536 (isatP f_er0_111 i_er0_111) i_er0_111 (sin0 mt_all cD_er0_111.1.1 18 cD_er0_111.2.1.1 (foot zT cD_er0_111.2.2.1.1)) (sin0 mt_all cD_er0_111.1.2.1 19 cD_er0_111.2.1.2 (foot zT cD_er0_111.2.2.1.2)) = true := by decide +kernel
theorem r_er0_111 {X : pX} {J : sR → List Value → List Value → Prop} {ρ : sR} (k1 : kok X ρ kR) (k2 : fok X ρ f_er0_111) (ki : iok X ρ i_er0_111) (hQ : ∀ ρ3 : sR, kok X ρ3 kR → fok X ρ3 p_er0_111.2.2.1 → agrM 65536 cD_er0_111.2.2.2.2.1.1 cD_er0_111.2.2.2.2.1.2 ρ3 ρ → RPt X J ρ3 tEn) : RelP X pF pdfl mt_all 19 20 (foot zT fT1) (foot zT fT2) J ρ (sin0 mt_all 182 18 cD_er0_111.2.1.1 (foot zT fT1)) (sin0 mt_all 408 19 cD_er0_111.2.1.2 (foot zT fT2)) := START_P kR_x kR_0 (Cs := [(zWP, c_slo111), (zWP, c_fnd111)]) (fun C hC => by
  simp only [List.mem_cons, List.not_mem_nil, or_false] at hC
  rcases hC with rfl | rfl
  · exact s_slo111
  · exact s_fnd111) cD_er0_111_f (Q := [p_er0_111]) 400 e_er0_111 k1 k2 ki (fun p hp => by
  rw [List.mem_singleton.mp hp]
  exact fun ρ3 k3 f3 _ am => hQ ρ3 k3 f3 am)
noncomputable def cD_er0_112 : sC := ((182, 408, 20), ([tr 0, .int 0, .arg 60320, .arg 60352], [tr 219, .int 0, .arg 60320, .arg 60352]), (fT1, fT2), [], ([19232, 60000, 60064, 60065, 60096, 60128, 60160], []), (none, none), [], ([], []))
theorem cD_er0_112_f : cfine zT 65536 cD_er0_112 = true := by decide +kernel
noncomputable def f_er0_112 : sFs := [((0, .arg 1282, .int 0), false), ((2, .arg 60320, .int 0), false), ((2, .int 65535, .arg 60320), false), ((2, .arg 60352, .int 0), false), ((109, .add (.arg 60320) (.arg 60352), .int 112), true)]
noncomputable def i_er0_112 : sI := []
noncomputable def p_er0_112 : sCut := (tEn.1, tEn.2, [((0, .arg 19232, .int 0), true)], [])
theorem e_er0_112 : frun kR [(zWP, c_slo112), (zWP, c_fnd112)] (cpl1 zT cD_er0_112 [p_er0_112]) (cpl2 zT cD_er0_112 [p_er0_112]) (cleafN kR zT cD_er0_112 [p_er0_112]) 400 65536 (isatP f_er0_112 i_er0_112) i_er0_112 (sin0 mt_all cD_er0_112.1.1 18 cD_er0_112.2.1.1 (foot zT cD_er0_112.2.2.1.1)) (sin0 mt_all cD_er0_112.1.2.1 19 cD_er0_112.2.1.2 (foot zT cD_er0_112.2.2.1.2)) = true := by decide +kernel
theorem r_er0_112 {X : pX} {J : sR → List Value → List Value → Prop} {ρ : sR} (k1 : kok X ρ kR) (k2 : fok X ρ f_er0_112) (ki : iok X ρ i_er0_112) (hQ : ∀ ρ3 : sR, kok X ρ3 kR → fok X ρ3 p_er0_112.2.2.1 → agrM 65536 cD_er0_112.2.2.2.2.1.1 cD_er0_112.2.2.2.2.1.2 ρ3 ρ → RPt X J ρ3 tEn) : RelP X pF pdfl mt_all 19 20 (foot zT fT1) (foot zT fT2) J ρ (sin0 mt_all 182 18 cD_er0_112.2.1.1 (foot zT fT1)) (sin0 mt_all 408 19 cD_er0_112.2.1.2 (foot zT fT2)) := START_P kR_x kR_0 (Cs := [(zWP, c_slo112), (zWP, c_fnd112)]) (fun C hC => by
  simp only [List.mem_cons, List.not_mem_nil, or_false] at hC
  rcases hC with rfl | rfl
  · exact s_slo112
  · exact s_fnd112) cD_er0_112_f (Q := [p_er0_112]) 400 e_er0_112 k1 k2 ki (fun p hp => by
  rw [List.mem_singleton.mp hp]
  exact fun ρ3 k3 f3 _ am => hQ ρ3 k3 f3 am)
noncomputable def cD_er1_13 : sC := ((182, 408, 20), ([tr 0, .int 1, .arg 60320, .arg 60352], [tr 219, .int 1, .arg 60320, .arg 60352]), (fT1, fT2), [], ([19232, 60000, 60064, 60065, 60096, 60128, 60160], []), (none, none), [], ([], []))
theorem cD_er1_13_f : cfine zT 65536 cD_er1_13 = true := by decide +kernel
noncomputable def f_er1_13 : sFs := [((0, .arg 1314, .int 0), false), ((2, .arg 60320, .int 0), false), ((2, .int 65535, .arg 60320), false), ((2, .arg 60352, .int 0), false), ((109, .add (.arg 60320) (.arg 60352), .int 13), true)]
noncomputable def i_er1_13 : sI := []
noncomputable def p_er1_13 : sCut := (tEn.1, tEn.2, [((0, .arg 19232, .int 0), true)], [])
theorem e_er1_13 : frun kR [(zWP, c_slo13), (zWP, c_fnd13)] (cpl1 zT cD_er1_13 [p_er1_13]) (cpl2 zT cD_er1_13 [p_er1_13]) (cleafN kR zT cD_er1_13 [p_er1_13]) 400 65536 (isatP f_er1_13 i_er1_13) i_er1_13 (sin0 mt_all cD_er1_13.1.1 18 cD_er1_13.2.1.1 (foot zT cD_er1_13.2.2.1.1)) (sin0 mt_all cD_er1_13.1.2.1 19 cD_er1_13.2.1.2 (foot zT cD_er1_13.2.2.1.2)) = true := by decide +kernel
theorem r_er1_13 {X : pX} {J : sR → List Value → List Value → Prop} {ρ : sR} (k1 : kok X ρ kR) (k2 : fok X ρ f_er1_13) (ki : iok X ρ i_er1_13) (hQ : ∀ ρ3 : sR, kok X ρ3 kR → fok X ρ3 p_er1_13.2.2.1 → agrM 65536 cD_er1_13.2.2.2.2.1.1 cD_er1_13.2.2.2.2.1.2 ρ3 ρ → RPt X J ρ3 tEn) : RelP X pF pdfl mt_all 19 20 (foot zT fT1) (foot zT fT2) J ρ (sin0 mt_all 182 18 cD_er1_13.2.1.1 (foot zT fT1)) (sin0 mt_all 408 19 cD_er1_13.2.1.2 (foot zT fT2)) := START_P kR_x kR_0 (Cs := [(zWP, c_slo13), (zWP, c_fnd13)]) (fun C hC => by
  simp only [List.mem_cons, List.not_mem_nil, or_false] at hC
  rcases hC with rfl | rfl
  · exact s_slo13
  · exact s_fnd13) cD_er1_13_f (Q := [p_er1_13]) 400 e_er1_13 k1 k2 ki (fun p hp => by
  rw [List.mem_singleton.mp hp]
  exact fun ρ3 k3 f3 _ am => hQ ρ3 k3 f3 am)
noncomputable def cD_er1_110 : sC := ((182, 408, 20), ([tr 0, .int 1, .arg 60320, .arg 60352], [tr 219, .int 1, .arg 60320, .arg 60352]), (fT1, fT2), [], ([19232, 60000, 60064, 60065, 60096, 60128, 60160], []), (none, none), [], ([], []))
theorem cD_er1_110_f : cfine zT 65536 cD_er1_110 = true := by decide +kernel
noncomputable def f_er1_110 : sFs := [((0, .arg 1314, .int 0), false), ((2, .arg 60320, .int 0), false), ((2, .int 65535, .arg 60320), false), ((2, .arg 60352, .int 0), false), ((109, .add (.arg 60320) (.arg 60352), .int 110), true)]
noncomputable def i_er1_110 : sI := []
noncomputable def p_er1_110 : sCut := (tEn.1, tEn.2, [((0, .arg 19232, .int 0), true)], [])
theorem e_er1_110 : frun kR [(zWP, c_slo110), (zWP, c_fnd110)] (cpl1 zT cD_er1_110 [p_er1_110]) (cpl2 zT cD_er1_110 [p_er1_110]) (cleafN kR zT cD_er1_110 [p_er1_110]) 400 65536 (isatP f_er1_110 i_er1_110) i_er1_110 (sin0 mt_all cD_er1_110.1.1 18 cD_er1_110.2.1.1 (foot zT cD_er1_110.2.2.1.1)) (sin0 mt_all cD_er1_110.1.2.1 19 cD_er1_110.2.1.2 (foot zT cD_er1_110.2.2.1.2)) = true := by decide +kernel
theorem r_er1_110 {X : pX} {J : sR → List Value → List Value → Prop} {ρ : sR} (k1 : kok X ρ kR) (k2 : fok X ρ f_er1_110) (ki : iok X ρ i_er1_110) (hQ : ∀ ρ3 : sR, kok X ρ3 kR → fok X ρ3 p_er1_110.2.2.1 → agrM 65536 cD_er1_110.2.2.2.2.1.1 cD_er1_110.2.2.2.2.1.2 ρ3 ρ → RPt X J ρ3 tEn) : RelP X pF pdfl mt_all 19 20 (foot zT fT1) (foot zT fT2) J ρ (sin0 mt_all 182 18 cD_er1_110.2.1.1 (foot zT fT1)) (sin0 mt_all 408 19 cD_er1_110.2.1.2 (foot zT fT2)) := START_P kR_x kR_0 (Cs := [(zWP, c_slo110), (zWP, c_fnd110)]) (fun C hC => by
  simp only [List.mem_cons, List.not_mem_nil, or_false] at hC
  rcases hC with rfl | rfl
  · exact s_slo110
  · exact s_fnd110) cD_er1_110_f (Q := [p_er1_110]) 400 e_er1_110 k1 k2 ki (fun p hp => by
  rw [List.mem_singleton.mp hp]
  exact fun ρ3 k3 f3 _ am => hQ ρ3 k3 f3 am)
noncomputable def cD_er1_111 : sC := ((182, 408, 20), ([tr 0, .int 1, .arg 60320, .arg 60352], [tr 219, .int 1, .arg 60320, .arg 60352]), (fT1, fT2), [], ([19232, 60000, 60064, 60065, 60096, 60128, 60160], []), (none, none), [], ([], []))
theorem cD_er1_111_f : cfine zT 65536 cD_er1_111 = true := by decide +kernel
noncomputable def f_er1_111 : sFs := [((0, .arg 1314, .int 0), false), ((2, .arg 60320, .int 0), false), ((2, .int 65535, .arg 60320), false), ((2, .arg 60352, .int 0), false), ((109, .add (.arg 60320) (.arg 60352), .int 111), true)]
noncomputable def i_er1_111 : sI := []
noncomputable def p_er1_111 : sCut := (tEn.1, tEn.2, [((0, .arg 19232, .int 0), true)], [])
theorem e_er1_111 : frun kR [(zWP, c_slo111), (zWP, c_fnd111)] (cpl1 zT cD_er1_111 [p_er1_111]) (cpl2 zT cD_er1_111 [p_er1_111]) (cleafN kR zT cD_er1_111 [p_er1_111]) 400 65536 (isatP f_er1_111 i_er1_111) i_er1_111 (sin0 mt_all cD_er1_111.1.1 18 cD_er1_111.2.1.1 (foot zT cD_er1_111.2.2.1.1)) (sin0 mt_all cD_er1_111.1.2.1 19 cD_er1_111.2.1.2 (foot zT cD_er1_111.2.2.1.2)) = true := by decide +kernel
theorem r_er1_111 {X : pX} {J : sR → List Value → List Value → Prop} {ρ : sR} (k1 : kok X ρ kR) (k2 : fok X ρ f_er1_111) (ki : iok X ρ i_er1_111) (hQ : ∀ ρ3 : sR, kok X ρ3 kR → fok X ρ3 p_er1_111.2.2.1 → agrM 65536 cD_er1_111.2.2.2.2.1.1 cD_er1_111.2.2.2.2.1.2 ρ3 ρ → RPt X J ρ3 tEn) : RelP X pF pdfl mt_all 19 20 (foot zT fT1) (foot zT fT2) J ρ (sin0 mt_all 182 18 cD_er1_111.2.1.1 (foot zT fT1)) (sin0 mt_all 408 19 cD_er1_111.2.1.2 (foot zT fT2)) := START_P kR_x kR_0 (Cs := [(zWP, c_slo111), (zWP, c_fnd111)]) (fun C hC => by
  simp only [List.mem_cons, List.not_mem_nil, or_false] at hC
  rcases hC with rfl | rfl
  · exact s_slo111
  · exact s_fnd111) cD_er1_111_f (Q := [p_er1_111]) 400 e_er1_111 k1 k2 ki (fun p hp => by
  rw [List.mem_singleton.mp hp]
  exact fun ρ3 k3 f3 _ am => hQ ρ3 k3 f3 am)
noncomputable def cD_er1_112 : sC := ((182, 408, 20), ([tr 0, .int 1, .arg 60320, .arg 60352], [tr 219, .int 1, .arg 60320, .arg 60352]), (fT1, fT2), [], ([19232, 60000, 60064, 60065, 60096, 60128, 60160], []), (none, none), [], ([], []))
theorem cD_er1_112_f : cfine zT 65536 cD_er1_112 = true := by decide +kernel
noncomputable def f_er1_112 : sFs := [((0, .arg 1314, .int 0), false), ((2, .arg 60320, .int 0), false), ((2, .int 65535, .arg 60320), false), ((2, .arg 60352, .int 0), false), ((109, .add (.arg 60320) (.arg 60352), .int 112), true)]
noncomputable def i_er1_112 : sI := []
noncomputable def p_er1_112 : sCut := (tEn.1, tEn.2, [((0, .arg 19232, .int 0), true)], [])
theorem e_er1_112 : frun kR [(zWP, c_slo112), (zWP, c_fnd112)] (cpl1 zT cD_er1_112 [p_er1_112]) (cpl2 zT cD_er1_112 [p_er1_112]) (cleafN kR zT cD_er1_112 [p_er1_112]) 400 65536 (isatP f_er1_112 i_er1_112) i_er1_112 (sin0 mt_all cD_er1_112.1.1 18 cD_er1_112.2.1.1 (foot zT cD_er1_112.2.2.1.1)) (sin0 mt_all cD_er1_112.1.2.1 19 cD_er1_112.2.1.2 (foot zT cD_er1_112.2.2.1.2)) = true := by decide +kernel
theorem r_er1_112 {X : pX} {J : sR → List Value → List Value → Prop} {ρ : sR} (k1 : kok X ρ kR) (k2 : fok X ρ f_er1_112) (ki : iok X ρ i_er1_112) (hQ : ∀ ρ3 : sR, kok X ρ3 kR → fok X ρ3 p_er1_112.2.2.1 → agrM 65536 cD_er1_112.2.2.2.2.1.1 cD_er1_112.2.2.2.2.1.2 ρ3 ρ → RPt X J ρ3 tEn) : RelP X pF pdfl mt_all 19 20 (foot zT fT1) (foot zT fT2) J ρ (sin0 mt_all 182 18 cD_er1_112.2.1.1 (foot zT fT1)) (sin0 mt_all 408 19 cD_er1_112.2.1.2 (foot zT fT2)) := START_P kR_x kR_0 (Cs := [(zWP, c_slo112), (zWP, c_fnd112)]) (fun C hC => by
  simp only [List.mem_cons, List.not_mem_nil, or_false] at hC
  rcases hC with rfl | rfl
  · exact s_slo112
  · exact s_fnd112) cD_er1_112_f (Q := [p_er1_112]) 400 e_er1_112 k1 k2 ki (fun p hp => by
  rw [List.mem_singleton.mp hp]
  exact fun ρ3 k3 f3 _ am => hQ ρ3 k3 f3 am)
noncomputable def cD_er2_13 : sC := ((182, 408, 20), ([tr 0, .int 2, .arg 60320, .arg 60352], [tr 219, .int 2, .arg 60320, .arg 60352]), (fT1, fT2), [], ([19232, 60000, 60064, 60065, 60096, 60128, 60160], []), (none, none), [], ([], []))
theorem cD_er2_13_f : cfine zT 65536 cD_er2_13 = true := by decide +kernel
noncomputable def f_er2_13 : sFs := [((0, .arg 1346, .int 0), false), ((2, .arg 60320, .int 0), false), ((2, .int 65535, .arg 60320), false), ((2, .arg 60352, .int 0), false), ((109, .add (.arg 60320) (.arg 60352), .int 13), true)]
noncomputable def i_er2_13 : sI := []
noncomputable def p_er2_13 : sCut := (tEn.1, tEn.2, [((0, .arg 19232, .int 0), true)], [])
theorem e_er2_13 : frun kR [(zWP, c_slo13), (zWP, c_fnd13)] (cpl1 zT cD_er2_13 [p_er2_13]) (cpl2 zT cD_er2_13 [p_er2_13]) (cleafN kR zT cD_er2_13 [p_er2_13]) 400 65536 (isatP f_er2_13 i_er2_13) i_er2_13 (sin0 mt_all cD_er2_13.1.1 18 cD_er2_13.2.1.1 (foot zT cD_er2_13.2.2.1.1)) (sin0 mt_all cD_er2_13.1.2.1 19 cD_er2_13.2.1.2 (foot zT cD_er2_13.2.2.1.2)) = true := by decide +kernel
theorem r_er2_13 {X : pX} {J : sR → List Value → List Value → Prop} {ρ : sR} (k1 : kok X ρ kR) (k2 : fok X ρ f_er2_13) (ki : iok X ρ i_er2_13) (hQ : ∀ ρ3 : sR, kok X ρ3 kR → fok X ρ3 p_er2_13.2.2.1 → agrM 65536 cD_er2_13.2.2.2.2.1.1 cD_er2_13.2.2.2.2.1.2 ρ3 ρ → RPt X J ρ3 tEn) : RelP X pF pdfl mt_all 19 20 (foot zT fT1) (foot zT fT2) J ρ (sin0 mt_all 182 18 cD_er2_13.2.1.1 (foot zT fT1)) (sin0 mt_all 408 19 cD_er2_13.2.1.2 (foot zT fT2)) := START_P kR_x kR_0 (Cs := [(zWP, c_slo13), (zWP, c_fnd13)]) (fun C hC => by
  simp only [List.mem_cons, List.not_mem_nil, or_false] at hC
  rcases hC with rfl | rfl
  · exact s_slo13
  · exact s_fnd13) cD_er2_13_f (Q := [p_er2_13]) 400 e_er2_13 k1 k2 ki (fun p hp => by
  rw [List.mem_singleton.mp hp]
  exact fun ρ3 k3 f3 _ am => hQ ρ3 k3 f3 am)
noncomputable def cD_er2_110 : sC := ((182, 408, 20), ([tr 0, .int 2, .arg 60320, .arg 60352], [tr 219, .int 2, .arg 60320, .arg 60352]), (fT1, fT2), [], ([19232, 60000, 60064, 60065, 60096, 60128, 60160], []), (none, none), [], ([], []))
theorem cD_er2_110_f : cfine zT 65536 cD_er2_110 = true := by decide +kernel
noncomputable def f_er2_110 : sFs := [((0, .arg 1346, .int 0), false), ((2, .arg 60320, .int 0), false), ((2, .int 65535, .arg 60320), false), ((2, .arg 60352, .int 0), false), ((109, .add (.arg 60320) (.arg 60352), .int 110), true)]
noncomputable def i_er2_110 : sI := []
noncomputable def p_er2_110 : sCut := (tEn.1, tEn.2, [((0, .arg 19232, .int 0), true)], [])
theorem e_er2_110 : frun kR [(zWP, c_slo110), (zWP, c_fnd110)] (cpl1 zT cD_er2_110 [p_er2_110]) (cpl2 zT cD_er2_110 [p_er2_110]) (cleafN kR zT cD_er2_110 [p_er2_110]) 400 65536 (isatP f_er2_110 i_er2_110) i_er2_110 (sin0 mt_all cD_er2_110.1.1 18 cD_er2_110.2.1.1 (foot zT cD_er2_110.2.2.1.1)) (sin0 mt_all cD_er2_110.1.2.1 19 cD_er2_110.2.1.2 (foot zT cD_er2_110.2.2.1.2)) = true := by decide +kernel
theorem r_er2_110 {X : pX} {J : sR → List Value → List Value → Prop} {ρ : sR} (k1 : kok X ρ kR) (k2 : fok X ρ f_er2_110) (ki : iok X ρ i_er2_110) (hQ : ∀ ρ3 : sR, kok X ρ3 kR → fok X ρ3 p_er2_110.2.2.1 → agrM 65536 cD_er2_110.2.2.2.2.1.1 cD_er2_110.2.2.2.2.1.2 ρ3 ρ → RPt X J ρ3 tEn) : RelP X pF pdfl mt_all 19 20 (foot zT fT1) (foot zT fT2) J ρ (sin0 mt_all 182 18 cD_er2_110.2.1.1 (foot zT fT1)) (sin0 mt_all 408 19 cD_er2_110.2.1.2 (foot zT fT2)) := START_P kR_x kR_0 (Cs := [(zWP, c_slo110), (zWP, c_fnd110)]) (fun C hC => by
  simp only [List.mem_cons, List.not_mem_nil, or_false] at hC
  rcases hC with rfl | rfl
  · exact s_slo110
  · exact s_fnd110) cD_er2_110_f (Q := [p_er2_110]) 400 e_er2_110 k1 k2 ki (fun p hp => by
  rw [List.mem_singleton.mp hp]
  exact fun ρ3 k3 f3 _ am => hQ ρ3 k3 f3 am)
noncomputable def cD_er2_111 : sC := ((182, 408, 20), ([tr 0, .int 2, .arg 60320, .arg 60352], [tr 219, .int 2, .arg 60320, .arg 60352]), (fT1, fT2), [], ([19232, 60000, 60064, 60065, 60096, 60128, 60160], []), (none, none), [], ([], []))
theorem cD_er2_111_f : cfine zT 65536 cD_er2_111 = true := by decide +kernel
noncomputable def f_er2_111 : sFs := [((0, .arg 1346, .int 0), false), ((2, .arg 60320, .int 0), false), ((2, .int 65535, .arg 60320), false), ((2, .arg 60352, .int 0), false), ((109, .add (.arg 60320) (.arg 60352), .int 111), true)]
noncomputable def i_er2_111 : sI := []
noncomputable def p_er2_111 : sCut := (tEn.1, tEn.2, [((0, .arg 19232, .int 0), true)], [])
theorem e_er2_111 : frun kR [(zWP, c_slo111), (zWP, c_fnd111)] (cpl1 zT cD_er2_111 [p_er2_111]) (cpl2 zT cD_er2_111 [p_er2_111]) (cleafN kR zT cD_er2_111 [p_er2_111]) 400 65536 (isatP f_er2_111 i_er2_111) i_er2_111 (sin0 mt_all cD_er2_111.1.1 18 cD_er2_111.2.1.1 (foot zT cD_er2_111.2.2.1.1)) (sin0 mt_all cD_er2_111.1.2.1 19 cD_er2_111.2.1.2 (foot zT cD_er2_111.2.2.1.2)) = true := by decide +kernel
theorem r_er2_111 {X : pX} {J : sR → List Value → List Value → Prop} {ρ : sR} (k1 : kok X ρ kR) (k2 : fok X ρ f_er2_111) (ki : iok X ρ i_er2_111) (hQ : ∀ ρ3 : sR, kok X ρ3 kR → fok X ρ3 p_er2_111.2.2.1 → agrM 65536 cD_er2_111.2.2.2.2.1.1 cD_er2_111.2.2.2.2.1.2 ρ3 ρ → RPt X J ρ3 tEn) : RelP X pF pdfl mt_all 19 20 (foot zT fT1) (foot zT fT2) J ρ (sin0 mt_all 182 18 cD_er2_111.2.1.1 (foot zT fT1)) (sin0 mt_all 408 19 cD_er2_111.2.1.2 (foot zT fT2)) := START_P kR_x kR_0 (Cs := [(zWP, c_slo111), (zWP, c_fnd111)]) (fun C hC => by
  simp only [List.mem_cons, List.not_mem_nil, or_false] at hC
  rcases hC with rfl | rfl
  · exact s_slo111
  · exact s_fnd111) cD_er2_111_f (Q := [p_er2_111]) 400 e_er2_111 k1 k2 ki (fun p hp => by
  rw [List.mem_singleton.mp hp]
  exact fun ρ3 k3 f3 _ am => hQ ρ3 k3 f3 am)
noncomputable def cD_er2_112 : sC := ((182, 408, 20), ([tr 0, .int 2, .arg 60320, .arg 60352], [tr 219, .int 2, .arg 60320, .arg 60352]), (fT1, fT2), [], ([19232, 60000, 60064, 60065, 60096, 60128, 60160], []), (none, none), [], ([], []))
theorem cD_er2_112_f : cfine zT 65536 cD_er2_112 = true := by decide +kernel
noncomputable def f_er2_112 : sFs := [((0, .arg 1346, .int 0), false), ((2, .arg 60320, .int 0), false), ((2, .int 65535, .arg 60320), false), ((2, .arg 60352, .int 0), false), ((109, .add (.arg 60320) (.arg 60352), .int 112), true)]
noncomputable def i_er2_112 : sI := []
noncomputable def p_er2_112 : sCut := (tEn.1, tEn.2, [((0, .arg 19232, .int 0), true)], [])
theorem e_er2_112 : frun kR [(zWP, c_slo112), (zWP, c_fnd112)] (cpl1 zT cD_er2_112 [p_er2_112]) (cpl2 zT cD_er2_112 [p_er2_112]) (cleafN kR zT cD_er2_112 [p_er2_112]) 400 65536 (isatP f_er2_112 i_er2_112) i_er2_112 (sin0 mt_all cD_er2_112.1.1 18 cD_er2_112.2.1.1 (foot zT cD_er2_112.2.2.1.1)) (sin0 mt_all cD_er2_112.1.2.1 19 cD_er2_112.2.1.2 (foot zT cD_er2_112.2.2.1.2)) = true := by decide +kernel
theorem r_er2_112 {X : pX} {J : sR → List Value → List Value → Prop} {ρ : sR} (k1 : kok X ρ kR) (k2 : fok X ρ f_er2_112) (ki : iok X ρ i_er2_112) (hQ : ∀ ρ3 : sR, kok X ρ3 kR → fok X ρ3 p_er2_112.2.2.1 → agrM 65536 cD_er2_112.2.2.2.2.1.1 cD_er2_112.2.2.2.2.1.2 ρ3 ρ → RPt X J ρ3 tEn) : RelP X pF pdfl mt_all 19 20 (foot zT fT1) (foot zT fT2) J ρ (sin0 mt_all 182 18 cD_er2_112.2.1.1 (foot zT fT1)) (sin0 mt_all 408 19 cD_er2_112.2.1.2 (foot zT fT2)) := START_P kR_x kR_0 (Cs := [(zWP, c_slo112), (zWP, c_fnd112)]) (fun C hC => by
  simp only [List.mem_cons, List.not_mem_nil, or_false] at hC
  rcases hC with rfl | rfl
  · exact s_slo112
  · exact s_fnd112) cD_er2_112_f (Q := [p_er2_112]) 400 e_er2_112 k1 k2 ki (fun p hp => by
  rw [List.mem_singleton.mp hp]
  exact fun ρ3 k3 f3 _ am => hQ ρ3 k3 f3 am)
noncomputable def cD_er3_13 : sC := ((182, 408, 20), ([tr 0, .int 3, .arg 60320, .arg 60352], [tr 219, .int 3, .arg 60320, .arg 60352]), (fT1, fT2), [], ([19232, 60000, 60064, 60065, 60096, 60128, 60160], []), (none, none), [], ([], []))
theorem cD_er3_13_f : cfine zT 65536 cD_er3_13 = true := by decide +kernel
noncomputable def f_er3_13 : sFs := [((0, .arg 1378, .int 0), false), ((2, .arg 60320, .int 0), false), ((2, .int 65535, .arg 60320), false), ((2, .arg 60352, .int 0), false), ((109, .add (.arg 60320) (.arg 60352), .int 13), true)]
noncomputable def i_er3_13 : sI := []
noncomputable def p_er3_13 : sCut := (tEn.1, tEn.2, [((0, .arg 19232, .int 0), true)], [])
theorem e_er3_13 : frun kR [(zWP, c_slo13), (zWP, c_fnd13)] (cpl1 zT cD_er3_13 [p_er3_13]) (cpl2 zT cD_er3_13 [p_er3_13]) (cleafN kR zT cD_er3_13 [p_er3_13]) 400 65536 (isatP f_er3_13 i_er3_13) i_er3_13 (sin0 mt_all cD_er3_13.1.1 18 cD_er3_13.2.1.1 (foot zT cD_er3_13.2.2.1.1)) (sin0 mt_all cD_er3_13.1.2.1 19 cD_er3_13.2.1.2 (foot zT cD_er3_13.2.2.1.2)) = true := by decide +kernel
theorem r_er3_13 {X : pX} {J : sR → List Value → List Value → Prop} {ρ : sR} (k1 : kok X ρ kR) (k2 : fok X ρ f_er3_13) (ki : iok X ρ i_er3_13) (hQ : ∀ ρ3 : sR, kok X ρ3 kR → fok X ρ3 p_er3_13.2.2.1 → agrM 65536 cD_er3_13.2.2.2.2.1.1 cD_er3_13.2.2.2.2.1.2 ρ3 ρ → RPt X J ρ3 tEn) : RelP X pF pdfl mt_all 19 20 (foot zT fT1) (foot zT fT2) J ρ (sin0 mt_all 182 18 cD_er3_13.2.1.1 (foot zT fT1)) (sin0 mt_all 408 19 cD_er3_13.2.1.2 (foot zT fT2)) := START_P kR_x kR_0 (Cs := [(zWP, c_slo13), (zWP, c_fnd13)]) (fun C hC => by
  simp only [List.mem_cons, List.not_mem_nil, or_false] at hC
  rcases hC with rfl | rfl
  · exact s_slo13
  · exact s_fnd13) cD_er3_13_f (Q := [p_er3_13]) 400 e_er3_13 k1 k2 ki (fun p hp => by
  rw [List.mem_singleton.mp hp]
  exact fun ρ3 k3 f3 _ am => hQ ρ3 k3 f3 am)
noncomputable def cD_er3_110 : sC := ((182, 408, 20), ([tr 0, .int 3, .arg 60320, .arg 60352], [tr 219, .int 3, .arg 60320, .arg 60352]), (fT1, fT2), [], ([19232, 60000, 60064, 60065, 60096, 60128, 60160], []), (none, none), [], ([], []))
theorem cD_er3_110_f : cfine zT 65536 cD_er3_110 = true := by decide +kernel
noncomputable def f_er3_110 : sFs := [((0, .arg 1378, .int 0), false), ((2, .arg 60320, .int 0), false), ((2, .int 65535, .arg 60320), false), ((2, .arg 60352, .int 0), false), ((109, .add (.arg 60320) (.arg 60352), .int 110), true)]
noncomputable def i_er3_110 : sI := []
noncomputable def p_er3_110 : sCut := (tEn.1, tEn.2, [((0, .arg 19232, .int 0), true)], [])
theorem e_er3_110 : frun kR [(zWP, c_slo110), (zWP, c_fnd110)] (cpl1 zT cD_er3_110 [p_er3_110]) (cpl2 zT cD_er3_110 [p_er3_110]) (cleafN kR zT cD_er3_110 [p_er3_110]) 400 65536 (isatP f_er3_110 i_er3_110) i_er3_110 (sin0 mt_all cD_er3_110.1.1 18 cD_er3_110.2.1.1 (foot zT cD_er3_110.2.2.1.1)) (sin0 mt_all cD_er3_110.1.2.1 19 cD_er3_110.2.1.2 (foot zT cD_er3_110.2.2.1.2)) = true := by decide +kernel
theorem r_er3_110 {X : pX} {J : sR → List Value → List Value → Prop} {ρ : sR} (k1 : kok X ρ kR) (k2 : fok X ρ f_er3_110) (ki : iok X ρ i_er3_110) (hQ : ∀ ρ3 : sR, kok X ρ3 kR → fok X ρ3 p_er3_110.2.2.1 → agrM 65536 cD_er3_110.2.2.2.2.1.1 cD_er3_110.2.2.2.2.1.2 ρ3 ρ → RPt X J ρ3 tEn) : RelP X pF pdfl mt_all 19 20 (foot zT fT1) (foot zT fT2) J ρ (sin0 mt_all 182 18 cD_er3_110.2.1.1 (foot zT fT1)) (sin0 mt_all 408 19 cD_er3_110.2.1.2 (foot zT fT2)) := START_P kR_x kR_0 (Cs := [(zWP, c_slo110), (zWP, c_fnd110)]) (fun C hC => by
  simp only [List.mem_cons, List.not_mem_nil, or_false] at hC
  rcases hC with rfl | rfl
  · exact s_slo110
  · exact s_fnd110) cD_er3_110_f (Q := [p_er3_110]) 400 e_er3_110 k1 k2 ki (fun p hp => by
  rw [List.mem_singleton.mp hp]
  exact fun ρ3 k3 f3 _ am => hQ ρ3 k3 f3 am)
noncomputable def cD_er3_111 : sC := ((182, 408, 20), ([tr 0, .int 3, .arg 60320, .arg 60352], [tr 219, .int 3, .arg 60320, .arg 60352]), (fT1, fT2), [], ([19232, 60000, 60064, 60065, 60096, 60128, 60160], []), (none, none), [], ([], []))
theorem cD_er3_111_f : cfine zT 65536 cD_er3_111 = true := by decide +kernel
noncomputable def f_er3_111 : sFs := [((0, .arg 1378, .int 0), false), ((2, .arg 60320, .int 0), false), ((2, .int 65535, .arg 60320), false), ((2, .arg 60352, .int 0), false), ((109, .add (.arg 60320) (.arg 60352), .int 111), true)]
noncomputable def i_er3_111 : sI := []
noncomputable def p_er3_111 : sCut := (tEn.1, tEn.2, [((0, .arg 19232, .int 0), true)], [])
theorem e_er3_111 : frun kR [(zWP, c_slo111), (zWP, c_fnd111)] (cpl1 zT cD_er3_111 [p_er3_111]) (cpl2 zT cD_er3_111 [p_er3_111]) (cleafN kR zT cD_er3_111 [p_er3_111]) 400 65536 (isatP f_er3_111 i_er3_111) i_er3_111 (sin0 mt_all cD_er3_111.1.1 18 cD_er3_111.2.1.1 (foot zT cD_er3_111.2.2.1.1)) (sin0 mt_all cD_er3_111.1.2.1 19 cD_er3_111.2.1.2 (foot zT cD_er3_111.2.2.1.2)) = true := by decide +kernel
theorem r_er3_111 {X : pX} {J : sR → List Value → List Value → Prop} {ρ : sR} (k1 : kok X ρ kR) (k2 : fok X ρ f_er3_111) (ki : iok X ρ i_er3_111) (hQ : ∀ ρ3 : sR, kok X ρ3 kR → fok X ρ3 p_er3_111.2.2.1 → agrM 65536 cD_er3_111.2.2.2.2.1.1 cD_er3_111.2.2.2.2.1.2 ρ3 ρ → RPt X J ρ3 tEn) : RelP X pF pdfl mt_all 19 20 (foot zT fT1) (foot zT fT2) J ρ (sin0 mt_all 182 18 cD_er3_111.2.1.1 (foot zT fT1)) (sin0 mt_all 408 19 cD_er3_111.2.1.2 (foot zT fT2)) := START_P kR_x kR_0 (Cs := [(zWP, c_slo111), (zWP, c_fnd111)]) (fun C hC => by
  simp only [List.mem_cons, List.not_mem_nil, or_false] at hC
  rcases hC with rfl | rfl
  · exact s_slo111
  · exact s_fnd111) cD_er3_111_f (Q := [p_er3_111]) 400 e_er3_111 k1 k2 ki (fun p hp => by
  rw [List.mem_singleton.mp hp]
  exact fun ρ3 k3 f3 _ am => hQ ρ3 k3 f3 am)
noncomputable def cD_er3_112 : sC := ((182, 408, 20), ([tr 0, .int 3, .arg 60320, .arg 60352], [tr 219, .int 3, .arg 60320, .arg 60352]), (fT1, fT2), [], ([19232, 60000, 60064, 60065, 60096, 60128, 60160], []), (none, none), [], ([], []))
theorem cD_er3_112_f : cfine zT 65536 cD_er3_112 = true := by decide +kernel
noncomputable def f_er3_112 : sFs := [((0, .arg 1378, .int 0), false), ((2, .arg 60320, .int 0), false), ((2, .int 65535, .arg 60320), false), ((2, .arg 60352, .int 0), false), ((109, .add (.arg 60320) (.arg 60352), .int 112), true)]
noncomputable def i_er3_112 : sI := []
noncomputable def p_er3_112 : sCut := (tEn.1, tEn.2, [((0, .arg 19232, .int 0), true)], [])
theorem e_er3_112 : frun kR [(zWP, c_slo112), (zWP, c_fnd112)] (cpl1 zT cD_er3_112 [p_er3_112]) (cpl2 zT cD_er3_112 [p_er3_112]) (cleafN kR zT cD_er3_112 [p_er3_112]) 400 65536 (isatP f_er3_112 i_er3_112) i_er3_112 (sin0 mt_all cD_er3_112.1.1 18 cD_er3_112.2.1.1 (foot zT cD_er3_112.2.2.1.1)) (sin0 mt_all cD_er3_112.1.2.1 19 cD_er3_112.2.1.2 (foot zT cD_er3_112.2.2.1.2)) = true := by decide +kernel
theorem r_er3_112 {X : pX} {J : sR → List Value → List Value → Prop} {ρ : sR} (k1 : kok X ρ kR) (k2 : fok X ρ f_er3_112) (ki : iok X ρ i_er3_112) (hQ : ∀ ρ3 : sR, kok X ρ3 kR → fok X ρ3 p_er3_112.2.2.1 → agrM 65536 cD_er3_112.2.2.2.2.1.1 cD_er3_112.2.2.2.2.1.2 ρ3 ρ → RPt X J ρ3 tEn) : RelP X pF pdfl mt_all 19 20 (foot zT fT1) (foot zT fT2) J ρ (sin0 mt_all 182 18 cD_er3_112.2.1.1 (foot zT fT1)) (sin0 mt_all 408 19 cD_er3_112.2.1.2 (foot zT fT2)) := START_P kR_x kR_0 (Cs := [(zWP, c_slo112), (zWP, c_fnd112)]) (fun C hC => by
  simp only [List.mem_cons, List.not_mem_nil, or_false] at hC
  rcases hC with rfl | rfl
  · exact s_slo112
  · exact s_fnd112) cD_er3_112_f (Q := [p_er3_112]) 400 e_er3_112 k1 k2 ki (fun p hp => by
  rw [List.mem_singleton.mp hp]
  exact fun ρ3 k3 f3 _ am => hQ ρ3 k3 f3 am)
