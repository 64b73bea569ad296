/-! ===== where an entry stands: find, the model alone ===== -/
noncomputable def c_fndm : sC := ((425, 239, 2), ([.long 0], [tr 219, .arg 60000, .arg 60032]), ([], [219, 228, 220, 221]), [((2, .arg 60000, .int 0), false), ((2, .int 65535, .arg 60000), false)], ([60160], []), (some (.long 0), some (.arg 60160)), [((109, .add (.arg 60000) (.arg 60032), .arg 60160), true)], ([], []))
theorem c_fndm_f : cfine zWP 65536 c_fndm = true := by decide +kernel
noncomputable def q_fm : sCut := ((fr 0 425 0 [(0, .long 0)] [], [fBot], 1), (fr 0 239 0 [(0, tr 219), (1, .arg 60000), (2, .arg 60032)] [], [fBot], 1), [((2, .arg 60000, .int 0), false), ((2, .int 65535, .arg 60000), false)], [])
theorem fm_two {c sb : Int} {subs : List Int} (h0 : 0 ≤ c) (h1 : c ≤ 65535) {p : Nat} (hp : p < 156) (hi : bkk p / 256 = c) (hc : bkw.all (fun w => !(decide (w % 65536 = c)) || subs.contains (w / 65536)) = true) (hs : ∀ s ∈ subs, ¬ sb = s) : aslot c sb = -2 := by
  unfold aslot
  rw [if_pos (sl_guard hp h0 h1 hi)]
  have : bkw.findIdx? (fun w => decide (w = c + 65536 * sb)) = none := by
    rw [List.findIdx?_eq_none_iff]
    intro w hw
    refine decide_eq_false (fun e => ?_)
    have h2 := List.all_eq_true.mp hc w hw
    have e1 : w % 65536 = c := by omega
    have e2 : w / 65536 = sb := by omega
    rw [e1, e2] at h2
    simp at h2
    exact hs sb h2 rfl
  rw [this]
theorem fm_none {c sb : Int} {cs : List Int} (hc : bkw.all (fun w => cs.contains (w % 65536)) = true) (hs : ∀ x ∈ cs, ¬ c = x) : aslot c sb = -1 := by
  unfold aslot
  rw [if_neg]
  intro h
  simp only [Bool.and_eq_true, decide_eq_true_eq, List.any_eq_true] at h
  obtain ⟨-, -, w, hw, e⟩ := h
  have h2 := List.all_eq_true.mp hc w hw
  rw [e] at h2
  exact hs c (by simpa using h2) rfl
theorem fm_n {X : pX} {ρ : sR} {n : Int32} (h : aslot (ρ.1 60000).toInt (ρ.1 60032).toInt = n.toInt) : sc X ρ (109, .add (.arg 60000) (.arg 60032), .int n) = true := sl_n rfl rfl h.symm
noncomputable def q_fm0 : sCut := ((fr 0 425 0 [(0, .long 0)] [], [fBot], 1), (fr 0 239 0 [(0, tr 219), (1, .arg 60000), (2, .arg 60032)] [], [fBot], 1), [((0, .arg 60000, .int 4096), true)], [([((0, .int 0, .arg 60032), true)], (109, .add (.arg 60000) (.arg 60032), .int 0), true), ([((0, .int 0, .arg 60032), false)], (109, .add (.arg 60000) (.arg 60032), .int (-2)), true)])
theorem k_fm0 : cbody kR [] (cpl1 zWP c_fndm []) (cpl2 zWP c_fndm []) (cleafS kR zWP c_fndm w_sl0) 400 true true q_fm0.2.2.1 q_fm0.2.2.2 (cst zWP c_fndm.2.2.1.1 q_fm0.1) (cst zWP c_fndm.2.2.1.2 q_fm0.2.1) = true := by decide +kernel
theorem i_fm0 {X : pX} {ρ : sR} (h : ρ.1 60000 = 4096) : iok X ρ q_fm0.2.2.2 := by
  have e : (ρ.1 60000).toInt = 4096 := by rw [h]; rfl
  intro q hq
  simp only [q_fm0, List.mem_cons, List.not_mem_nil, or_false] at hq
  rcases hq with rfl | rfl
  · intro hg
    have g : (0 : Int32) = ρ.1 60032 := of_decide_eq_true (hg _ List.mem_cons_self)
    exact fm_n (by rw [e, ← g]; exact sl_here (p := 0) (by decide) (by decide) (by decide) (by decide) (by decide) (by decide +kernel))
  · intro hg
    exact fm_n (by rw [e]; exact fm_two (subs := [0]) (by decide) (by decide) (p := 0) (by decide) (by decide +kernel) (by decide +kernel) (fun s hs => by
      simp only [List.mem_cons, List.not_mem_nil, or_false] at hs
      rcases hs with rfl
      · exact fun e => of_decide_eq_false (hg ((0, .int 0, .arg 60032), false) (List.mem_of_getElem? (i := 0) rfl)) (Int32.toInt_inj.mp e.symm)))
noncomputable def q_fm1 : sCut := ((fr 0 425 0 [(0, .long 0)] [], [fBot], 1), (fr 0 239 0 [(0, tr 219), (1, .arg 60000), (2, .arg 60032)] [], [fBot], 1), [((0, .arg 60000, .int 4097), true)], [([((0, .int 0, .arg 60032), true)], (109, .add (.arg 60000) (.arg 60032), .int 1), true), ([((0, .int 0, .arg 60032), false)], (109, .add (.arg 60000) (.arg 60032), .int (-2)), true)])
theorem k_fm1 : cbody kR [] (cpl1 zWP c_fndm []) (cpl2 zWP c_fndm []) (cleafS kR zWP c_fndm w_sl0) 400 true true q_fm1.2.2.1 q_fm1.2.2.2 (cst zWP c_fndm.2.2.1.1 q_fm1.1) (cst zWP c_fndm.2.2.1.2 q_fm1.2.1) = true := by decide +kernel
theorem i_fm1 {X : pX} {ρ : sR} (h : ρ.1 60000 = 4097) : iok X ρ q_fm1.2.2.2 := by
  have e : (ρ.1 60000).toInt = 4097 := by rw [h]; rfl
  intro q hq
  simp only [q_fm1, List.mem_cons, List.not_mem_nil, or_false] at hq
  rcases hq with rfl | rfl
  · intro hg
    have g : (0 : Int32) = ρ.1 60032 := of_decide_eq_true (hg _ List.mem_cons_self)
    exact fm_n (by rw [e, ← g]; exact sl_here (p := 1) (by decide) (by decide) (by decide) (by decide) (by decide) (by decide +kernel))
  · intro hg
    exact fm_n (by rw [e]; exact fm_two (subs := [0]) (by decide) (by decide) (p := 1) (by decide) (by decide +kernel) (by decide +kernel) (fun s hs => by
      simp only [List.mem_cons, List.not_mem_nil, or_false] at hs
      rcases hs with rfl
      · exact fun e => of_decide_eq_false (hg ((0, .int 0, .arg 60032), false) (List.mem_of_getElem? (i := 0) rfl)) (Int32.toInt_inj.mp e.symm)))
noncomputable def q_fm2 : sCut := ((fr 0 425 0 [(0, .long 0)] [], [fBot], 1), (fr 0 239 0 [(0, tr 219), (1, .arg 60000), (2, .arg 60032)] [], [fBot], 1), [((0, .arg 60000, .int 4099), true)], [([((0, .int 0, .arg 60032), true)], (109, .add (.arg 60000) (.arg 60032), .int 2), true), ([((0, .int 1, .arg 60032), true)], (109, .add (.arg 60000) (.arg 60032), .int 3), true), ([((0, .int 2, .arg 60032), true)], (109, .add (.arg 60000) (.arg 60032), .int 4), true), ([((0, .int 3, .arg 60032), true)], (109, .add (.arg 60000) (.arg 60032), .int 5), true), ([((0, .int 4, .arg 60032), true)], (109, .add (.arg 60000) (.arg 60032), .int 6), true), ([((0, .int 5, .arg 60032), true)], (109, .add (.arg 60000) (.arg 60032), .int 7), true), ([((0, .int 6, .arg 60032), true)], (109, .add (.arg 60000) (.arg 60032), .int 8), true), ([((0, .int 7, .arg 60032), true)], (109, .add (.arg 60000) (.arg 60032), .int 9), true), ([((0, .int 8, .arg 60032), true)], (109, .add (.arg 60000) (.arg 60032), .int 10), true), ([((0, .int 0, .arg 60032), false), ((0, .int 1, .arg 60032), false), ((0, .int 2, .arg 60032), false), ((0, .int 3, .arg 60032), false), ((0, .int 4, .arg 60032), false), ((0, .int 5, .arg 60032), false), ((0, .int 6, .arg 60032), false), ((0, .int 7, .arg 60032), false), ((0, .int 8, .arg 60032), false)], (109, .add (.arg 60000) (.arg 60032), .int (-2)), true)])
theorem k_fm2 : cbody kR [] (cpl1 zWP c_fndm []) (cpl2 zWP c_fndm []) (cleafS kR zWP c_fndm w_sl0) 400 true true q_fm2.2.2.1 q_fm2.2.2.2 (cst zWP c_fndm.2.2.1.1 q_fm2.1) (cst zWP c_fndm.2.2.1.2 q_fm2.2.1) = true := by decide +kernel
theorem i_fm2 {X : pX} {ρ : sR} (h : ρ.1 60000 = 4099) : iok X ρ q_fm2.2.2.2 := by
  have e : (ρ.1 60000).toInt = 4099 := by rw [h]; rfl
  intro q hq
  simp only [q_fm2, List.mem_cons, List.not_mem_nil, or_false] at hq
  rcases hq with rfl | rfl | rfl | rfl | rfl | rfl | rfl | rfl | rfl | rfl
  · intro hg
    have g : (0 : Int32) = ρ.1 60032 := of_decide_eq_true (hg _ List.mem_cons_self)
    exact fm_n (by rw [e, ← g]; exact sl_here (p := 2) (by decide) (by decide) (by decide) (by decide) (by decide) (by decide +kernel))
  · intro hg
    have g : (1 : Int32) = ρ.1 60032 := of_decide_eq_true (hg _ List.mem_cons_self)
    exact fm_n (by rw [e, ← g]; exact sl_here (p := 3) (by decide) (by decide) (by decide) (by decide) (by decide) (by decide +kernel))
  · intro hg
    have g : (2 : Int32) = ρ.1 60032 := of_decide_eq_true (hg _ List.mem_cons_self)
    exact fm_n (by rw [e, ← g]; exact sl_here (p := 4) (by decide) (by decide) (by decide) (by decide) (by decide) (by decide +kernel))
  · intro hg
    have g : (3 : Int32) = ρ.1 60032 := of_decide_eq_true (hg _ List.mem_cons_self)
    exact fm_n (by rw [e, ← g]; exact sl_here (p := 5) (by decide) (by decide) (by decide) (by decide) (by decide) (by decide +kernel))
  · intro hg
    have g : (4 : Int32) = ρ.1 60032 := of_decide_eq_true (hg _ List.mem_cons_self)
    exact fm_n (by rw [e, ← g]; exact sl_here (p := 6) (by decide) (by decide) (by decide) (by decide) (by decide) (by decide +kernel))
  · intro hg
    have g : (5 : Int32) = ρ.1 60032 := of_decide_eq_true (hg _ List.mem_cons_self)
    exact fm_n (by rw [e, ← g]; exact sl_here (p := 7) (by decide) (by decide) (by decide) (by decide) (by decide) (by decide +kernel))
  · intro hg
    have g : (6 : Int32) = ρ.1 60032 := of_decide_eq_true (hg _ List.mem_cons_self)
    exact fm_n (by rw [e, ← g]; exact sl_here (p := 8) (by decide) (by decide) (by decide) (by decide) (by decide) (by decide +kernel))
  · intro hg
    have g : (7 : Int32) = ρ.1 60032 := of_decide_eq_true (hg _ List.mem_cons_self)
    exact fm_n (by rw [e, ← g]; exact sl_here (p := 9) (by decide) (by decide) (by decide) (by decide) (by decide) (by decide +kernel))
  · intro hg
    have g : (8 : Int32) = ρ.1 60032 := of_decide_eq_true (hg _ List.mem_cons_self)
    exact fm_n (by rw [e, ← g]; exact sl_here (p := 10) (by decide) (by decide) (by decide) (by decide) (by decide) (by decide +kernel))
  · intro hg
    exact fm_n (by rw [e]; exact fm_two (subs := [0, 1, 2, 3, 4, 5, 6, 7, 8]) (by decide) (by decide) (p := 2) (by decide) (by decide +kernel) (by decide +kernel) (fun s hs => by
      simp only [List.mem_cons, List.not_mem_nil, or_false] at hs
      rcases hs with rfl | rfl | rfl | rfl | rfl | rfl | rfl | rfl | rfl
      · exact fun e => of_decide_eq_false (hg ((0, .int 0, .arg 60032), false) (List.mem_of_getElem? (i := 0) rfl)) (Int32.toInt_inj.mp e.symm)
      · exact fun e => of_decide_eq_false (hg ((0, .int 1, .arg 60032), false) (List.mem_of_getElem? (i := 1) rfl)) (Int32.toInt_inj.mp e.symm)
      · exact fun e => of_decide_eq_false (hg ((0, .int 2, .arg 60032), false) (List.mem_of_getElem? (i := 2) rfl)) (Int32.toInt_inj.mp e.symm)
      · exact fun e => of_decide_eq_false (hg ((0, .int 3, .arg 60032), false) (List.mem_of_getElem? (i := 3) rfl)) (Int32.toInt_inj.mp e.symm)
      · exact fun e => of_decide_eq_false (hg ((0, .int 4, .arg 60032), false) (List.mem_of_getElem? (i := 4) rfl)) (Int32.toInt_inj.mp e.symm)
      · exact fun e => of_decide_eq_false (hg ((0, .int 5, .arg 60032), false) (List.mem_of_getElem? (i := 5) rfl)) (Int32.toInt_inj.mp e.symm)
      · exact fun e => of_decide_eq_false (hg ((0, .int 6, .arg 60032), false) (List.mem_of_getElem? (i := 6) rfl)) (Int32.toInt_inj.mp e.symm)
      · exact fun e => of_decide_eq_false (hg ((0, .int 7, .arg 60032), false) (List.mem_of_getElem? (i := 7) rfl)) (Int32.toInt_inj.mp e.symm)
      · exact fun e => of_decide_eq_false (hg ((0, .int 8, .arg 60032), false) (List.mem_of_getElem? (i := 8) rfl)) (Int32.toInt_inj.mp e.symm)))
noncomputable def q_fm3 : sCut := ((fr 0 425 0 [(0, .long 0)] [], [fBot], 1), (fr 0 239 0 [(0, tr 219), (1, .arg 60000), (2, .arg 60032)] [], [fBot], 1), [((0, .arg 60000, .int 4101), true)], [([((0, .int 0, .arg 60032), true)], (109, .add (.arg 60000) (.arg 60032), .int 11), true), ([((0, .int 0, .arg 60032), false)], (109, .add (.arg 60000) (.arg 60032), .int (-2)), true)])
theorem k_fm3 : cbody kR [] (cpl1 zWP c_fndm []) (cpl2 zWP c_fndm []) (cleafS kR zWP c_fndm w_sl0) 400 true true q_fm3.2.2.1 q_fm3.2.2.2 (cst zWP c_fndm.2.2.1.1 q_fm3.1) (cst zWP c_fndm.2.2.1.2 q_fm3.2.1) = true := by decide +kernel
theorem i_fm3 {X : pX} {ρ : sR} (h : ρ.1 60000 = 4101) : iok X ρ q_fm3.2.2.2 := by
  have e : (ρ.1 60000).toInt = 4101 := by rw [h]; rfl
  intro q hq
  simp only [q_fm3, List.mem_cons, List.not_mem_nil, or_false] at hq
  rcases hq with rfl | rfl
  · intro hg
    have g : (0 : Int32) = ρ.1 60032 := of_decide_eq_true (hg _ List.mem_cons_self)
    exact fm_n (by rw [e, ← g]; exact sl_here (p := 11) (by decide) (by decide) (by decide) (by decide) (by decide) (by decide +kernel))
  · intro hg
    exact fm_n (by rw [e]; exact fm_two (subs := [0]) (by decide) (by decide) (p := 11) (by decide) (by decide +kernel) (by decide +kernel) (fun s hs => by
      simp only [List.mem_cons, List.not_mem_nil, or_false] at hs
      rcases hs with rfl
      · exact fun e => of_decide_eq_false (hg ((0, .int 0, .arg 60032), false) (List.mem_of_getElem? (i := 0) rfl)) (Int32.toInt_inj.mp e.symm)))
noncomputable def q_fm4 : sCut := ((fr 0 425 0 [(0, .long 0)] [], [fBot], 1), (fr 0 239 0 [(0, tr 219), (1, .arg 60000), (2, .arg 60032)] [], [fBot], 1), [((0, .arg 60000, .int 4102), true)], [([((0, .int 0, .arg 60032), true)], (109, .add (.arg 60000) (.arg 60032), .int 12), true), ([((0, .int 0, .arg 60032), false)], (109, .add (.arg 60000) (.arg 60032), .int (-2)), true)])
theorem k_fm4 : cbody kR [] (cpl1 zWP c_fndm []) (cpl2 zWP c_fndm []) (cleafS kR zWP c_fndm w_sl0) 400 true true q_fm4.2.2.1 q_fm4.2.2.2 (cst zWP c_fndm.2.2.1.1 q_fm4.1) (cst zWP c_fndm.2.2.1.2 q_fm4.2.1) = true := by decide +kernel
theorem i_fm4 {X : pX} {ρ : sR} (h : ρ.1 60000 = 4102) : iok X ρ q_fm4.2.2.2 := by
  have e : (ρ.1 60000).toInt = 4102 := by rw [h]; rfl
  intro q hq
  simp only [q_fm4, List.mem_cons, List.not_mem_nil, or_false] at hq
  rcases hq with rfl | rfl
  · intro hg
    have g : (0 : Int32) = ρ.1 60032 := of_decide_eq_true (hg _ List.mem_cons_self)
    exact fm_n (by rw [e, ← g]; exact sl_here (p := 12) (by decide) (by decide) (by decide) (by decide) (by decide) (by decide +kernel))
  · intro hg
    exact fm_n (by rw [e]; exact fm_two (subs := [0]) (by decide) (by decide) (p := 12) (by decide) (by decide +kernel) (by decide +kernel) (fun s hs => by
      simp only [List.mem_cons, List.not_mem_nil, or_false] at hs
      rcases hs with rfl
      · exact fun e => of_decide_eq_false (hg ((0, .int 0, .arg 60032), false) (List.mem_of_getElem? (i := 0) rfl)) (Int32.toInt_inj.mp e.symm)))
noncomputable def q_fm5 : sCut := ((fr 0 425 0 [(0, .long 0)] [], [fBot], 1), (fr 0 239 0 [(0, tr 219), (1, .arg 60000), (2, .arg 60032)] [], [fBot], 1), [((0, .arg 60000, .int 4104), true)], [([((0, .int 0, .arg 60032), true)], (109, .add (.arg 60000) (.arg 60032), .int 13), true), ([((0, .int 0, .arg 60032), false)], (109, .add (.arg 60000) (.arg 60032), .int (-2)), true)])
theorem k_fm5 : cbody kR [] (cpl1 zWP c_fndm []) (cpl2 zWP c_fndm []) (cleafS kR zWP c_fndm w_sl0) 400 true true q_fm5.2.2.1 q_fm5.2.2.2 (cst zWP c_fndm.2.2.1.1 q_fm5.1) (cst zWP c_fndm.2.2.1.2 q_fm5.2.1) = true := by decide +kernel
theorem i_fm5 {X : pX} {ρ : sR} (h : ρ.1 60000 = 4104) : iok X ρ q_fm5.2.2.2 := by
  have e : (ρ.1 60000).toInt = 4104 := by rw [h]; rfl
  intro q hq
  simp only [q_fm5, List.mem_cons, List.not_mem_nil, or_false] at hq
  rcases hq with rfl | rfl
  · intro hg
    have g : (0 : Int32) = ρ.1 60032 := of_decide_eq_true (hg _ List.mem_cons_self)
    exact fm_n (by rw [e, ← g]; exact sl_here (p := 13) (by decide) (by decide) (by decide) (by decide) (by decide) (by decide +kernel))
  · intro hg
    exact fm_n (by rw [e]; exact fm_two (subs := [0]) (by decide) (by decide) (p := 13) (by decide) (by decide +kernel) (by decide +kernel) (fun s hs => by
      simp only [List.mem_cons, List.not_mem_nil, or_false] at hs
      rcases hs with rfl
      · exact fun e => of_decide_eq_false (hg ((0, .int 0, .arg 60032), false) (List.mem_of_getElem? (i := 0) rfl)) (Int32.toInt_inj.mp e.symm)))
noncomputable def q_fm6 : sCut := ((fr 0 425 0 [(0, .long 0)] [], [fBot], 1), (fr 0 239 0 [(0, tr 219), (1, .arg 60000), (2, .arg 60032)] [], [fBot], 1), [((0, .arg 60000, .int 4112), true)], [([((0, .int 0, .arg 60032), true)], (109, .add (.arg 60000) (.arg 60032), .int 14), true), ([((0, .int 1, .arg 60032), true)], (109, .add (.arg 60000) (.arg 60032), .int 15), true), ([((0, .int 0, .arg 60032), false), ((0, .int 1, .arg 60032), false)], (109, .add (.arg 60000) (.arg 60032), .int (-2)), true)])
theorem k_fm6 : cbody kR [] (cpl1 zWP c_fndm []) (cpl2 zWP c_fndm []) (cleafS kR zWP c_fndm w_sl0) 400 true true q_fm6.2.2.1 q_fm6.2.2.2 (cst zWP c_fndm.2.2.1.1 q_fm6.1) (cst zWP c_fndm.2.2.1.2 q_fm6.2.1) = true := by decide +kernel
theorem i_fm6 {X : pX} {ρ : sR} (h : ρ.1 60000 = 4112) : iok X ρ q_fm6.2.2.2 := by
  have e : (ρ.1 60000).toInt = 4112 := by rw [h]; rfl
  intro q hq
  simp only [q_fm6, List.mem_cons, List.not_mem_nil, or_false] at hq
  rcases hq with rfl | rfl | rfl
  · intro hg
    have g : (0 : Int32) = ρ.1 60032 := of_decide_eq_true (hg _ List.mem_cons_self)
    exact fm_n (by rw [e, ← g]; exact sl_here (p := 14) (by decide) (by decide) (by decide) (by decide) (by decide) (by decide +kernel))
  · intro hg
    have g : (1 : Int32) = ρ.1 60032 := of_decide_eq_true (hg _ List.mem_cons_self)
    exact fm_n (by rw [e, ← g]; exact sl_here (p := 15) (by decide) (by decide) (by decide) (by decide) (by decide) (by decide +kernel))
  · intro hg
    exact fm_n (by rw [e]; exact fm_two (subs := [0, 1]) (by decide) (by decide) (p := 14) (by decide) (by decide +kernel) (by decide +kernel) (fun s hs => by
      simp only [List.mem_cons, List.not_mem_nil, or_false] at hs
      rcases hs with rfl | rfl
      · exact fun e => of_decide_eq_false (hg ((0, .int 0, .arg 60032), false) (List.mem_of_getElem? (i := 0) rfl)) (Int32.toInt_inj.mp e.symm)
      · exact fun e => of_decide_eq_false (hg ((0, .int 1, .arg 60032), false) (List.mem_of_getElem? (i := 1) rfl)) (Int32.toInt_inj.mp e.symm)))
noncomputable def q_fm7 : sCut := ((fr 0 425 0 [(0, .long 0)] [], [fBot], 1), (fr 0 239 0 [(0, tr 219), (1, .arg 60000), (2, .arg 60032)] [], [fBot], 1), [((0, .arg 60000, .int 4113), true)], [([((0, .int 0, .arg 60032), true)], (109, .add (.arg 60000) (.arg 60032), .int 16), true), ([((0, .int 1, .arg 60032), true)], (109, .add (.arg 60000) (.arg 60032), .int 17), true), ([((0, .int 0, .arg 60032), false), ((0, .int 1, .arg 60032), false)], (109, .add (.arg 60000) (.arg 60032), .int (-2)), true)])
theorem k_fm7 : cbody kR [] (cpl1 zWP c_fndm []) (cpl2 zWP c_fndm []) (cleafS kR zWP c_fndm w_sl0) 400 true true q_fm7.2.2.1 q_fm7.2.2.2 (cst zWP c_fndm.2.2.1.1 q_fm7.1) (cst zWP c_fndm.2.2.1.2 q_fm7.2.1) = true := by decide +kernel
theorem i_fm7 {X : pX} {ρ : sR} (h : ρ.1 60000 = 4113) : iok X ρ q_fm7.2.2.2 := by
  have e : (ρ.1 60000).toInt = 4113 := by rw [h]; rfl
  intro q hq
  simp only [q_fm7, List.mem_cons, List.not_mem_nil, or_false] at hq
  rcases hq with rfl | rfl | rfl
  · intro hg
    have g : (0 : Int32) = ρ.1 60032 := of_decide_eq_true (hg _ List.mem_cons_self)
    exact fm_n (by rw [e, ← g]; exact sl_here (p := 16) (by decide) (by decide) (by decide) (by decide) (by decide) (by decide +kernel))
  · intro hg
    have g : (1 : Int32) = ρ.1 60032 := of_decide_eq_true (hg _ List.mem_cons_self)
    exact fm_n (by rw [e, ← g]; exact sl_here (p := 17) (by decide) (by decide) (by decide) (by decide) (by decide) (by decide +kernel))
  · intro hg
    exact fm_n (by rw [e]; exact fm_two (subs := [0, 1]) (by decide) (by decide) (p := 16) (by decide) (by decide +kernel) (by decide +kernel) (fun s hs => by
      simp only [List.mem_cons, List.not_mem_nil, or_false] at hs
      rcases hs with rfl | rfl
      · exact fun e => of_decide_eq_false (hg ((0, .int 0, .arg 60032), false) (List.mem_of_getElem? (i := 0) rfl)) (Int32.toInt_inj.mp e.symm)
      · exact fun e => of_decide_eq_false (hg ((0, .int 1, .arg 60032), false) (List.mem_of_getElem? (i := 1) rfl)) (Int32.toInt_inj.mp e.symm)))
noncomputable def q_fm8 : sCut := ((fr 0 425 0 [(0, .long 0)] [], [fBot], 1), (fr 0 239 0 [(0, tr 219), (1, .arg 60000), (2, .arg 60032)] [], [fBot], 1), [((0, .arg 60000, .int 4116), true)], [([((0, .int 0, .arg 60032), true)], (109, .add (.arg 60000) (.arg 60032), .int 18), true), ([((0, .int 0, .arg 60032), false)], (109, .add (.arg 60000) (.arg 60032), .int (-2)), true)])
theorem k_fm8 : cbody kR [] (cpl1 zWP c_fndm []) (cpl2 zWP c_fndm []) (cleafS kR zWP c_fndm w_sl0) 400 true true q_fm8.2.2.1 q_fm8.2.2.2 (cst zWP c_fndm.2.2.1.1 q_fm8.1) (cst zWP c_fndm.2.2.1.2 q_fm8.2.1) = true := by decide +kernel
theorem i_fm8 {X : pX} {ρ : sR} (h : ρ.1 60000 = 4116) : iok X ρ q_fm8.2.2.2 := by
  have e : (ρ.1 60000).toInt = 4116 := by rw [h]; rfl
  intro q hq
  simp only [q_fm8, List.mem_cons, List.not_mem_nil, or_false] at hq
  rcases hq with rfl | rfl
  · intro hg
    have g : (0 : Int32) = ρ.1 60032 := of_decide_eq_true (hg _ List.mem_cons_self)
    exact fm_n (by rw [e, ← g]; exact sl_here (p := 18) (by decide) (by decide) (by decide) (by decide) (by decide) (by decide +kernel))
  · intro hg
    exact fm_n (by rw [e]; exact fm_two (subs := [0]) (by decide) (by decide) (p := 18) (by decide) (by decide +kernel) (by decide +kernel) (fun s hs => by
      simp only [List.mem_cons, List.not_mem_nil, or_false] at hs
      rcases hs with rfl
      · exact fun e => of_decide_eq_false (hg ((0, .int 0, .arg 60032), false) (List.mem_of_getElem? (i := 0) rfl)) (Int32.toInt_inj.mp e.symm)))
noncomputable def q_fm9 : sCut := ((fr 0 425 0 [(0, .long 0)] [], [fBot], 1), (fr 0 239 0 [(0, tr 219), (1, .arg 60000), (2, .arg 60032)] [], [fBot], 1), [((0, .arg 60000, .int 4117), true)], [([((0, .int 0, .arg 60032), true)], (109, .add (.arg 60000) (.arg 60032), .int 19), true), ([((0, .int 0, .arg 60032), false)], (109, .add (.arg 60000) (.arg 60032), .int (-2)), true)])
theorem k_fm9 : cbody kR [] (cpl1 zWP c_fndm []) (cpl2 zWP c_fndm []) (cleafS kR zWP c_fndm w_sl0) 400 true true q_fm9.2.2.1 q_fm9.2.2.2 (cst zWP c_fndm.2.2.1.1 q_fm9.1) (cst zWP c_fndm.2.2.1.2 q_fm9.2.1) = true := by decide +kernel
theorem i_fm9 {X : pX} {ρ : sR} (h : ρ.1 60000 = 4117) : iok X ρ q_fm9.2.2.2 := by
  have e : (ρ.1 60000).toInt = 4117 := by rw [h]; rfl
  intro q hq
  simp only [q_fm9, List.mem_cons, List.not_mem_nil, or_false] at hq
  rcases hq with rfl | rfl
  · intro hg
    have g : (0 : Int32) = ρ.1 60032 := of_decide_eq_true (hg _ List.mem_cons_self)
    exact fm_n (by rw [e, ← g]; exact sl_here (p := 19) (by decide) (by decide) (by decide) (by decide) (by decide) (by decide +kernel))
  · intro hg
    exact fm_n (by rw [e]; exact fm_two (subs := [0]) (by decide) (by decide) (p := 19) (by decide) (by decide +kernel) (by decide +kernel) (fun s hs => by
      simp only [List.mem_cons, List.not_mem_nil, or_false] at hs
      rcases hs with rfl
      · exact fun e => of_decide_eq_false (hg ((0, .int 0, .arg 60032), false) (List.mem_of_getElem? (i := 0) rfl)) (Int32.toInt_inj.mp e.symm)))
noncomputable def q_fm10 : sCut := ((fr 0 425 0 [(0, .long 0)] [], [fBot], 1), (fr 0 239 0 [(0, tr 219), (1, .arg 60000), (2, .arg 60032)] [], [fBot], 1), [((0, .arg 60000, .int 4118), true)], [([((0, .int 0, .arg 60032), true)], (109, .add (.arg 60000) (.arg 60032), .int 20), true), ([((0, .int 1, .arg 60032), true)], (109, .add (.arg 60000) (.arg 60032), .int 21), true), ([((0, .int 2, .arg 60032), true)], (109, .add (.arg 60000) (.arg 60032), .int 22), true), ([((0, .int 0, .arg 60032), false), ((0, .int 1, .arg 60032), false), ((0, .int 2, .arg 60032), false)], (109, .add (.arg 60000) (.arg 60032), .int (-2)), true)])
theorem k_fm10 : cbody kR [] (cpl1 zWP c_fndm []) (cpl2 zWP c_fndm []) (cleafS kR zWP c_fndm w_sl0) 400 true true q_fm10.2.2.1 q_fm10.2.2.2 (cst zWP c_fndm.2.2.1.1 q_fm10.1) (cst zWP c_fndm.2.2.1.2 q_fm10.2.1) = true := by decide +kernel
theorem i_fm10 {X : pX} {ρ : sR} (h : ρ.1 60000 = 4118) : iok X ρ q_fm10.2.2.2 := by
  have e : (ρ.1 60000).toInt = 4118 := by rw [h]; rfl
  intro q hq
  simp only [q_fm10, List.mem_cons, List.not_mem_nil, or_false] at hq
  rcases hq with rfl | rfl | rfl | rfl
  · intro hg
    have g : (0 : Int32) = ρ.1 60032 := of_decide_eq_true (hg _ List.mem_cons_self)
    exact fm_n (by rw [e, ← g]; exact sl_here (p := 20) (by decide) (by decide) (by decide) (by decide) (by decide) (by decide +kernel))
  · intro hg
    have g : (1 : Int32) = ρ.1 60032 := of_decide_eq_true (hg _ List.mem_cons_self)
    exact fm_n (by rw [e, ← g]; exact sl_here (p := 21) (by decide) (by decide) (by decide) (by decide) (by decide) (by decide +kernel))
  · intro hg
    have g : (2 : Int32) = ρ.1 60032 := of_decide_eq_true (hg _ List.mem_cons_self)
    exact fm_n (by rw [e, ← g]; exact sl_here (p := 22) (by decide) (by decide) (by decide) (by decide) (by decide) (by decide +kernel))
  · intro hg
    exact fm_n (by rw [e]; exact fm_two (subs := [0, 1, 2]) (by decide) (by decide) (p := 20) (by decide) (by decide +kernel) (by decide +kernel) (fun s hs => by
      simp only [List.mem_cons, List.not_mem_nil, or_false] at hs
      rcases hs with rfl | rfl | rfl
      · exact fun e => of_decide_eq_false (hg ((0, .int 0, .arg 60032), false) (List.mem_of_getElem? (i := 0) rfl)) (Int32.toInt_inj.mp e.symm)
      · exact fun e => of_decide_eq_false (hg ((0, .int 1, .arg 60032), false) (List.mem_of_getElem? (i := 1) rfl)) (Int32.toInt_inj.mp e.symm)
      · exact fun e => of_decide_eq_false (hg ((0, .int 2, .arg 60032), false) (List.mem_of_getElem? (i := 2) rfl)) (Int32.toInt_inj.mp e.symm)))
noncomputable def q_fm11 : sCut := ((fr 0 425 0 [(0, .long 0)] [], [fBot], 1), (fr 0 239 0 [(0, tr 219), (1, .arg 60000), (2, .arg 60032)] [], [fBot], 1), [((0, .arg 60000, .int 4119), true)], [([((0, .int 0, .arg 60032), true)], (109, .add (.arg 60000) (.arg 60032), .int 23), true), ([((0, .int 0, .arg 60032), false)], (109, .add (.arg 60000) (.arg 60032), .int (-2)), true)])
theorem k_fm11 : cbody kR [] (cpl1 zWP c_fndm []) (cpl2 zWP c_fndm []) (cleafS kR zWP c_fndm w_sl0) 400 true true q_fm11.2.2.1 q_fm11.2.2.2 (cst zWP c_fndm.2.2.1.1 q_fm11.1) (cst zWP c_fndm.2.2.1.2 q_fm11.2.1) = true := by decide +kernel
theorem i_fm11 {X : pX} {ρ : sR} (h : ρ.1 60000 = 4119) : iok X ρ q_fm11.2.2.2 := by
  have e : (ρ.1 60000).toInt = 4119 := by rw [h]; rfl
  intro q hq
  simp only [q_fm11, List.mem_cons, List.not_mem_nil, or_false] at hq
  rcases hq with rfl | rfl
  · intro hg
    have g : (0 : Int32) = ρ.1 60032 := of_decide_eq_true (hg _ List.mem_cons_self)
    exact fm_n (by rw [e, ← g]; exact sl_here (p := 23) (by decide) (by decide) (by decide) (by decide) (by decide) (by decide +kernel))
  · intro hg
    exact fm_n (by rw [e]; exact fm_two (subs := [0]) (by decide) (by decide) (p := 23) (by decide) (by decide +kernel) (by decide +kernel) (fun s hs => by
      simp only [List.mem_cons, List.not_mem_nil, or_false] at hs
      rcases hs with rfl
      · exact fun e => of_decide_eq_false (hg ((0, .int 0, .arg 60032), false) (List.mem_of_getElem? (i := 0) rfl)) (Int32.toInt_inj.mp e.symm)))
noncomputable def q_fm12 : sCut := ((fr 0 425 0 [(0, .long 0)] [], [fBot], 1), (fr 0 239 0 [(0, tr 219), (1, .arg 60000), (2, .arg 60032)] [], [fBot], 1), [((0, .arg 60000, .int 4120), true)], [([((0, .int 0, .arg 60032), true)], (109, .add (.arg 60000) (.arg 60032), .int 24), true), ([((0, .int 1, .arg 60032), true)], (109, .add (.arg 60000) (.arg 60032), .int 25), true), ([((0, .int 2, .arg 60032), true)], (109, .add (.arg 60000) (.arg 60032), .int 26), true), ([((0, .int 3, .arg 60032), true)], (109, .add (.arg 60000) (.arg 60032), .int 27), true), ([((0, .int 4, .arg 60032), true)], (109, .add (.arg 60000) (.arg 60032), .int 28), true), ([((0, .int 0, .arg 60032), false), ((0, .int 1, .arg 60032), false), ((0, .int 2, .arg 60032), false), ((0, .int 3, .arg 60032), false), ((0, .int 4, .arg 60032), false)], (109, .add (.arg 60000) (.arg 60032), .int (-2)), true)])
theorem k_fm12 : cbody kR [] (cpl1 zWP c_fndm []) (cpl2 zWP c_fndm []) (cleafS kR zWP c_fndm w_sl0) 400 true true q_fm12.2.2.1 q_fm12.2.2.2 (cst zWP c_fndm.2.2.1.1 q_fm12.1) (cst zWP c_fndm.2.2.1.2 q_fm12.2.1) = true := by decide +kernel
theorem i_fm12 {X : pX} {ρ : sR} (h : ρ.1 60000 = 4120) : iok X ρ q_fm12.2.2.2 := by
  have e : (ρ.1 60000).toInt = 4120 := by rw [h]; rfl
  intro q hq
  simp only [q_fm12, List.mem_cons, List.not_mem_nil, or_false] at hq
  rcases hq with rfl | rfl | rfl | rfl | rfl | rfl
  · intro hg
    have g : (0 : Int32) = ρ.1 60032 := of_decide_eq_true (hg _ List.mem_cons_self)
    exact fm_n (by rw [e, ← g]; exact sl_here (p := 24) (by decide) (by decide) (by decide) (by decide) (by decide) (by decide +kernel))
  · intro hg
    have g : (1 : Int32) = ρ.1 60032 := of_decide_eq_true (hg _ List.mem_cons_self)
    exact fm_n (by rw [e, ← g]; exact sl_here (p := 25) (by decide) (by decide) (by decide) (by decide) (by decide) (by decide +kernel))
  · intro hg
    have g : (2 : Int32) = ρ.1 60032 := of_decide_eq_true (hg _ List.mem_cons_self)
    exact fm_n (by rw [e, ← g]; exact sl_here (p := 26) (by decide) (by decide) (by decide) (by decide) (by decide) (by decide +kernel))
  · intro hg
    have g : (3 : Int32) = ρ.1 60032 := of_decide_eq_true (hg _ List.mem_cons_self)
    exact fm_n (by rw [e, ← g]; exact sl_here (p := 27) (by decide) (by decide) (by decide) (by decide) (by decide) (by decide +kernel))
  · intro hg
    have g : (4 : Int32) = ρ.1 60032 := of_decide_eq_true (hg _ List.mem_cons_self)
    exact fm_n (by rw [e, ← g]; exact sl_here (p := 28) (by decide) (by decide) (by decide) (by decide) (by decide) (by decide +kernel))
  · intro hg
    exact fm_n (by rw [e]; exact fm_two (subs := [0, 1, 2, 3, 4]) (by decide) (by decide) (p := 24) (by decide) (by decide +kernel) (by decide +kernel) (fun s hs => by
      simp only [List.mem_cons, List.not_mem_nil, or_false] at hs
      rcases hs with rfl | rfl | rfl | rfl | rfl
      · exact fun e => of_decide_eq_false (hg ((0, .int 0, .arg 60032), false) (List.mem_of_getElem? (i := 0) rfl)) (Int32.toInt_inj.mp e.symm)
      · exact fun e => of_decide_eq_false (hg ((0, .int 1, .arg 60032), false) (List.mem_of_getElem? (i := 1) rfl)) (Int32.toInt_inj.mp e.symm)
      · exact fun e => of_decide_eq_false (hg ((0, .int 2, .arg 60032), false) (List.mem_of_getElem? (i := 2) rfl)) (Int32.toInt_inj.mp e.symm)
      · exact fun e => of_decide_eq_false (hg ((0, .int 3, .arg 60032), false) (List.mem_of_getElem? (i := 3) rfl)) (Int32.toInt_inj.mp e.symm)
      · exact fun e => of_decide_eq_false (hg ((0, .int 4, .arg 60032), false) (List.mem_of_getElem? (i := 4) rfl)) (Int32.toInt_inj.mp e.symm)))
noncomputable def q_fm13 : sCut := ((fr 0 425 0 [(0, .long 0)] [], [fBot], 1), (fr 0 239 0 [(0, tr 219), (1, .arg 60000), (2, .arg 60032)] [], [fBot], 1), [((0, .arg 60000, .int 4137), true)], [([((0, .int 0, .arg 60032), true)], (109, .add (.arg 60000) (.arg 60032), .int 29), true), ([((0, .int 1, .arg 60032), true)], (109, .add (.arg 60000) (.arg 60032), .int 30), true), ([((0, .int 0, .arg 60032), false), ((0, .int 1, .arg 60032), false)], (109, .add (.arg 60000) (.arg 60032), .int (-2)), true)])
theorem k_fm13 : cbody kR [] (cpl1 zWP c_fndm []) (cpl2 zWP c_fndm []) (cleafS kR zWP c_fndm w_sl0) 400 true true q_fm13.2.2.1 q_fm13.2.2.2 (cst zWP c_fndm.2.2.1.1 q_fm13.1) (cst zWP c_fndm.2.2.1.2 q_fm13.2.1) = true := by decide +kernel
theorem i_fm13 {X : pX} {ρ : sR} (h : ρ.1 60000 = 4137) : iok X ρ q_fm13.2.2.2 := by
  have e : (ρ.1 60000).toInt = 4137 := by rw [h]; rfl
  intro q hq
  simp only [q_fm13, List.mem_cons, List.not_mem_nil, or_false] at hq
  rcases hq with rfl | rfl | rfl
  · intro hg
    have g : (0 : Int32) = ρ.1 60032 := of_decide_eq_true (hg _ List.mem_cons_self)
    exact fm_n (by rw [e, ← g]; exact sl_here (p := 29) (by decide) (by decide) (by decide) (by decide) (by decide) (by decide +kernel))
  · intro hg
    have g : (1 : Int32) = ρ.1 60032 := of_decide_eq_true (hg _ List.mem_cons_self)
    exact fm_n (by rw [e, ← g]; exact sl_here (p := 30) (by decide) (by decide) (by decide) (by decide) (by decide) (by decide +kernel))
  · intro hg
    exact fm_n (by rw [e]; exact fm_two (subs := [0, 1]) (by decide) (by decide) (p := 29) (by decide) (by decide +kernel) (by decide +kernel) (fun s hs => by
      simp only [List.mem_cons, List.not_mem_nil, or_false] at hs
      rcases hs with rfl | rfl
      · exact fun e => of_decide_eq_false (hg ((0, .int 0, .arg 60032), false) (List.mem_of_getElem? (i := 0) rfl)) (Int32.toInt_inj.mp e.symm)
      · exact fun e => of_decide_eq_false (hg ((0, .int 1, .arg 60032), false) (List.mem_of_getElem? (i := 1) rfl)) (Int32.toInt_inj.mp e.symm)))
noncomputable def q_fm14 : sCut := ((fr 0 425 0 [(0, .long 0)] [], [fBot], 1), (fr 0 239 0 [(0, tr 219), (1, .arg 60000), (2, .arg 60032)] [], [fBot], 1), [((0, .arg 60000, .int 4608), true)], [([((0, .int 0, .arg 60032), true)], (109, .add (.arg 60000) (.arg 60032), .int 31), true), ([((0, .int 1, .arg 60032), true)], (109, .add (.arg 60000) (.arg 60032), .int 32), true), ([((0, .int 2, .arg 60032), true)], (109, .add (.arg 60000) (.arg 60032), .int 33), true), ([((0, .int 0, .arg 60032), false), ((0, .int 1, .arg 60032), false), ((0, .int 2, .arg 60032), false)], (109, .add (.arg 60000) (.arg 60032), .int (-2)), true)])
theorem k_fm14 : cbody kR [] (cpl1 zWP c_fndm []) (cpl2 zWP c_fndm []) (cleafS kR zWP c_fndm w_sl0) 400 true true q_fm14.2.2.1 q_fm14.2.2.2 (cst zWP c_fndm.2.2.1.1 q_fm14.1) (cst zWP c_fndm.2.2.1.2 q_fm14.2.1) = true := by decide +kernel
theorem i_fm14 {X : pX} {ρ : sR} (h : ρ.1 60000 = 4608) : iok X ρ q_fm14.2.2.2 := by
  have e : (ρ.1 60000).toInt = 4608 := by rw [h]; rfl
  intro q hq
  simp only [q_fm14, List.mem_cons, List.not_mem_nil, or_false] at hq
  rcases hq with rfl | rfl | rfl | rfl
  · intro hg
    have g : (0 : Int32) = ρ.1 60032 := of_decide_eq_true (hg _ List.mem_cons_self)
    exact fm_n (by rw [e, ← g]; exact sl_here (p := 31) (by decide) (by decide) (by decide) (by decide) (by decide) (by decide +kernel))
  · intro hg
    have g : (1 : Int32) = ρ.1 60032 := of_decide_eq_true (hg _ List.mem_cons_self)
    exact fm_n (by rw [e, ← g]; exact sl_here (p := 32) (by decide) (by decide) (by decide) (by decide) (by decide) (by decide +kernel))
  · intro hg
    have g : (2 : Int32) = ρ.1 60032 := of_decide_eq_true (hg _ List.mem_cons_self)
    exact fm_n (by rw [e, ← g]; exact sl_here (p := 33) (by decide) (by decide) (by decide) (by decide) (by decide) (by decide +kernel))
  · intro hg
    exact fm_n (by rw [e]; exact fm_two (subs := [0, 1, 2]) (by decide) (by decide) (p := 31) (by decide) (by decide +kernel) (by decide +kernel) (fun s hs => by
      simp only [List.mem_cons, List.not_mem_nil, or_false] at hs
      rcases hs with rfl | rfl | rfl
      · exact fun e => of_decide_eq_false (hg ((0, .int 0, .arg 60032), false) (List.mem_of_getElem? (i := 0) rfl)) (Int32.toInt_inj.mp e.symm)
      · exact fun e => of_decide_eq_false (hg ((0, .int 1, .arg 60032), false) (List.mem_of_getElem? (i := 1) rfl)) (Int32.toInt_inj.mp e.symm)
      · exact fun e => of_decide_eq_false (hg ((0, .int 2, .arg 60032), false) (List.mem_of_getElem? (i := 2) rfl)) (Int32.toInt_inj.mp e.symm)))
noncomputable def q_fm15 : sCut := ((fr 0 425 0 [(0, .long 0)] [], [fBot], 1), (fr 0 239 0 [(0, tr 219), (1, .arg 60000), (2, .arg 60032)] [], [fBot], 1), [((0, .arg 60000, .int 5120), true)], [([((0, .int 0, .arg 60032), true)], (109, .add (.arg 60000) (.arg 60032), .int 34), true), ([((0, .int 1, .arg 60032), true)], (109, .add (.arg 60000) (.arg 60032), .int 35), true), ([((0, .int 2, .arg 60032), true)], (109, .add (.arg 60000) (.arg 60032), .int 36), true), ([((0, .int 5, .arg 60032), true)], (109, .add (.arg 60000) (.arg 60032), .int 37), true), ([((0, .int 0, .arg 60032), false), ((0, .int 1, .arg 60032), false), ((0, .int 2, .arg 60032), false), ((0, .int 5, .arg 60032), false)], (109, .add (.arg 60000) (.arg 60032), .int (-2)), true)])
theorem k_fm15 : cbody kR [] (cpl1 zWP c_fndm []) (cpl2 zWP c_fndm []) (cleafS kR zWP c_fndm w_sl0) 400 true true q_fm15.2.2.1 q_fm15.2.2.2 (cst zWP c_fndm.2.2.1.1 q_fm15.1) (cst zWP c_fndm.2.2.1.2 q_fm15.2.1) = true := by decide +kernel
theorem i_fm15 {X : pX} {ρ : sR} (h : ρ.1 60000 = 5120) : iok X ρ q_fm15.2.2.2 := by
  have e : (ρ.1 60000).toInt = 5120 := by rw [h]; rfl
  intro q hq
  simp only [q_fm15, List.mem_cons, List.not_mem_nil, or_false] at hq
  rcases hq with rfl | rfl | rfl | rfl | rfl
  · intro hg
    have g : (0 : Int32) = ρ.1 60032 := of_decide_eq_true (hg _ List.mem_cons_self)
    exact fm_n (by rw [e, ← g]; exact sl_here (p := 34) (by decide) (by decide) (by decide) (by decide) (by decide) (by decide +kernel))
  · intro hg
    have g : (1 : Int32) = ρ.1 60032 := of_decide_eq_true (hg _ List.mem_cons_self)
    exact fm_n (by rw [e, ← g]; exact sl_here (p := 35) (by decide) (by decide) (by decide) (by decide) (by decide) (by decide +kernel))
  · intro hg
    have g : (2 : Int32) = ρ.1 60032 := of_decide_eq_true (hg _ List.mem_cons_self)
    exact fm_n (by rw [e, ← g]; exact sl_here (p := 36) (by decide) (by decide) (by decide) (by decide) (by decide) (by decide +kernel))
  · intro hg
    have g : (5 : Int32) = ρ.1 60032 := of_decide_eq_true (hg _ List.mem_cons_self)
    exact fm_n (by rw [e, ← g]; exact sl_here (p := 37) (by decide) (by decide) (by decide) (by decide) (by decide) (by decide +kernel))
  · intro hg
    exact fm_n (by rw [e]; exact fm_two (subs := [0, 1, 2, 5]) (by decide) (by decide) (p := 34) (by decide) (by decide +kernel) (by decide +kernel) (fun s hs => by
      simp only [List.mem_cons, List.not_mem_nil, or_false] at hs
      rcases hs with rfl | rfl | rfl | rfl
      · exact fun e => of_decide_eq_false (hg ((0, .int 0, .arg 60032), false) (List.mem_of_getElem? (i := 0) rfl)) (Int32.toInt_inj.mp e.symm)
      · exact fun e => of_decide_eq_false (hg ((0, .int 1, .arg 60032), false) (List.mem_of_getElem? (i := 1) rfl)) (Int32.toInt_inj.mp e.symm)
      · exact fun e => of_decide_eq_false (hg ((0, .int 2, .arg 60032), false) (List.mem_of_getElem? (i := 2) rfl)) (Int32.toInt_inj.mp e.symm)
      · exact fun e => of_decide_eq_false (hg ((0, .int 5, .arg 60032), false) (List.mem_of_getElem? (i := 3) rfl)) (Int32.toInt_inj.mp e.symm)))
noncomputable def q_fm16 : sCut := ((fr 0 425 0 [(0, .long 0)] [], [fBot], 1), (fr 0 239 0 [(0, tr 219), (1, .arg 60000), (2, .arg 60032)] [], [fBot], 1), [((0, .arg 60000, .int 5121), true)], [([((0, .int 0, .arg 60032), true)], (109, .add (.arg 60000) (.arg 60032), .int 38), true), ([((0, .int 1, .arg 60032), true)], (109, .add (.arg 60000) (.arg 60032), .int 39), true), ([((0, .int 2, .arg 60032), true)], (109, .add (.arg 60000) (.arg 60032), .int 40), true), ([((0, .int 5, .arg 60032), true)], (109, .add (.arg 60000) (.arg 60032), .int 41), true), ([((0, .int 0, .arg 60032), false), ((0, .int 1, .arg 60032), false), ((0, .int 2, .arg 60032), false), ((0, .int 5, .arg 60032), false)], (109, .add (.arg 60000) (.arg 60032), .int (-2)), true)])
theorem k_fm16 : cbody kR [] (cpl1 zWP c_fndm []) (cpl2 zWP c_fndm []) (cleafS kR zWP c_fndm w_sl0) 400 true true q_fm16.2.2.1 q_fm16.2.2.2 (cst zWP c_fndm.2.2.1.1 q_fm16.1) (cst zWP c_fndm.2.2.1.2 q_fm16.2.1) = true := by decide +kernel
theorem i_fm16 {X : pX} {ρ : sR} (h : ρ.1 60000 = 5121) : iok X ρ q_fm16.2.2.2 := by
  have e : (ρ.1 60000).toInt = 5121 := by rw [h]; rfl
  intro q hq
  simp only [q_fm16, List.mem_cons, List.not_mem_nil, or_false] at hq
  rcases hq with rfl | rfl | rfl | rfl | rfl
  · intro hg
    have g : (0 : Int32) = ρ.1 60032 := of_decide_eq_true (hg _ List.mem_cons_self)
    exact fm_n (by rw [e, ← g]; exact sl_here (p := 38) (by decide) (by decide) (by decide) (by decide) (by decide) (by decide +kernel))
  · intro hg
    have g : (1 : Int32) = ρ.1 60032 := of_decide_eq_true (hg _ List.mem_cons_self)
    exact fm_n (by rw [e, ← g]; exact sl_here (p := 39) (by decide) (by decide) (by decide) (by decide) (by decide) (by decide +kernel))
  · intro hg
    have g : (2 : Int32) = ρ.1 60032 := of_decide_eq_true (hg _ List.mem_cons_self)
    exact fm_n (by rw [e, ← g]; exact sl_here (p := 40) (by decide) (by decide) (by decide) (by decide) (by decide) (by decide +kernel))
  · intro hg
    have g : (5 : Int32) = ρ.1 60032 := of_decide_eq_true (hg _ List.mem_cons_self)
    exact fm_n (by rw [e, ← g]; exact sl_here (p := 41) (by decide) (by decide) (by decide) (by decide) (by decide) (by decide +kernel))
  · intro hg
    exact fm_n (by rw [e]; exact fm_two (subs := [0, 1, 2, 5]) (by decide) (by decide) (p := 38) (by decide) (by decide +kernel) (by decide +kernel) (fun s hs => by
      simp only [List.mem_cons, List.not_mem_nil, or_false] at hs
      rcases hs with rfl | rfl | rfl | rfl
      · exact fun e => of_decide_eq_false (hg ((0, .int 0, .arg 60032), false) (List.mem_of_getElem? (i := 0) rfl)) (Int32.toInt_inj.mp e.symm)
      · exact fun e => of_decide_eq_false (hg ((0, .int 1, .arg 60032), false) (List.mem_of_getElem? (i := 1) rfl)) (Int32.toInt_inj.mp e.symm)
      · exact fun e => of_decide_eq_false (hg ((0, .int 2, .arg 60032), false) (List.mem_of_getElem? (i := 2) rfl)) (Int32.toInt_inj.mp e.symm)
      · exact fun e => of_decide_eq_false (hg ((0, .int 5, .arg 60032), false) (List.mem_of_getElem? (i := 3) rfl)) (Int32.toInt_inj.mp e.symm)))
noncomputable def q_fm17 : sCut := ((fr 0 425 0 [(0, .long 0)] [], [fBot], 1), (fr 0 239 0 [(0, tr 219), (1, .arg 60000), (2, .arg 60032)] [], [fBot], 1), [((0, .arg 60000, .int 5122), true)], [([((0, .int 0, .arg 60032), true)], (109, .add (.arg 60000) (.arg 60032), .int 42), true), ([((0, .int 1, .arg 60032), true)], (109, .add (.arg 60000) (.arg 60032), .int 43), true), ([((0, .int 2, .arg 60032), true)], (109, .add (.arg 60000) (.arg 60032), .int 44), true), ([((0, .int 5, .arg 60032), true)], (109, .add (.arg 60000) (.arg 60032), .int 45), true), ([((0, .int 0, .arg 60032), false), ((0, .int 1, .arg 60032), false), ((0, .int 2, .arg 60032), false), ((0, .int 5, .arg 60032), false)], (109, .add (.arg 60000) (.arg 60032), .int (-2)), true)])
theorem k_fm17 : cbody kR [] (cpl1 zWP c_fndm []) (cpl2 zWP c_fndm []) (cleafS kR zWP c_fndm w_sl0) 400 true true q_fm17.2.2.1 q_fm17.2.2.2 (cst zWP c_fndm.2.2.1.1 q_fm17.1) (cst zWP c_fndm.2.2.1.2 q_fm17.2.1) = true := by decide +kernel
theorem i_fm17 {X : pX} {ρ : sR} (h : ρ.1 60000 = 5122) : iok X ρ q_fm17.2.2.2 := by
  have e : (ρ.1 60000).toInt = 5122 := by rw [h]; rfl
  intro q hq
  simp only [q_fm17, List.mem_cons, List.not_mem_nil, or_false] at hq
  rcases hq with rfl | rfl | rfl | rfl | rfl
  · intro hg
    have g : (0 : Int32) = ρ.1 60032 := of_decide_eq_true (hg _ List.mem_cons_self)
    exact fm_n (by rw [e, ← g]; exact sl_here (p := 42) (by decide) (by decide) (by decide) (by decide) (by decide) (by decide +kernel))
  · intro hg
    have g : (1 : Int32) = ρ.1 60032 := of_decide_eq_true (hg _ List.mem_cons_self)
    exact fm_n (by rw [e, ← g]; exact sl_here (p := 43) (by decide) (by decide) (by decide) (by decide) (by decide) (by decide +kernel))
  · intro hg
    have g : (2 : Int32) = ρ.1 60032 := of_decide_eq_true (hg _ List.mem_cons_self)
    exact fm_n (by rw [e, ← g]; exact sl_here (p := 44) (by decide) (by decide) (by decide) (by decide) (by decide) (by decide +kernel))
  · intro hg
    have g : (5 : Int32) = ρ.1 60032 := of_decide_eq_true (hg _ List.mem_cons_self)
    exact fm_n (by rw [e, ← g]; exact sl_here (p := 45) (by decide) (by decide) (by decide) (by decide) (by decide) (by decide +kernel))
  · intro hg
    exact fm_n (by rw [e]; exact fm_two (subs := [0, 1, 2, 5]) (by decide) (by decide) (p := 42) (by decide) (by decide +kernel) (by decide +kernel) (fun s hs => by
      simp only [List.mem_cons, List.not_mem_nil, or_false] at hs
      rcases hs with rfl | rfl | rfl | rfl
      · exact fun e => of_decide_eq_false (hg ((0, .int 0, .arg 60032), false) (List.mem_of_getElem? (i := 0) rfl)) (Int32.toInt_inj.mp e.symm)
      · exact fun e => of_decide_eq_false (hg ((0, .int 1, .arg 60032), false) (List.mem_of_getElem? (i := 1) rfl)) (Int32.toInt_inj.mp e.symm)
      · exact fun e => of_decide_eq_false (hg ((0, .int 2, .arg 60032), false) (List.mem_of_getElem? (i := 2) rfl)) (Int32.toInt_inj.mp e.symm)
      · exact fun e => of_decide_eq_false (hg ((0, .int 5, .arg 60032), false) (List.mem_of_getElem? (i := 3) rfl)) (Int32.toInt_inj.mp e.symm)))
noncomputable def q_fm18 : sCut := ((fr 0 425 0 [(0, .long 0)] [], [fBot], 1), (fr 0 239 0 [(0, tr 219), (1, .arg 60000), (2, .arg 60032)] [], [fBot], 1), [((0, .arg 60000, .int 5123), true)], [([((0, .int 0, .arg 60032), true)], (109, .add (.arg 60000) (.arg 60032), .int 46), true), ([((0, .int 1, .arg 60032), true)], (109, .add (.arg 60000) (.arg 60032), .int 47), true), ([((0, .int 2, .arg 60032), true)], (109, .add (.arg 60000) (.arg 60032), .int 48), true), ([((0, .int 5, .arg 60032), true)], (109, .add (.arg 60000) (.arg 60032), .int 49), true), ([((0, .int 0, .arg 60032), false), ((0, .int 1, .arg 60032), false), ((0, .int 2, .arg 60032), false), ((0, .int 5, .arg 60032), false)], (109, .add (.arg 60000) (.arg 60032), .int (-2)), true)])
theorem k_fm18 : cbody kR [] (cpl1 zWP c_fndm []) (cpl2 zWP c_fndm []) (cleafS kR zWP c_fndm w_sl0) 400 true true q_fm18.2.2.1 q_fm18.2.2.2 (cst zWP c_fndm.2.2.1.1 q_fm18.1) (cst zWP c_fndm.2.2.1.2 q_fm18.2.1) = true := by decide +kernel
theorem i_fm18 {X : pX} {ρ : sR} (h : ρ.1 60000 = 5123) : iok X ρ q_fm18.2.2.2 := by
  have e : (ρ.1 60000).toInt = 5123 := by rw [h]; rfl
  intro q hq
  simp only [q_fm18, List.mem_cons, List.not_mem_nil, or_false] at hq
  rcases hq with rfl | rfl | rfl | rfl | rfl
  · intro hg
    have g : (0 : Int32) = ρ.1 60032 := of_decide_eq_true (hg _ List.mem_cons_self)
    exact fm_n (by rw [e, ← g]; exact sl_here (p := 46) (by decide) (by decide) (by decide) (by decide) (by decide) (by decide +kernel))
  · intro hg
    have g : (1 : Int32) = ρ.1 60032 := of_decide_eq_true (hg _ List.mem_cons_self)
    exact fm_n (by rw [e, ← g]; exact sl_here (p := 47) (by decide) (by decide) (by decide) (by decide) (by decide) (by decide +kernel))
  · intro hg
    have g : (2 : Int32) = ρ.1 60032 := of_decide_eq_true (hg _ List.mem_cons_self)
    exact fm_n (by rw [e, ← g]; exact sl_here (p := 48) (by decide) (by decide) (by decide) (by decide) (by decide) (by decide +kernel))
  · intro hg
    have g : (5 : Int32) = ρ.1 60032 := of_decide_eq_true (hg _ List.mem_cons_self)
    exact fm_n (by rw [e, ← g]; exact sl_here (p := 49) (by decide) (by decide) (by decide) (by decide) (by decide) (by decide +kernel))
  · intro hg
    exact fm_n (by rw [e]; exact fm_two (subs := [0, 1, 2, 5]) (by decide) (by decide) (p := 46) (by decide) (by decide +kernel) (by decide +kernel) (fun s hs => by
      simp only [List.mem_cons, List.not_mem_nil, or_false] at hs
      rcases hs with rfl | rfl | rfl | rfl
      · exact fun e => of_decide_eq_false (hg ((0, .int 0, .arg 60032), false) (List.mem_of_getElem? (i := 0) rfl)) (Int32.toInt_inj.mp e.symm)
      · exact fun e => of_decide_eq_false (hg ((0, .int 1, .arg 60032), false) (List.mem_of_getElem? (i := 1) rfl)) (Int32.toInt_inj.mp e.symm)
      · exact fun e => of_decide_eq_false (hg ((0, .int 2, .arg 60032), false) (List.mem_of_getElem? (i := 2) rfl)) (Int32.toInt_inj.mp e.symm)
      · exact fun e => of_decide_eq_false (hg ((0, .int 5, .arg 60032), false) (List.mem_of_getElem? (i := 3) rfl)) (Int32.toInt_inj.mp e.symm)))
noncomputable def q_fm19 : sCut := ((fr 0 425 0 [(0, .long 0)] [], [fBot], 1), (fr 0 239 0 [(0, tr 219), (1, .arg 60000), (2, .arg 60032)] [], [fBot], 1), [((0, .arg 60000, .int 5632), true)], [([((0, .int 0, .arg 60032), true)], (109, .add (.arg 60000) (.arg 60032), .int 50), true), ([((0, .int 1, .arg 60032), true)], (109, .add (.arg 60000) (.arg 60032), .int 51), true), ([((0, .int 2, .arg 60032), true)], (109, .add (.arg 60000) (.arg 60032), .int 52), true), ([((0, .int 3, .arg 60032), true)], (109, .add (.arg 60000) (.arg 60032), .int 53), true), ([((0, .int 4, .arg 60032), true)], (109, .add (.arg 60000) (.arg 60032), .int 54), true), ([((0, .int 0, .arg 60032), false), ((0, .int 1, .arg 60032), false), ((0, .int 2, .arg 60032), false), ((0, .int 3, .arg 60032), false), ((0, .int 4, .arg 60032), false)], (109, .add (.arg 60000) (.arg 60032), .int (-2)), true)])
theorem k_fm19 : cbody kR [] (cpl1 zWP c_fndm []) (cpl2 zWP c_fndm []) (cleafS kR zWP c_fndm w_sl0) 400 true true q_fm19.2.2.1 q_fm19.2.2.2 (cst zWP c_fndm.2.2.1.1 q_fm19.1) (cst zWP c_fndm.2.2.1.2 q_fm19.2.1) = true := by decide +kernel
theorem i_fm19 {X : pX} {ρ : sR} (h : ρ.1 60000 = 5632) : iok X ρ q_fm19.2.2.2 := by
  have e : (ρ.1 60000).toInt = 5632 := by rw [h]; rfl
  intro q hq
  simp only [q_fm19, List.mem_cons, List.not_mem_nil, or_false] at hq
  rcases hq with rfl | rfl | rfl | rfl | rfl | rfl
  · intro hg
    have g : (0 : Int32) = ρ.1 60032 := of_decide_eq_true (hg _ List.mem_cons_self)
    exact fm_n (by rw [e, ← g]; exact sl_here (p := 50) (by decide) (by decide) (by decide) (by decide) (by decide) (by decide +kernel))
  · intro hg
    have g : (1 : Int32) = ρ.1 60032 := of_decide_eq_true (hg _ List.mem_cons_self)
    exact fm_n (by rw [e, ← g]; exact sl_here (p := 51) (by decide) (by decide) (by decide) (by decide) (by decide) (by decide +kernel))
  · intro hg
    have g : (2 : Int32) = ρ.1 60032 := of_decide_eq_true (hg _ List.mem_cons_self)
    exact fm_n (by rw [e, ← g]; exact sl_here (p := 52) (by decide) (by decide) (by decide) (by decide) (by decide) (by decide +kernel))
  · intro hg
    have g : (3 : Int32) = ρ.1 60032 := of_decide_eq_true (hg _ List.mem_cons_self)
    exact fm_n (by rw [e, ← g]; exact sl_here (p := 53) (by decide) (by decide) (by decide) (by decide) (by decide) (by decide +kernel))
  · intro hg
    have g : (4 : Int32) = ρ.1 60032 := of_decide_eq_true (hg _ List.mem_cons_self)
    exact fm_n (by rw [e, ← g]; exact sl_here (p := 54) (by decide) (by decide) (by decide) (by decide) (by decide) (by decide +kernel))
  · intro hg
    exact fm_n (by rw [e]; exact fm_two (subs := [0, 1, 2, 3, 4]) (by decide) (by decide) (p := 50) (by decide) (by decide +kernel) (by decide +kernel) (fun s hs => by
      simp only [List.mem_cons, List.not_mem_nil, or_false] at hs
      rcases hs with rfl | rfl | rfl | rfl | rfl
      · exact fun e => of_decide_eq_false (hg ((0, .int 0, .arg 60032), false) (List.mem_of_getElem? (i := 0) rfl)) (Int32.toInt_inj.mp e.symm)
      · exact fun e => of_decide_eq_false (hg ((0, .int 1, .arg 60032), false) (List.mem_of_getElem? (i := 1) rfl)) (Int32.toInt_inj.mp e.symm)
      · exact fun e => of_decide_eq_false (hg ((0, .int 2, .arg 60032), false) (List.mem_of_getElem? (i := 2) rfl)) (Int32.toInt_inj.mp e.symm)
      · exact fun e => of_decide_eq_false (hg ((0, .int 3, .arg 60032), false) (List.mem_of_getElem? (i := 3) rfl)) (Int32.toInt_inj.mp e.symm)
      · exact fun e => of_decide_eq_false (hg ((0, .int 4, .arg 60032), false) (List.mem_of_getElem? (i := 4) rfl)) (Int32.toInt_inj.mp e.symm)))
noncomputable def q_fm20 : sCut := ((fr 0 425 0 [(0, .long 0)] [], [fBot], 1), (fr 0 239 0 [(0, tr 219), (1, .arg 60000), (2, .arg 60032)] [], [fBot], 1), [((0, .arg 60000, .int 5633), true)], [([((0, .int 0, .arg 60032), true)], (109, .add (.arg 60000) (.arg 60032), .int 55), true), ([((0, .int 1, .arg 60032), true)], (109, .add (.arg 60000) (.arg 60032), .int 56), true), ([((0, .int 2, .arg 60032), true)], (109, .add (.arg 60000) (.arg 60032), .int 57), true), ([((0, .int 3, .arg 60032), true)], (109, .add (.arg 60000) (.arg 60032), .int 58), true), ([((0, .int 4, .arg 60032), true)], (109, .add (.arg 60000) (.arg 60032), .int 59), true), ([((0, .int 0, .arg 60032), false), ((0, .int 1, .arg 60032), false), ((0, .int 2, .arg 60032), false), ((0, .int 3, .arg 60032), false), ((0, .int 4, .arg 60032), false)], (109, .add (.arg 60000) (.arg 60032), .int (-2)), true)])
theorem k_fm20 : cbody kR [] (cpl1 zWP c_fndm []) (cpl2 zWP c_fndm []) (cleafS kR zWP c_fndm w_sl0) 400 true true q_fm20.2.2.1 q_fm20.2.2.2 (cst zWP c_fndm.2.2.1.1 q_fm20.1) (cst zWP c_fndm.2.2.1.2 q_fm20.2.1) = true := by decide +kernel
theorem i_fm20 {X : pX} {ρ : sR} (h : ρ.1 60000 = 5633) : iok X ρ q_fm20.2.2.2 := by
  have e : (ρ.1 60000).toInt = 5633 := by rw [h]; rfl
  intro q hq
  simp only [q_fm20, List.mem_cons, List.not_mem_nil, or_false] at hq
  rcases hq with rfl | rfl | rfl | rfl | rfl | rfl
  · intro hg
    have g : (0 : Int32) = ρ.1 60032 := of_decide_eq_true (hg _ List.mem_cons_self)
    exact fm_n (by rw [e, ← g]; exact sl_here (p := 55) (by decide) (by decide) (by decide) (by decide) (by decide) (by decide +kernel))
  · intro hg
    have g : (1 : Int32) = ρ.1 60032 := of_decide_eq_true (hg _ List.mem_cons_self)
    exact fm_n (by rw [e, ← g]; exact sl_here (p := 56) (by decide) (by decide) (by decide) (by decide) (by decide) (by decide +kernel))
  · intro hg
    have g : (2 : Int32) = ρ.1 60032 := of_decide_eq_true (hg _ List.mem_cons_self)
    exact fm_n (by rw [e, ← g]; exact sl_here (p := 57) (by decide) (by decide) (by decide) (by decide) (by decide) (by decide +kernel))
  · intro hg
    have g : (3 : Int32) = ρ.1 60032 := of_decide_eq_true (hg _ List.mem_cons_self)
    exact fm_n (by rw [e, ← g]; exact sl_here (p := 58) (by decide) (by decide) (by decide) (by decide) (by decide) (by decide +kernel))
  · intro hg
    have g : (4 : Int32) = ρ.1 60032 := of_decide_eq_true (hg _ List.mem_cons_self)
    exact fm_n (by rw [e, ← g]; exact sl_here (p := 59) (by decide) (by decide) (by decide) (by decide) (by decide) (by decide +kernel))
  · intro hg
    exact fm_n (by rw [e]; exact fm_two (subs := [0, 1, 2, 3, 4]) (by decide) (by decide) (p := 55) (by decide) (by decide +kernel) (by decide +kernel) (fun s hs => by
      simp only [List.mem_cons, List.not_mem_nil, or_false] at hs
      rcases hs with rfl | rfl | rfl | rfl | rfl
      · exact fun e => of_decide_eq_false (hg ((0, .int 0, .arg 60032), false) (List.mem_of_getElem? (i := 0) rfl)) (Int32.toInt_inj.mp e.symm)
      · exact fun e => of_decide_eq_false (hg ((0, .int 1, .arg 60032), false) (List.mem_of_getElem? (i := 1) rfl)) (Int32.toInt_inj.mp e.symm)
      · exact fun e => of_decide_eq_false (hg ((0, .int 2, .arg 60032), false) (List.mem_of_getElem? (i := 2) rfl)) (Int32.toInt_inj.mp e.symm)
      · exact fun e => of_decide_eq_false (hg ((0, .int 3, .arg 60032), false) (List.mem_of_getElem? (i := 3) rfl)) (Int32.toInt_inj.mp e.symm)
      · exact fun e => of_decide_eq_false (hg ((0, .int 4, .arg 60032), false) (List.mem_of_getElem? (i := 4) rfl)) (Int32.toInt_inj.mp e.symm)))
noncomputable def q_fm21 : sCut := ((fr 0 425 0 [(0, .long 0)] [], [fBot], 1), (fr 0 239 0 [(0, tr 219), (1, .arg 60000), (2, .arg 60032)] [], [fBot], 1), [((0, .arg 60000, .int 5634), true)], [([((0, .int 0, .arg 60032), true)], (109, .add (.arg 60000) (.arg 60032), .int 60), true), ([((0, .int 1, .arg 60032), true)], (109, .add (.arg 60000) (.arg 60032), .int 61), true), ([((0, .int 2, .arg 60032), true)], (109, .add (.arg 60000) (.arg 60032), .int 62), true), ([((0, .int 3, .arg 60032), true)], (109, .add (.arg 60000) (.arg 60032), .int 63), true), ([((0, .int 4, .arg 60032), true)], (109, .add (.arg 60000) (.arg 60032), .int 64), true), ([((0, .int 0, .arg 60032), false), ((0, .int 1, .arg 60032), false), ((0, .int 2, .arg 60032), false), ((0, .int 3, .arg 60032), false), ((0, .int 4, .arg 60032), false)], (109, .add (.arg 60000) (.arg 60032), .int (-2)), true)])
theorem k_fm21 : cbody kR [] (cpl1 zWP c_fndm []) (cpl2 zWP c_fndm []) (cleafS kR zWP c_fndm w_sl0) 400 true true q_fm21.2.2.1 q_fm21.2.2.2 (cst zWP c_fndm.2.2.1.1 q_fm21.1) (cst zWP c_fndm.2.2.1.2 q_fm21.2.1) = true := by decide +kernel
theorem i_fm21 {X : pX} {ρ : sR} (h : ρ.1 60000 = 5634) : iok X ρ q_fm21.2.2.2 := by
  have e : (ρ.1 60000).toInt = 5634 := by rw [h]; rfl
  intro q hq
  simp only [q_fm21, List.mem_cons, List.not_mem_nil, or_false] at hq
  rcases hq with rfl | rfl | rfl | rfl | rfl | rfl
  · intro hg
    have g : (0 : Int32) = ρ.1 60032 := of_decide_eq_true (hg _ List.mem_cons_self)
    exact fm_n (by rw [e, ← g]; exact sl_here (p := 60) (by decide) (by decide) (by decide) (by decide) (by decide) (by decide +kernel))
  · intro hg
    have g : (1 : Int32) = ρ.1 60032 := of_decide_eq_true (hg _ List.mem_cons_self)
    exact fm_n (by rw [e, ← g]; exact sl_here (p := 61) (by decide) (by decide) (by decide) (by decide) (by decide) (by decide +kernel))
  · intro hg
    have g : (2 : Int32) = ρ.1 60032 := of_decide_eq_true (hg _ List.mem_cons_self)
    exact fm_n (by rw [e, ← g]; exact sl_here (p := 62) (by decide) (by decide) (by decide) (by decide) (by decide) (by decide +kernel))
  · intro hg
    have g : (3 : Int32) = ρ.1 60032 := of_decide_eq_true (hg _ List.mem_cons_self)
    exact fm_n (by rw [e, ← g]; exact sl_here (p := 63) (by decide) (by decide) (by decide) (by decide) (by decide) (by decide +kernel))
  · intro hg
    have g : (4 : Int32) = ρ.1 60032 := of_decide_eq_true (hg _ List.mem_cons_self)
    exact fm_n (by rw [e, ← g]; exact sl_here (p := 64) (by decide) (by decide) (by decide) (by decide) (by decide) (by decide +kernel))
  · intro hg
    exact fm_n (by rw [e]; exact fm_two (subs := [0, 1, 2, 3, 4]) (by decide) (by decide) (p := 60) (by decide) (by decide +kernel) (by decide +kernel) (fun s hs => by
      simp only [List.mem_cons, List.not_mem_nil, or_false] at hs
      rcases hs with rfl | rfl | rfl | rfl | rfl
      · exact fun e => of_decide_eq_false (hg ((0, .int 0, .arg 60032), false) (List.mem_of_getElem? (i := 0) rfl)) (Int32.toInt_inj.mp e.symm)
      · exact fun e => of_decide_eq_false (hg ((0, .int 1, .arg 60032), false) (List.mem_of_getElem? (i := 1) rfl)) (Int32.toInt_inj.mp e.symm)
      · exact fun e => of_decide_eq_false (hg ((0, .int 2, .arg 60032), false) (List.mem_of_getElem? (i := 2) rfl)) (Int32.toInt_inj.mp e.symm)
      · exact fun e => of_decide_eq_false (hg ((0, .int 3, .arg 60032), false) (List.mem_of_getElem? (i := 3) rfl)) (Int32.toInt_inj.mp e.symm)
      · exact fun e => of_decide_eq_false (hg ((0, .int 4, .arg 60032), false) (List.mem_of_getElem? (i := 4) rfl)) (Int32.toInt_inj.mp e.symm)))
noncomputable def q_fm22 : sCut := ((fr 0 425 0 [(0, .long 0)] [], [fBot], 1), (fr 0 239 0 [(0, tr 219), (1, .arg 60000), (2, .arg 60032)] [], [fBot], 1), [((0, .arg 60000, .int 5635), true)], [([((0, .int 0, .arg 60032), true)], (109, .add (.arg 60000) (.arg 60032), .int 65), true), ([((0, .int 1, .arg 60032), true)], (109, .add (.arg 60000) (.arg 60032), .int 66), true), ([((0, .int 2, .arg 60032), true)], (109, .add (.arg 60000) (.arg 60032), .int 67), true), ([((0, .int 3, .arg 60032), true)], (109, .add (.arg 60000) (.arg 60032), .int 68), true), ([((0, .int 4, .arg 60032), true)], (109, .add (.arg 60000) (.arg 60032), .int 69), true), ([((0, .int 0, .arg 60032), false), ((0, .int 1, .arg 60032), false), ((0, .int 2, .arg 60032), false), ((0, .int 3, .arg 60032), false), ((0, .int 4, .arg 60032), false)], (109, .add (.arg 60000) (.arg 60032), .int (-2)), true)])
theorem k_fm22 : cbody kR [] (cpl1 zWP c_fndm []) (cpl2 zWP c_fndm []) (cleafS kR zWP c_fndm w_sl0) 400 true true q_fm22.2.2.1 q_fm22.2.2.2 (cst zWP c_fndm.2.2.1.1 q_fm22.1) (cst zWP c_fndm.2.2.1.2 q_fm22.2.1) = true := by decide +kernel
theorem i_fm22 {X : pX} {ρ : sR} (h : ρ.1 60000 = 5635) : iok X ρ q_fm22.2.2.2 := by
  have e : (ρ.1 60000).toInt = 5635 := by rw [h]; rfl
  intro q hq
  simp only [q_fm22, List.mem_cons, List.not_mem_nil, or_false] at hq
  rcases hq with rfl | rfl | rfl | rfl | rfl | rfl
  · intro hg
    have g : (0 : Int32) = ρ.1 60032 := of_decide_eq_true (hg _ List.mem_cons_self)
    exact fm_n (by rw [e, ← g]; exact sl_here (p := 65) (by decide) (by decide) (by decide) (by decide) (by decide) (by decide +kernel))
  · intro hg
    have g : (1 : Int32) = ρ.1 60032 := of_decide_eq_true (hg _ List.mem_cons_self)
    exact fm_n (by rw [e, ← g]; exact sl_here (p := 66) (by decide) (by decide) (by decide) (by decide) (by decide) (by decide +kernel))
  · intro hg
    have g : (2 : Int32) = ρ.1 60032 := of_decide_eq_true (hg _ List.mem_cons_self)
    exact fm_n (by rw [e, ← g]; exact sl_here (p := 67) (by decide) (by decide) (by decide) (by decide) (by decide) (by decide +kernel))
  · intro hg
    have g : (3 : Int32) = ρ.1 60032 := of_decide_eq_true (hg _ List.mem_cons_self)
    exact fm_n (by rw [e, ← g]; exact sl_here (p := 68) (by decide) (by decide) (by decide) (by decide) (by decide) (by decide +kernel))
  · intro hg
    have g : (4 : Int32) = ρ.1 60032 := of_decide_eq_true (hg _ List.mem_cons_self)
    exact fm_n (by rw [e, ← g]; exact sl_here (p := 69) (by decide) (by decide) (by decide) (by decide) (by decide) (by decide +kernel))
  · intro hg
    exact fm_n (by rw [e]; exact fm_two (subs := [0, 1, 2, 3, 4]) (by decide) (by decide) (p := 65) (by decide) (by decide +kernel) (by decide +kernel) (fun s hs => by
      simp only [List.mem_cons, List.not_mem_nil, or_false] at hs
      rcases hs with rfl | rfl | rfl | rfl | rfl
      · exact fun e => of_decide_eq_false (hg ((0, .int 0, .arg 60032), false) (List.mem_of_getElem? (i := 0) rfl)) (Int32.toInt_inj.mp e.symm)
      · exact fun e => of_decide_eq_false (hg ((0, .int 1, .arg 60032), false) (List.mem_of_getElem? (i := 1) rfl)) (Int32.toInt_inj.mp e.symm)
      · exact fun e => of_decide_eq_false (hg ((0, .int 2, .arg 60032), false) (List.mem_of_getElem? (i := 2) rfl)) (Int32.toInt_inj.mp e.symm)
      · exact fun e => of_decide_eq_false (hg ((0, .int 3, .arg 60032), false) (List.mem_of_getElem? (i := 3) rfl)) (Int32.toInt_inj.mp e.symm)
      · exact fun e => of_decide_eq_false (hg ((0, .int 4, .arg 60032), false) (List.mem_of_getElem? (i := 4) rfl)) (Int32.toInt_inj.mp e.symm)))
noncomputable def q_fm23 : sCut := ((fr 0 425 0 [(0, .long 0)] [], [fBot], 1), (fr 0 239 0 [(0, tr 219), (1, .arg 60000), (2, .arg 60032)] [], [fBot], 1), [((0, .arg 60000, .int 6144), true)], [([((0, .int 0, .arg 60032), true)], (109, .add (.arg 60000) (.arg 60032), .int 70), true), ([((0, .int 1, .arg 60032), true)], (109, .add (.arg 60000) (.arg 60032), .int 71), true), ([((0, .int 2, .arg 60032), true)], (109, .add (.arg 60000) (.arg 60032), .int 72), true), ([((0, .int 3, .arg 60032), true)], (109, .add (.arg 60000) (.arg 60032), .int 73), true), ([((0, .int 5, .arg 60032), true)], (109, .add (.arg 60000) (.arg 60032), .int 74), true), ([((0, .int 0, .arg 60032), false), ((0, .int 1, .arg 60032), false), ((0, .int 2, .arg 60032), false), ((0, .int 3, .arg 60032), false), ((0, .int 5, .arg 60032), false)], (109, .add (.arg 60000) (.arg 60032), .int (-2)), true)])
theorem k_fm23 : cbody kR [] (cpl1 zWP c_fndm []) (cpl2 zWP c_fndm []) (cleafS kR zWP c_fndm w_sl0) 400 true true q_fm23.2.2.1 q_fm23.2.2.2 (cst zWP c_fndm.2.2.1.1 q_fm23.1) (cst zWP c_fndm.2.2.1.2 q_fm23.2.1) = true := by decide +kernel
theorem i_fm23 {X : pX} {ρ : sR} (h : ρ.1 60000 = 6144) : iok X ρ q_fm23.2.2.2 := by
  have e : (ρ.1 60000).toInt = 6144 := by rw [h]; rfl
  intro q hq
  simp only [q_fm23, List.mem_cons, List.not_mem_nil, or_false] at hq
  rcases hq with rfl | rfl | rfl | rfl | rfl | rfl
  · intro hg
    have g : (0 : Int32) = ρ.1 60032 := of_decide_eq_true (hg _ List.mem_cons_self)
    exact fm_n (by rw [e, ← g]; exact sl_here (p := 70) (by decide) (by decide) (by decide) (by decide) (by decide) (by decide +kernel))
  · intro hg
    have g : (1 : Int32) = ρ.1 60032 := of_decide_eq_true (hg _ List.mem_cons_self)
    exact fm_n (by rw [e, ← g]; exact sl_here (p := 71) (by decide) (by decide) (by decide) (by decide) (by decide) (by decide +kernel))
  · intro hg
    have g : (2 : Int32) = ρ.1 60032 := of_decide_eq_true (hg _ List.mem_cons_self)
    exact fm_n (by rw [e, ← g]; exact sl_here (p := 72) (by decide) (by decide) (by decide) (by decide) (by decide) (by decide +kernel))
  · intro hg
    have g : (3 : Int32) = ρ.1 60032 := of_decide_eq_true (hg _ List.mem_cons_self)
    exact fm_n (by rw [e, ← g]; exact sl_here (p := 73) (by decide) (by decide) (by decide) (by decide) (by decide) (by decide +kernel))
  · intro hg
    have g : (5 : Int32) = ρ.1 60032 := of_decide_eq_true (hg _ List.mem_cons_self)
    exact fm_n (by rw [e, ← g]; exact sl_here (p := 74) (by decide) (by decide) (by decide) (by decide) (by decide) (by decide +kernel))
  · intro hg
    exact fm_n (by rw [e]; exact fm_two (subs := [0, 1, 2, 3, 5]) (by decide) (by decide) (p := 70) (by decide) (by decide +kernel) (by decide +kernel) (fun s hs => by
      simp only [List.mem_cons, List.not_mem_nil, or_false] at hs
      rcases hs with rfl | rfl | rfl | rfl | rfl
      · exact fun e => of_decide_eq_false (hg ((0, .int 0, .arg 60032), false) (List.mem_of_getElem? (i := 0) rfl)) (Int32.toInt_inj.mp e.symm)
      · exact fun e => of_decide_eq_false (hg ((0, .int 1, .arg 60032), false) (List.mem_of_getElem? (i := 1) rfl)) (Int32.toInt_inj.mp e.symm)
      · exact fun e => of_decide_eq_false (hg ((0, .int 2, .arg 60032), false) (List.mem_of_getElem? (i := 2) rfl)) (Int32.toInt_inj.mp e.symm)
      · exact fun e => of_decide_eq_false (hg ((0, .int 3, .arg 60032), false) (List.mem_of_getElem? (i := 3) rfl)) (Int32.toInt_inj.mp e.symm)
      · exact fun e => of_decide_eq_false (hg ((0, .int 5, .arg 60032), false) (List.mem_of_getElem? (i := 4) rfl)) (Int32.toInt_inj.mp e.symm)))
noncomputable def q_fm24 : sCut := ((fr 0 425 0 [(0, .long 0)] [], [fBot], 1), (fr 0 239 0 [(0, tr 219), (1, .arg 60000), (2, .arg 60032)] [], [fBot], 1), [((0, .arg 60000, .int 6145), true)], [([((0, .int 0, .arg 60032), true)], (109, .add (.arg 60000) (.arg 60032), .int 75), true), ([((0, .int 1, .arg 60032), true)], (109, .add (.arg 60000) (.arg 60032), .int 76), true), ([((0, .int 2, .arg 60032), true)], (109, .add (.arg 60000) (.arg 60032), .int 77), true), ([((0, .int 3, .arg 60032), true)], (109, .add (.arg 60000) (.arg 60032), .int 78), true), ([((0, .int 5, .arg 60032), true)], (109, .add (.arg 60000) (.arg 60032), .int 79), true), ([((0, .int 0, .arg 60032), false), ((0, .int 1, .arg 60032), false), ((0, .int 2, .arg 60032), false), ((0, .int 3, .arg 60032), false), ((0, .int 5, .arg 60032), false)], (109, .add (.arg 60000) (.arg 60032), .int (-2)), true)])
theorem k_fm24 : cbody kR [] (cpl1 zWP c_fndm []) (cpl2 zWP c_fndm []) (cleafS kR zWP c_fndm w_sl0) 400 true true q_fm24.2.2.1 q_fm24.2.2.2 (cst zWP c_fndm.2.2.1.1 q_fm24.1) (cst zWP c_fndm.2.2.1.2 q_fm24.2.1) = true := by decide +kernel
theorem i_fm24 {X : pX} {ρ : sR} (h : ρ.1 60000 = 6145) : iok X ρ q_fm24.2.2.2 := by
  have e : (ρ.1 60000).toInt = 6145 := by rw [h]; rfl
  intro q hq
  simp only [q_fm24, List.mem_cons, List.not_mem_nil, or_false] at hq
  rcases hq with rfl | rfl | rfl | rfl | rfl | rfl
  · intro hg
    have g : (0 : Int32) = ρ.1 60032 := of_decide_eq_true (hg _ List.mem_cons_self)
    exact fm_n (by rw [e, ← g]; exact sl_here (p := 75) (by decide) (by decide) (by decide) (by decide) (by decide) (by decide +kernel))
  · intro hg
    have g : (1 : Int32) = ρ.1 60032 := of_decide_eq_true (hg _ List.mem_cons_self)
    exact fm_n (by rw [e, ← g]; exact sl_here (p := 76) (by decide) (by decide) (by decide) (by decide) (by decide) (by decide +kernel))
  · intro hg
    have g : (2 : Int32) = ρ.1 60032 := of_decide_eq_true (hg _ List.mem_cons_self)
    exact fm_n (by rw [e, ← g]; exact sl_here (p := 77) (by decide) (by decide) (by decide) (by decide) (by decide) (by decide +kernel))
  · intro hg
    have g : (3 : Int32) = ρ.1 60032 := of_decide_eq_true (hg _ List.mem_cons_self)
    exact fm_n (by rw [e, ← g]; exact sl_here (p := 78) (by decide) (by decide) (by decide) (by decide) (by decide) (by decide +kernel))
  · intro hg
    have g : (5 : Int32) = ρ.1 60032 := of_decide_eq_true (hg _ List.mem_cons_self)
    exact fm_n (by rw [e, ← g]; exact sl_here (p := 79) (by decide) (by decide) (by decide) (by decide) (by decide) (by decide +kernel))
  · intro hg
    exact fm_n (by rw [e]; exact fm_two (subs := [0, 1, 2, 3, 5]) (by decide) (by decide) (p := 75) (by decide) (by decide +kernel) (by decide +kernel) (fun s hs => by
      simp only [List.mem_cons, List.not_mem_nil, or_false] at hs
      rcases hs with rfl | rfl | rfl | rfl | rfl
      · exact fun e => of_decide_eq_false (hg ((0, .int 0, .arg 60032), false) (List.mem_of_getElem? (i := 0) rfl)) (Int32.toInt_inj.mp e.symm)
      · exact fun e => of_decide_eq_false (hg ((0, .int 1, .arg 60032), false) (List.mem_of_getElem? (i := 1) rfl)) (Int32.toInt_inj.mp e.symm)
      · exact fun e => of_decide_eq_false (hg ((0, .int 2, .arg 60032), false) (List.mem_of_getElem? (i := 2) rfl)) (Int32.toInt_inj.mp e.symm)
      · exact fun e => of_decide_eq_false (hg ((0, .int 3, .arg 60032), false) (List.mem_of_getElem? (i := 3) rfl)) (Int32.toInt_inj.mp e.symm)
      · exact fun e => of_decide_eq_false (hg ((0, .int 5, .arg 60032), false) (List.mem_of_getElem? (i := 4) rfl)) (Int32.toInt_inj.mp e.symm)))
noncomputable def q_fm25 : sCut := ((fr 0 425 0 [(0, .long 0)] [], [fBot], 1), (fr 0 239 0 [(0, tr 219), (1, .arg 60000), (2, .arg 60032)] [], [fBot], 1), [((0, .arg 60000, .int 6146), true)], [([((0, .int 0, .arg 60032), true)], (109, .add (.arg 60000) (.arg 60032), .int 80), true), ([((0, .int 1, .arg 60032), true)], (109, .add (.arg 60000) (.arg 60032), .int 81), true), ([((0, .int 2, .arg 60032), true)], (109, .add (.arg 60000) (.arg 60032), .int 82), true), ([((0, .int 3, .arg 60032), true)], (109, .add (.arg 60000) (.arg 60032), .int 83), true), ([((0, .int 5, .arg 60032), true)], (109, .add (.arg 60000) (.arg 60032), .int 84), true), ([((0, .int 0, .arg 60032), false), ((0, .int 1, .arg 60032), false), ((0, .int 2, .arg 60032), false), ((0, .int 3, .arg 60032), false), ((0, .int 5, .arg 60032), false)], (109, .add (.arg 60000) (.arg 60032), .int (-2)), true)])
theorem k_fm25 : cbody kR [] (cpl1 zWP c_fndm []) (cpl2 zWP c_fndm []) (cleafS kR zWP c_fndm w_sl0) 400 true true q_fm25.2.2.1 q_fm25.2.2.2 (cst zWP c_fndm.2.2.1.1 q_fm25.1) (cst zWP c_fndm.2.2.1.2 q_fm25.2.1) = true := by decide +kernel
theorem i_fm25 {X : pX} {ρ : sR} (h : ρ.1 60000 = 6146) : iok X ρ q_fm25.2.2.2 := by
  have e : (ρ.1 60000).toInt = 6146 := by rw [h]; rfl
  intro q hq
  simp only [q_fm25, List.mem_cons, List.not_mem_nil, or_false] at hq
  rcases hq with rfl | rfl | rfl | rfl | rfl | rfl
  · intro hg
    have g : (0 : Int32) = ρ.1 60032 := of_decide_eq_true (hg _ List.mem_cons_self)
    exact fm_n (by rw [e, ← g]; exact sl_here (p := 80) (by decide) (by decide) (by decide) (by decide) (by decide) (by decide +kernel))
  · intro hg
    have g : (1 : Int32) = ρ.1 60032 := of_decide_eq_true (hg _ List.mem_cons_self)
    exact fm_n (by rw [e, ← g]; exact sl_here (p := 81) (by decide) (by decide) (by decide) (by decide) (by decide) (by decide +kernel))
  · intro hg
    have g : (2 : Int32) = ρ.1 60032 := of_decide_eq_true (hg _ List.mem_cons_self)
    exact fm_n (by rw [e, ← g]; exact sl_here (p := 82) (by decide) (by decide) (by decide) (by decide) (by decide) (by decide +kernel))
  · intro hg
    have g : (3 : Int32) = ρ.1 60032 := of_decide_eq_true (hg _ List.mem_cons_self)
    exact fm_n (by rw [e, ← g]; exact sl_here (p := 83) (by decide) (by decide) (by decide) (by decide) (by decide) (by decide +kernel))
  · intro hg
    have g : (5 : Int32) = ρ.1 60032 := of_decide_eq_true (hg _ List.mem_cons_self)
    exact fm_n (by rw [e, ← g]; exact sl_here (p := 84) (by decide) (by decide) (by decide) (by decide) (by decide) (by decide +kernel))
  · intro hg
    exact fm_n (by rw [e]; exact fm_two (subs := [0, 1, 2, 3, 5]) (by decide) (by decide) (p := 80) (by decide) (by decide +kernel) (by decide +kernel) (fun s hs => by
      simp only [List.mem_cons, List.not_mem_nil, or_false] at hs
      rcases hs with rfl | rfl | rfl | rfl | rfl
      · exact fun e => of_decide_eq_false (hg ((0, .int 0, .arg 60032), false) (List.mem_of_getElem? (i := 0) rfl)) (Int32.toInt_inj.mp e.symm)
      · exact fun e => of_decide_eq_false (hg ((0, .int 1, .arg 60032), false) (List.mem_of_getElem? (i := 1) rfl)) (Int32.toInt_inj.mp e.symm)
      · exact fun e => of_decide_eq_false (hg ((0, .int 2, .arg 60032), false) (List.mem_of_getElem? (i := 2) rfl)) (Int32.toInt_inj.mp e.symm)
      · exact fun e => of_decide_eq_false (hg ((0, .int 3, .arg 60032), false) (List.mem_of_getElem? (i := 3) rfl)) (Int32.toInt_inj.mp e.symm)
      · exact fun e => of_decide_eq_false (hg ((0, .int 5, .arg 60032), false) (List.mem_of_getElem? (i := 4) rfl)) (Int32.toInt_inj.mp e.symm)))
noncomputable def q_fm26 : sCut := ((fr 0 425 0 [(0, .long 0)] [], [fBot], 1), (fr 0 239 0 [(0, tr 219), (1, .arg 60000), (2, .arg 60032)] [], [fBot], 1), [((0, .arg 60000, .int 6147), true)], [([((0, .int 0, .arg 60032), true)], (109, .add (.arg 60000) (.arg 60032), .int 85), true), ([((0, .int 1, .arg 60032), true)], (109, .add (.arg 60000) (.arg 60032), .int 86), true), ([((0, .int 2, .arg 60032), true)], (109, .add (.arg 60000) (.arg 60032), .int 87), true), ([((0, .int 3, .arg 60032), true)], (109, .add (.arg 60000) (.arg 60032), .int 88), true), ([((0, .int 5, .arg 60032), true)], (109, .add (.arg 60000) (.arg 60032), .int 89), true), ([((0, .int 0, .arg 60032), false), ((0, .int 1, .arg 60032), false), ((0, .int 2, .arg 60032), false), ((0, .int 3, .arg 60032), false), ((0, .int 5, .arg 60032), false)], (109, .add (.arg 60000) (.arg 60032), .int (-2)), true)])
theorem k_fm26 : cbody kR [] (cpl1 zWP c_fndm []) (cpl2 zWP c_fndm []) (cleafS kR zWP c_fndm w_sl0) 400 true true q_fm26.2.2.1 q_fm26.2.2.2 (cst zWP c_fndm.2.2.1.1 q_fm26.1) (cst zWP c_fndm.2.2.1.2 q_fm26.2.1) = true := by decide +kernel
theorem i_fm26 {X : pX} {ρ : sR} (h : ρ.1 60000 = 6147) : iok X ρ q_fm26.2.2.2 := by
  have e : (ρ.1 60000).toInt = 6147 := by rw [h]; rfl
  intro q hq
  simp only [q_fm26, List.mem_cons, List.not_mem_nil, or_false] at hq
  rcases hq with rfl | rfl | rfl | rfl | rfl | rfl
  · intro hg
    have g : (0 : Int32) = ρ.1 60032 := of_decide_eq_true (hg _ List.mem_cons_self)
    exact fm_n (by rw [e, ← g]; exact sl_here (p := 85) (by decide) (by decide) (by decide) (by decide) (by decide) (by decide +kernel))
  · intro hg
    have g : (1 : Int32) = ρ.1 60032 := of_decide_eq_true (hg _ List.mem_cons_self)
    exact fm_n (by rw [e, ← g]; exact sl_here (p := 86) (by decide) (by decide) (by decide) (by decide) (by decide) (by decide +kernel))
  · intro hg
    have g : (2 : Int32) = ρ.1 60032 := of_decide_eq_true (hg _ List.mem_cons_self)
    exact fm_n (by rw [e, ← g]; exact sl_here (p := 87) (by decide) (by decide) (by decide) (by decide) (by decide) (by decide +kernel))
  · intro hg
    have g : (3 : Int32) = ρ.1 60032 := of_decide_eq_true (hg _ List.mem_cons_self)
    exact fm_n (by rw [e, ← g]; exact sl_here (p := 88) (by decide) (by decide) (by decide) (by decide) (by decide) (by decide +kernel))
  · intro hg
    have g : (5 : Int32) = ρ.1 60032 := of_decide_eq_true (hg _ List.mem_cons_self)
    exact fm_n (by rw [e, ← g]; exact sl_here (p := 89) (by decide) (by decide) (by decide) (by decide) (by decide) (by decide +kernel))
  · intro hg
    exact fm_n (by rw [e]; exact fm_two (subs := [0, 1, 2, 3, 5]) (by decide) (by decide) (p := 85) (by decide) (by decide +kernel) (by decide +kernel) (fun s hs => by
      simp only [List.mem_cons, List.not_mem_nil, or_false] at hs
      rcases hs with rfl | rfl | rfl | rfl | rfl
      · exact fun e => of_decide_eq_false (hg ((0, .int 0, .arg 60032), false) (List.mem_of_getElem? (i := 0) rfl)) (Int32.toInt_inj.mp e.symm)
      · exact fun e => of_decide_eq_false (hg ((0, .int 1, .arg 60032), false) (List.mem_of_getElem? (i := 1) rfl)) (Int32.toInt_inj.mp e.symm)
      · exact fun e => of_decide_eq_false (hg ((0, .int 2, .arg 60032), false) (List.mem_of_getElem? (i := 2) rfl)) (Int32.toInt_inj.mp e.symm)
      · exact fun e => of_decide_eq_false (hg ((0, .int 3, .arg 60032), false) (List.mem_of_getElem? (i := 3) rfl)) (Int32.toInt_inj.mp e.symm)
      · exact fun e => of_decide_eq_false (hg ((0, .int 5, .arg 60032), false) (List.mem_of_getElem? (i := 4) rfl)) (Int32.toInt_inj.mp e.symm)))
noncomputable def q_fm27 : sCut := ((fr 0 425 0 [(0, .long 0)] [], [fBot], 1), (fr 0 239 0 [(0, tr 219), (1, .arg 60000), (2, .arg 60032)] [], [fBot], 1), [((0, .arg 60000, .int 6656), true)], [([((0, .int 0, .arg 60032), true)], (109, .add (.arg 60000) (.arg 60032), .int 90), true), ([((0, .int 1, .arg 60032), true)], (109, .add (.arg 60000) (.arg 60032), .int 91), true), ([((0, .int 2, .arg 60032), true)], (109, .add (.arg 60000) (.arg 60032), .int 92), true), ([((0, .int 3, .arg 60032), true)], (109, .add (.arg 60000) (.arg 60032), .int 93), true), ([((0, .int 4, .arg 60032), true)], (109, .add (.arg 60000) (.arg 60032), .int 94), true), ([((0, .int 0, .arg 60032), false), ((0, .int 1, .arg 60032), false), ((0, .int 2, .arg 60032), false), ((0, .int 3, .arg 60032), false), ((0, .int 4, .arg 60032), false)], (109, .add (.arg 60000) (.arg 60032), .int (-2)), true)])
theorem k_fm27 : cbody kR [] (cpl1 zWP c_fndm []) (cpl2 zWP c_fndm []) (cleafS kR zWP c_fndm w_sl0) 400 true true q_fm27.2.2.1 q_fm27.2.2.2 (cst zWP c_fndm.2.2.1.1 q_fm27.1) (cst zWP c_fndm.2.2.1.2 q_fm27.2.1) = true := by decide +kernel
theorem i_fm27 {X : pX} {ρ : sR} (h : ρ.1 60000 = 6656) : iok X ρ q_fm27.2.2.2 := by
  have e : (ρ.1 60000).toInt = 6656 := by rw [h]; rfl
  intro q hq
  simp only [q_fm27, List.mem_cons, List.not_mem_nil, or_false] at hq
  rcases hq with rfl | rfl | rfl | rfl | rfl | rfl
  · intro hg
    have g : (0 : Int32) = ρ.1 60032 := of_decide_eq_true (hg _ List.mem_cons_self)
    exact fm_n (by rw [e, ← g]; exact sl_here (p := 90) (by decide) (by decide) (by decide) (by decide) (by decide) (by decide +kernel))
  · intro hg
    have g : (1 : Int32) = ρ.1 60032 := of_decide_eq_true (hg _ List.mem_cons_self)
    exact fm_n (by rw [e, ← g]; exact sl_here (p := 91) (by decide) (by decide) (by decide) (by decide) (by decide) (by decide +kernel))
  · intro hg
    have g : (2 : Int32) = ρ.1 60032 := of_decide_eq_true (hg _ List.mem_cons_self)
    exact fm_n (by rw [e, ← g]; exact sl_here (p := 92) (by decide) (by decide) (by decide) (by decide) (by decide) (by decide +kernel))
  · intro hg
    have g : (3 : Int32) = ρ.1 60032 := of_decide_eq_true (hg _ List.mem_cons_self)
    exact fm_n (by rw [e, ← g]; exact sl_here (p := 93) (by decide) (by decide) (by decide) (by decide) (by decide) (by decide +kernel))
  · intro hg
    have g : (4 : Int32) = ρ.1 60032 := of_decide_eq_true (hg _ List.mem_cons_self)
    exact fm_n (by rw [e, ← g]; exact sl_here (p := 94) (by decide) (by decide) (by decide) (by decide) (by decide) (by decide +kernel))
  · intro hg
    exact fm_n (by rw [e]; exact fm_two (subs := [0, 1, 2, 3, 4]) (by decide) (by decide) (p := 90) (by decide) (by decide +kernel) (by decide +kernel) (fun s hs => by
      simp only [List.mem_cons, List.not_mem_nil, or_false] at hs
      rcases hs with rfl | rfl | rfl | rfl | rfl
      · exact fun e => of_decide_eq_false (hg ((0, .int 0, .arg 60032), false) (List.mem_of_getElem? (i := 0) rfl)) (Int32.toInt_inj.mp e.symm)
      · exact fun e => of_decide_eq_false (hg ((0, .int 1, .arg 60032), false) (List.mem_of_getElem? (i := 1) rfl)) (Int32.toInt_inj.mp e.symm)
      · exact fun e => of_decide_eq_false (hg ((0, .int 2, .arg 60032), false) (List.mem_of_getElem? (i := 2) rfl)) (Int32.toInt_inj.mp e.symm)
      · exact fun e => of_decide_eq_false (hg ((0, .int 3, .arg 60032), false) (List.mem_of_getElem? (i := 3) rfl)) (Int32.toInt_inj.mp e.symm)
      · exact fun e => of_decide_eq_false (hg ((0, .int 4, .arg 60032), false) (List.mem_of_getElem? (i := 4) rfl)) (Int32.toInt_inj.mp e.symm)))
noncomputable def q_fm28 : sCut := ((fr 0 425 0 [(0, .long 0)] [], [fBot], 1), (fr 0 239 0 [(0, tr 219), (1, .arg 60000), (2, .arg 60032)] [], [fBot], 1), [((0, .arg 60000, .int 6657), true)], [([((0, .int 0, .arg 60032), true)], (109, .add (.arg 60000) (.arg 60032), .int 95), true), ([((0, .int 1, .arg 60032), true)], (109, .add (.arg 60000) (.arg 60032), .int 96), true), ([((0, .int 2, .arg 60032), true)], (109, .add (.arg 60000) (.arg 60032), .int 97), true), ([((0, .int 3, .arg 60032), true)], (109, .add (.arg 60000) (.arg 60032), .int 98), true), ([((0, .int 4, .arg 60032), true)], (109, .add (.arg 60000) (.arg 60032), .int 99), true), ([((0, .int 0, .arg 60032), false), ((0, .int 1, .arg 60032), false), ((0, .int 2, .arg 60032), false), ((0, .int 3, .arg 60032), false), ((0, .int 4, .arg 60032), false)], (109, .add (.arg 60000) (.arg 60032), .int (-2)), true)])
theorem k_fm28 : cbody kR [] (cpl1 zWP c_fndm []) (cpl2 zWP c_fndm []) (cleafS kR zWP c_fndm w_sl0) 400 true true q_fm28.2.2.1 q_fm28.2.2.2 (cst zWP c_fndm.2.2.1.1 q_fm28.1) (cst zWP c_fndm.2.2.1.2 q_fm28.2.1) = true := by decide +kernel
theorem i_fm28 {X : pX} {ρ : sR} (h : ρ.1 60000 = 6657) : iok X ρ q_fm28.2.2.2 := by
  have e : (ρ.1 60000).toInt = 6657 := by rw [h]; rfl
  intro q hq
  simp only [q_fm28, List.mem_cons, List.not_mem_nil, or_false] at hq
  rcases hq with rfl | rfl | rfl | rfl | rfl | rfl
  · intro hg
    have g : (0 : Int32) = ρ.1 60032 := of_decide_eq_true (hg _ List.mem_cons_self)
    exact fm_n (by rw [e, ← g]; exact sl_here (p := 95) (by decide) (by decide) (by decide) (by decide) (by decide) (by decide +kernel))
  · intro hg
    have g : (1 : Int32) = ρ.1 60032 := of_decide_eq_true (hg _ List.mem_cons_self)
    exact fm_n (by rw [e, ← g]; exact sl_here (p := 96) (by decide) (by decide) (by decide) (by decide) (by decide) (by decide +kernel))
  · intro hg
    have g : (2 : Int32) = ρ.1 60032 := of_decide_eq_true (hg _ List.mem_cons_self)
    exact fm_n (by rw [e, ← g]; exact sl_here (p := 97) (by decide) (by decide) (by decide) (by decide) (by decide) (by decide +kernel))
  · intro hg
    have g : (3 : Int32) = ρ.1 60032 := of_decide_eq_true (hg _ List.mem_cons_self)
    exact fm_n (by rw [e, ← g]; exact sl_here (p := 98) (by decide) (by decide) (by decide) (by decide) (by decide) (by decide +kernel))
  · intro hg
    have g : (4 : Int32) = ρ.1 60032 := of_decide_eq_true (hg _ List.mem_cons_self)
    exact fm_n (by rw [e, ← g]; exact sl_here (p := 99) (by decide) (by decide) (by decide) (by decide) (by decide) (by decide +kernel))
  · intro hg
    exact fm_n (by rw [e]; exact fm_two (subs := [0, 1, 2, 3, 4]) (by decide) (by decide) (p := 95) (by decide) (by decide +kernel) (by decide +kernel) (fun s hs => by
      simp only [List.mem_cons, List.not_mem_nil, or_false] at hs
      rcases hs with rfl | rfl | rfl | rfl | rfl
      · exact fun e => of_decide_eq_false (hg ((0, .int 0, .arg 60032), false) (List.mem_of_getElem? (i := 0) rfl)) (Int32.toInt_inj.mp e.symm)
      · exact fun e => of_decide_eq_false (hg ((0, .int 1, .arg 60032), false) (List.mem_of_getElem? (i := 1) rfl)) (Int32.toInt_inj.mp e.symm)
      · exact fun e => of_decide_eq_false (hg ((0, .int 2, .arg 60032), false) (List.mem_of_getElem? (i := 2) rfl)) (Int32.toInt_inj.mp e.symm)
      · exact fun e => of_decide_eq_false (hg ((0, .int 3, .arg 60032), false) (List.mem_of_getElem? (i := 3) rfl)) (Int32.toInt_inj.mp e.symm)
      · exact fun e => of_decide_eq_false (hg ((0, .int 4, .arg 60032), false) (List.mem_of_getElem? (i := 4) rfl)) (Int32.toInt_inj.mp e.symm)))
noncomputable def q_fm29 : sCut := ((fr 0 425 0 [(0, .long 0)] [], [fBot], 1), (fr 0 239 0 [(0, tr 219), (1, .arg 60000), (2, .arg 60032)] [], [fBot], 1), [((0, .arg 60000, .int 6658), true)], [([((0, .int 0, .arg 60032), true)], (109, .add (.arg 60000) (.arg 60032), .int 100), true), ([((0, .int 1, .arg 60032), true)], (109, .add (.arg 60000) (.arg 60032), .int 101), true), ([((0, .int 2, .arg 60032), true)], (109, .add (.arg 60000) (.arg 60032), .int 102), true), ([((0, .int 3, .arg 60032), true)], (109, .add (.arg 60000) (.arg 60032), .int 103), true), ([((0, .int 4, .arg 60032), true)], (109, .add (.arg 60000) (.arg 60032), .int 104), true), ([((0, .int 0, .arg 60032), false), ((0, .int 1, .arg 60032), false), ((0, .int 2, .arg 60032), false), ((0, .int 3, .arg 60032), false), ((0, .int 4, .arg 60032), false)], (109, .add (.arg 60000) (.arg 60032), .int (-2)), true)])
theorem k_fm29 : cbody kR [] (cpl1 zWP c_fndm []) (cpl2 zWP c_fndm []) (cleafS kR zWP c_fndm w_sl0) 400 true true q_fm29.2.2.1 q_fm29.2.2.2 (cst zWP c_fndm.2.2.1.1 q_fm29.1) (cst zWP c_fndm.2.2.1.2 q_fm29.2.1) = true := by decide +kernel
theorem i_fm29 {X : pX} {ρ : sR} (h : ρ.1 60000 = 6658) : iok X ρ q_fm29.2.2.2 := by
  have e : (ρ.1 60000).toInt = 6658 := by rw [h]; rfl
  intro q hq
  simp only [q_fm29, List.mem_cons, List.not_mem_nil, or_false] at hq
  rcases hq with rfl | rfl | rfl | rfl | rfl | rfl
  · intro hg
    have g : (0 : Int32) = ρ.1 60032 := of_decide_eq_true (hg _ List.mem_cons_self)
    exact fm_n (by rw [e, ← g]; exact sl_here (p := 100) (by decide) (by decide) (by decide) (by decide) (by decide) (by decide +kernel))
  · intro hg
    have g : (1 : Int32) = ρ.1 60032 := of_decide_eq_true (hg _ List.mem_cons_self)
    exact fm_n (by rw [e, ← g]; exact sl_here (p := 101) (by decide) (by decide) (by decide) (by decide) (by decide) (by decide +kernel))
  · intro hg
    have g : (2 : Int32) = ρ.1 60032 := of_decide_eq_true (hg _ List.mem_cons_self)
    exact fm_n (by rw [e, ← g]; exact sl_here (p := 102) (by decide) (by decide) (by decide) (by decide) (by decide) (by decide +kernel))
  · intro hg
    have g : (3 : Int32) = ρ.1 60032 := of_decide_eq_true (hg _ List.mem_cons_self)
    exact fm_n (by rw [e, ← g]; exact sl_here (p := 103) (by decide) (by decide) (by decide) (by decide) (by decide) (by decide +kernel))
  · intro hg
    have g : (4 : Int32) = ρ.1 60032 := of_decide_eq_true (hg _ List.mem_cons_self)
    exact fm_n (by rw [e, ← g]; exact sl_here (p := 104) (by decide) (by decide) (by decide) (by decide) (by decide) (by decide +kernel))
  · intro hg
    exact fm_n (by rw [e]; exact fm_two (subs := [0, 1, 2, 3, 4]) (by decide) (by decide) (p := 100) (by decide) (by decide +kernel) (by decide +kernel) (fun s hs => by
      simp only [List.mem_cons, List.not_mem_nil, or_false] at hs
      rcases hs with rfl | rfl | rfl | rfl | rfl
      · exact fun e => of_decide_eq_false (hg ((0, .int 0, .arg 60032), false) (List.mem_of_getElem? (i := 0) rfl)) (Int32.toInt_inj.mp e.symm)
      · exact fun e => of_decide_eq_false (hg ((0, .int 1, .arg 60032), false) (List.mem_of_getElem? (i := 1) rfl)) (Int32.toInt_inj.mp e.symm)
      · exact fun e => of_decide_eq_false (hg ((0, .int 2, .arg 60032), false) (List.mem_of_getElem? (i := 2) rfl)) (Int32.toInt_inj.mp e.symm)
      · exact fun e => of_decide_eq_false (hg ((0, .int 3, .arg 60032), false) (List.mem_of_getElem? (i := 3) rfl)) (Int32.toInt_inj.mp e.symm)
      · exact fun e => of_decide_eq_false (hg ((0, .int 4, .arg 60032), false) (List.mem_of_getElem? (i := 4) rfl)) (Int32.toInt_inj.mp e.symm)))
noncomputable def q_fm30 : sCut := ((fr 0 425 0 [(0, .long 0)] [], [fBot], 1), (fr 0 239 0 [(0, tr 219), (1, .arg 60000), (2, .arg 60032)] [], [fBot], 1), [((0, .arg 60000, .int 6659), true)], [([((0, .int 0, .arg 60032), true)], (109, .add (.arg 60000) (.arg 60032), .int 105), true), ([((0, .int 1, .arg 60032), true)], (109, .add (.arg 60000) (.arg 60032), .int 106), true), ([((0, .int 2, .arg 60032), true)], (109, .add (.arg 60000) (.arg 60032), .int 107), true), ([((0, .int 3, .arg 60032), true)], (109, .add (.arg 60000) (.arg 60032), .int 108), true), ([((0, .int 4, .arg 60032), true)], (109, .add (.arg 60000) (.arg 60032), .int 109), true), ([((0, .int 0, .arg 60032), false), ((0, .int 1, .arg 60032), false), ((0, .int 2, .arg 60032), false), ((0, .int 3, .arg 60032), false), ((0, .int 4, .arg 60032), false)], (109, .add (.arg 60000) (.arg 60032), .int (-2)), true)])
theorem k_fm30 : cbody kR [] (cpl1 zWP c_fndm []) (cpl2 zWP c_fndm []) (cleafS kR zWP c_fndm w_sl0) 400 true true q_fm30.2.2.1 q_fm30.2.2.2 (cst zWP c_fndm.2.2.1.1 q_fm30.1) (cst zWP c_fndm.2.2.1.2 q_fm30.2.1) = true := by decide +kernel
theorem i_fm30 {X : pX} {ρ : sR} (h : ρ.1 60000 = 6659) : iok X ρ q_fm30.2.2.2 := by
  have e : (ρ.1 60000).toInt = 6659 := by rw [h]; rfl
  intro q hq
  simp only [q_fm30, List.mem_cons, List.not_mem_nil, or_false] at hq
  rcases hq with rfl | rfl | rfl | rfl | rfl | rfl
  · intro hg
    have g : (0 : Int32) = ρ.1 60032 := of_decide_eq_true (hg _ List.mem_cons_self)
    exact fm_n (by rw [e, ← g]; exact sl_here (p := 105) (by decide) (by decide) (by decide) (by decide) (by decide) (by decide +kernel))
  · intro hg
    have g : (1 : Int32) = ρ.1 60032 := of_decide_eq_true (hg _ List.mem_cons_self)
    exact fm_n (by rw [e, ← g]; exact sl_here (p := 106) (by decide) (by decide) (by decide) (by decide) (by decide) (by decide +kernel))
  · intro hg
    have g : (2 : Int32) = ρ.1 60032 := of_decide_eq_true (hg _ List.mem_cons_self)
    exact fm_n (by rw [e, ← g]; exact sl_here (p := 107) (by decide) (by decide) (by decide) (by decide) (by decide) (by decide +kernel))
  · intro hg
    have g : (3 : Int32) = ρ.1 60032 := of_decide_eq_true (hg _ List.mem_cons_self)
    exact fm_n (by rw [e, ← g]; exact sl_here (p := 108) (by decide) (by decide) (by decide) (by decide) (by decide) (by decide +kernel))
  · intro hg
    have g : (4 : Int32) = ρ.1 60032 := of_decide_eq_true (hg _ List.mem_cons_self)
    exact fm_n (by rw [e, ← g]; exact sl_here (p := 109) (by decide) (by decide) (by decide) (by decide) (by decide) (by decide +kernel))
  · intro hg
    exact fm_n (by rw [e]; exact fm_two (subs := [0, 1, 2, 3, 4]) (by decide) (by decide) (p := 105) (by decide) (by decide +kernel) (by decide +kernel) (fun s hs => by
      simp only [List.mem_cons, List.not_mem_nil, or_false] at hs
      rcases hs with rfl | rfl | rfl | rfl | rfl
      · exact fun e => of_decide_eq_false (hg ((0, .int 0, .arg 60032), false) (List.mem_of_getElem? (i := 0) rfl)) (Int32.toInt_inj.mp e.symm)
      · exact fun e => of_decide_eq_false (hg ((0, .int 1, .arg 60032), false) (List.mem_of_getElem? (i := 1) rfl)) (Int32.toInt_inj.mp e.symm)
      · exact fun e => of_decide_eq_false (hg ((0, .int 2, .arg 60032), false) (List.mem_of_getElem? (i := 2) rfl)) (Int32.toInt_inj.mp e.symm)
      · exact fun e => of_decide_eq_false (hg ((0, .int 3, .arg 60032), false) (List.mem_of_getElem? (i := 3) rfl)) (Int32.toInt_inj.mp e.symm)
      · exact fun e => of_decide_eq_false (hg ((0, .int 4, .arg 60032), false) (List.mem_of_getElem? (i := 4) rfl)) (Int32.toInt_inj.mp e.symm)))
noncomputable def q_fm31 : sCut := ((fr 0 425 0 [(0, .long 0)] [], [fBot], 1), (fr 0 239 0 [(0, tr 219), (1, .arg 60000), (2, .arg 60032)] [], [fBot], 1), [((0, .arg 60000, .int 8192), true)], [([((0, .int 0, .arg 60032), true)], (109, .add (.arg 60000) (.arg 60032), .int 110), true), ([((0, .int 0, .arg 60032), false)], (109, .add (.arg 60000) (.arg 60032), .int (-2)), true)])
theorem k_fm31 : cbody kR [] (cpl1 zWP c_fndm []) (cpl2 zWP c_fndm []) (cleafS kR zWP c_fndm w_sl0) 400 true true q_fm31.2.2.1 q_fm31.2.2.2 (cst zWP c_fndm.2.2.1.1 q_fm31.1) (cst zWP c_fndm.2.2.1.2 q_fm31.2.1) = true := by decide +kernel
theorem i_fm31 {X : pX} {ρ : sR} (h : ρ.1 60000 = 8192) : iok X ρ q_fm31.2.2.2 := by
  have e : (ρ.1 60000).toInt = 8192 := by rw [h]; rfl
  intro q hq
  simp only [q_fm31, List.mem_cons, List.not_mem_nil, or_false] at hq
  rcases hq with rfl | rfl
  · intro hg
    have g : (0 : Int32) = ρ.1 60032 := of_decide_eq_true (hg _ List.mem_cons_self)
    exact fm_n (by rw [e, ← g]; exact sl_here (p := 110) (by decide) (by decide) (by decide) (by decide) (by decide) (by decide +kernel))
  · intro hg
    exact fm_n (by rw [e]; exact fm_two (subs := [0]) (by decide) (by decide) (p := 110) (by decide) (by decide +kernel) (by decide +kernel) (fun s hs => by
      simp only [List.mem_cons, List.not_mem_nil, or_false] at hs
      rcases hs with rfl
      · exact fun e => of_decide_eq_false (hg ((0, .int 0, .arg 60032), false) (List.mem_of_getElem? (i := 0) rfl)) (Int32.toInt_inj.mp e.symm)))
noncomputable def q_fm32 : sCut := ((fr 0 425 0 [(0, .long 0)] [], [fBot], 1), (fr 0 239 0 [(0, tr 219), (1, .arg 60000), (2, .arg 60032)] [], [fBot], 1), [((0, .arg 60000, .int 8208), true)], [([((0, .int 0, .arg 60032), true)], (109, .add (.arg 60000) (.arg 60032), .int 111), true), ([((0, .int 0, .arg 60032), false)], (109, .add (.arg 60000) (.arg 60032), .int (-2)), true)])
theorem k_fm32 : cbody kR [] (cpl1 zWP c_fndm []) (cpl2 zWP c_fndm []) (cleafS kR zWP c_fndm w_sl0) 400 true true q_fm32.2.2.1 q_fm32.2.2.2 (cst zWP c_fndm.2.2.1.1 q_fm32.1) (cst zWP c_fndm.2.2.1.2 q_fm32.2.1) = true := by decide +kernel
theorem i_fm32 {X : pX} {ρ : sR} (h : ρ.1 60000 = 8208) : iok X ρ q_fm32.2.2.2 := by
  have e : (ρ.1 60000).toInt = 8208 := by rw [h]; rfl
  intro q hq
  simp only [q_fm32, List.mem_cons, List.not_mem_nil, or_false] at hq
  rcases hq with rfl | rfl
  · intro hg
    have g : (0 : Int32) = ρ.1 60032 := of_decide_eq_true (hg _ List.mem_cons_self)
    exact fm_n (by rw [e, ← g]; exact sl_here (p := 111) (by decide) (by decide) (by decide) (by decide) (by decide) (by decide +kernel))
  · intro hg
    exact fm_n (by rw [e]; exact fm_two (subs := [0]) (by decide) (by decide) (p := 111) (by decide) (by decide +kernel) (by decide +kernel) (fun s hs => by
      simp only [List.mem_cons, List.not_mem_nil, or_false] at hs
      rcases hs with rfl
      · exact fun e => of_decide_eq_false (hg ((0, .int 0, .arg 60032), false) (List.mem_of_getElem? (i := 0) rfl)) (Int32.toInt_inj.mp e.symm)))
noncomputable def q_fm33 : sCut := ((fr 0 425 0 [(0, .long 0)] [], [fBot], 1), (fr 0 239 0 [(0, tr 219), (1, .arg 60000), (2, .arg 60032)] [], [fBot], 1), [((0, .arg 60000, .int 8209), true)], [([((0, .int 0, .arg 60032), true)], (109, .add (.arg 60000) (.arg 60032), .int 112), true), ([((0, .int 0, .arg 60032), false)], (109, .add (.arg 60000) (.arg 60032), .int (-2)), true)])
theorem k_fm33 : cbody kR [] (cpl1 zWP c_fndm []) (cpl2 zWP c_fndm []) (cleafS kR zWP c_fndm w_sl0) 400 true true q_fm33.2.2.1 q_fm33.2.2.2 (cst zWP c_fndm.2.2.1.1 q_fm33.1) (cst zWP c_fndm.2.2.1.2 q_fm33.2.1) = true := by decide +kernel
theorem i_fm33 {X : pX} {ρ : sR} (h : ρ.1 60000 = 8209) : iok X ρ q_fm33.2.2.2 := by
  have e : (ρ.1 60000).toInt = 8209 := by rw [h]; rfl
  intro q hq
  simp only [q_fm33, List.mem_cons, List.not_mem_nil, or_false] at hq
  rcases hq with rfl | rfl
  · intro hg
    have g : (0 : Int32) = ρ.1 60032 := of_decide_eq_true (hg _ List.mem_cons_self)
    exact fm_n (by rw [e, ← g]; exact sl_here (p := 112) (by decide) (by decide) (by decide) (by decide) (by decide) (by decide +kernel))
  · intro hg
    exact fm_n (by rw [e]; exact fm_two (subs := [0]) (by decide) (by decide) (p := 112) (by decide) (by decide +kernel) (by decide +kernel) (fun s hs => by
      simp only [List.mem_cons, List.not_mem_nil, or_false] at hs
      rcases hs with rfl
      · exact fun e => of_decide_eq_false (hg ((0, .int 0, .arg 60032), false) (List.mem_of_getElem? (i := 0) rfl)) (Int32.toInt_inj.mp e.symm)))
noncomputable def q_fm34 : sCut := ((fr 0 425 0 [(0, .long 0)] [], [fBot], 1), (fr 0 239 0 [(0, tr 219), (1, .arg 60000), (2, .arg 60032)] [], [fBot], 1), [((0, .arg 60000, .int 8210), true)], [([((0, .int 0, .arg 60032), true)], (109, .add (.arg 60000) (.arg 60032), .int 113), true), ([((0, .int 0, .arg 60032), false)], (109, .add (.arg 60000) (.arg 60032), .int (-2)), true)])
theorem k_fm34 : cbody kR [] (cpl1 zWP c_fndm []) (cpl2 zWP c_fndm []) (cleafS kR zWP c_fndm w_sl0) 400 true true q_fm34.2.2.1 q_fm34.2.2.2 (cst zWP c_fndm.2.2.1.1 q_fm34.1) (cst zWP c_fndm.2.2.1.2 q_fm34.2.1) = true := by decide +kernel
theorem i_fm34 {X : pX} {ρ : sR} (h : ρ.1 60000 = 8210) : iok X ρ q_fm34.2.2.2 := by
  have e : (ρ.1 60000).toInt = 8210 := by rw [h]; rfl
  intro q hq
  simp only [q_fm34, List.mem_cons, List.not_mem_nil, or_false] at hq
  rcases hq with rfl | rfl
  · intro hg
    have g : (0 : Int32) = ρ.1 60032 := of_decide_eq_true (hg _ List.mem_cons_self)
    exact fm_n (by rw [e, ← g]; exact sl_here (p := 113) (by decide) (by decide) (by decide) (by decide) (by decide) (by decide +kernel))
  · intro hg
    exact fm_n (by rw [e]; exact fm_two (subs := [0]) (by decide) (by decide) (p := 113) (by decide) (by decide +kernel) (by decide +kernel) (fun s hs => by
      simp only [List.mem_cons, List.not_mem_nil, or_false] at hs
      rcases hs with rfl
      · exact fun e => of_decide_eq_false (hg ((0, .int 0, .arg 60032), false) (List.mem_of_getElem? (i := 0) rfl)) (Int32.toInt_inj.mp e.symm)))
noncomputable def q_fm35 : sCut := ((fr 0 425 0 [(0, .long 0)] [], [fBot], 1), (fr 0 239 0 [(0, tr 219), (1, .arg 60000), (2, .arg 60032)] [], [fBot], 1), [((0, .arg 60000, .int 24639), true)], [([((0, .int 0, .arg 60032), true)], (109, .add (.arg 60000) (.arg 60032), .int 114), true), ([((0, .int 0, .arg 60032), false)], (109, .add (.arg 60000) (.arg 60032), .int (-2)), true)])
theorem k_fm35 : cbody kR [] (cpl1 zWP c_fndm []) (cpl2 zWP c_fndm []) (cleafS kR zWP c_fndm w_sl0) 400 true true q_fm35.2.2.1 q_fm35.2.2.2 (cst zWP c_fndm.2.2.1.1 q_fm35.1) (cst zWP c_fndm.2.2.1.2 q_fm35.2.1) = true := by decide +kernel
theorem i_fm35 {X : pX} {ρ : sR} (h : ρ.1 60000 = 24639) : iok X ρ q_fm35.2.2.2 := by
  have e : (ρ.1 60000).toInt = 24639 := by rw [h]; rfl
  intro q hq
  simp only [q_fm35, List.mem_cons, List.not_mem_nil, or_false] at hq
  rcases hq with rfl | rfl
  · intro hg
    have g : (0 : Int32) = ρ.1 60032 := of_decide_eq_true (hg _ List.mem_cons_self)
    exact fm_n (by rw [e, ← g]; exact sl_here (p := 114) (by decide) (by decide) (by decide) (by decide) (by decide) (by decide +kernel))
  · intro hg
    exact fm_n (by rw [e]; exact fm_two (subs := [0]) (by decide) (by decide) (p := 114) (by decide) (by decide +kernel) (by decide +kernel) (fun s hs => by
      simp only [List.mem_cons, List.not_mem_nil, or_false] at hs
      rcases hs with rfl
      · exact fun e => of_decide_eq_false (hg ((0, .int 0, .arg 60032), false) (List.mem_of_getElem? (i := 0) rfl)) (Int32.toInt_inj.mp e.symm)))
noncomputable def q_fm36 : sCut := ((fr 0 425 0 [(0, .long 0)] [], [fBot], 1), (fr 0 239 0 [(0, tr 219), (1, .arg 60000), (2, .arg 60032)] [], [fBot], 1), [((0, .arg 60000, .int 24640), true)], [([((0, .int 0, .arg 60032), true)], (109, .add (.arg 60000) (.arg 60032), .int 115), true), ([((0, .int 0, .arg 60032), false)], (109, .add (.arg 60000) (.arg 60032), .int (-2)), true)])
theorem k_fm36 : cbody kR [] (cpl1 zWP c_fndm []) (cpl2 zWP c_fndm []) (cleafS kR zWP c_fndm w_sl0) 400 true true q_fm36.2.2.1 q_fm36.2.2.2 (cst zWP c_fndm.2.2.1.1 q_fm36.1) (cst zWP c_fndm.2.2.1.2 q_fm36.2.1) = true := by decide +kernel
theorem i_fm36 {X : pX} {ρ : sR} (h : ρ.1 60000 = 24640) : iok X ρ q_fm36.2.2.2 := by
  have e : (ρ.1 60000).toInt = 24640 := by rw [h]; rfl
  intro q hq
  simp only [q_fm36, List.mem_cons, List.not_mem_nil, or_false] at hq
  rcases hq with rfl | rfl
  · intro hg
    have g : (0 : Int32) = ρ.1 60032 := of_decide_eq_true (hg _ List.mem_cons_self)
    exact fm_n (by rw [e, ← g]; exact sl_here (p := 115) (by decide) (by decide) (by decide) (by decide) (by decide) (by decide +kernel))
  · intro hg
    exact fm_n (by rw [e]; exact fm_two (subs := [0]) (by decide) (by decide) (p := 115) (by decide) (by decide +kernel) (by decide +kernel) (fun s hs => by
      simp only [List.mem_cons, List.not_mem_nil, or_false] at hs
      rcases hs with rfl
      · exact fun e => of_decide_eq_false (hg ((0, .int 0, .arg 60032), false) (List.mem_of_getElem? (i := 0) rfl)) (Int32.toInt_inj.mp e.symm)))
noncomputable def q_fm37 : sCut := ((fr 0 425 0 [(0, .long 0)] [], [fBot], 1), (fr 0 239 0 [(0, tr 219), (1, .arg 60000), (2, .arg 60032)] [], [fBot], 1), [((0, .arg 60000, .int 24641), true)], [([((0, .int 0, .arg 60032), true)], (109, .add (.arg 60000) (.arg 60032), .int 116), true), ([((0, .int 0, .arg 60032), false)], (109, .add (.arg 60000) (.arg 60032), .int (-2)), true)])
theorem k_fm37 : cbody kR [] (cpl1 zWP c_fndm []) (cpl2 zWP c_fndm []) (cleafS kR zWP c_fndm w_sl0) 400 true true q_fm37.2.2.1 q_fm37.2.2.2 (cst zWP c_fndm.2.2.1.1 q_fm37.1) (cst zWP c_fndm.2.2.1.2 q_fm37.2.1) = true := by decide +kernel
theorem i_fm37 {X : pX} {ρ : sR} (h : ρ.1 60000 = 24641) : iok X ρ q_fm37.2.2.2 := by
  have e : (ρ.1 60000).toInt = 24641 := by rw [h]; rfl
  intro q hq
  simp only [q_fm37, List.mem_cons, List.not_mem_nil, or_false] at hq
  rcases hq with rfl | rfl
  · intro hg
    have g : (0 : Int32) = ρ.1 60032 := of_decide_eq_true (hg _ List.mem_cons_self)
    exact fm_n (by rw [e, ← g]; exact sl_here (p := 116) (by decide) (by decide) (by decide) (by decide) (by decide) (by decide +kernel))
  · intro hg
    exact fm_n (by rw [e]; exact fm_two (subs := [0]) (by decide) (by decide) (p := 116) (by decide) (by decide +kernel) (by decide +kernel) (fun s hs => by
      simp only [List.mem_cons, List.not_mem_nil, or_false] at hs
      rcases hs with rfl
      · exact fun e => of_decide_eq_false (hg ((0, .int 0, .arg 60032), false) (List.mem_of_getElem? (i := 0) rfl)) (Int32.toInt_inj.mp e.symm)))
noncomputable def q_fm38 : sCut := ((fr 0 425 0 [(0, .long 0)] [], [fBot], 1), (fr 0 239 0 [(0, tr 219), (1, .arg 60000), (2, .arg 60032)] [], [fBot], 1), [((0, .arg 60000, .int 24666), true)], [([((0, .int 0, .arg 60032), true)], (109, .add (.arg 60000) (.arg 60032), .int 117), true), ([((0, .int 0, .arg 60032), false)], (109, .add (.arg 60000) (.arg 60032), .int (-2)), true)])
theorem k_fm38 : cbody kR [] (cpl1 zWP c_fndm []) (cpl2 zWP c_fndm []) (cleafS kR zWP c_fndm w_sl0) 400 true true q_fm38.2.2.1 q_fm38.2.2.2 (cst zWP c_fndm.2.2.1.1 q_fm38.1) (cst zWP c_fndm.2.2.1.2 q_fm38.2.1) = true := by decide +kernel
theorem i_fm38 {X : pX} {ρ : sR} (h : ρ.1 60000 = 24666) : iok X ρ q_fm38.2.2.2 := by
  have e : (ρ.1 60000).toInt = 24666 := by rw [h]; rfl
  intro q hq
  simp only [q_fm38, List.mem_cons, List.not_mem_nil, or_false] at hq
  rcases hq with rfl | rfl
  · intro hg
    have g : (0 : Int32) = ρ.1 60032 := of_decide_eq_true (hg _ List.mem_cons_self)
    exact fm_n (by rw [e, ← g]; exact sl_here (p := 117) (by decide) (by decide) (by decide) (by decide) (by decide) (by decide +kernel))
  · intro hg
    exact fm_n (by rw [e]; exact fm_two (subs := [0]) (by decide) (by decide) (p := 117) (by decide) (by decide +kernel) (by decide +kernel) (fun s hs => by
      simp only [List.mem_cons, List.not_mem_nil, or_false] at hs
      rcases hs with rfl
      · exact fun e => of_decide_eq_false (hg ((0, .int 0, .arg 60032), false) (List.mem_of_getElem? (i := 0) rfl)) (Int32.toInt_inj.mp e.symm)))
noncomputable def q_fm39 : sCut := ((fr 0 425 0 [(0, .long 0)] [], [fBot], 1), (fr 0 239 0 [(0, tr 219), (1, .arg 60000), (2, .arg 60032)] [], [fBot], 1), [((0, .arg 60000, .int 24667), true)], [([((0, .int 0, .arg 60032), true)], (109, .add (.arg 60000) (.arg 60032), .int 118), true), ([((0, .int 0, .arg 60032), false)], (109, .add (.arg 60000) (.arg 60032), .int (-2)), true)])
theorem k_fm39 : cbody kR [] (cpl1 zWP c_fndm []) (cpl2 zWP c_fndm []) (cleafS kR zWP c_fndm w_sl0) 400 true true q_fm39.2.2.1 q_fm39.2.2.2 (cst zWP c_fndm.2.2.1.1 q_fm39.1) (cst zWP c_fndm.2.2.1.2 q_fm39.2.1) = true := by decide +kernel
theorem i_fm39 {X : pX} {ρ : sR} (h : ρ.1 60000 = 24667) : iok X ρ q_fm39.2.2.2 := by
  have e : (ρ.1 60000).toInt = 24667 := by rw [h]; rfl
  intro q hq
  simp only [q_fm39, List.mem_cons, List.not_mem_nil, or_false] at hq
  rcases hq with rfl | rfl
  · intro hg
    have g : (0 : Int32) = ρ.1 60032 := of_decide_eq_true (hg _ List.mem_cons_self)
    exact fm_n (by rw [e, ← g]; exact sl_here (p := 118) (by decide) (by decide) (by decide) (by decide) (by decide) (by decide +kernel))
  · intro hg
    exact fm_n (by rw [e]; exact fm_two (subs := [0]) (by decide) (by decide) (p := 118) (by decide) (by decide +kernel) (by decide +kernel) (fun s hs => by
      simp only [List.mem_cons, List.not_mem_nil, or_false] at hs
      rcases hs with rfl
      · exact fun e => of_decide_eq_false (hg ((0, .int 0, .arg 60032), false) (List.mem_of_getElem? (i := 0) rfl)) (Int32.toInt_inj.mp e.symm)))
noncomputable def q_fm40 : sCut := ((fr 0 425 0 [(0, .long 0)] [], [fBot], 1), (fr 0 239 0 [(0, tr 219), (1, .arg 60000), (2, .arg 60032)] [], [fBot], 1), [((0, .arg 60000, .int 24668), true)], [([((0, .int 0, .arg 60032), true)], (109, .add (.arg 60000) (.arg 60032), .int 119), true), ([((0, .int 0, .arg 60032), false)], (109, .add (.arg 60000) (.arg 60032), .int (-2)), true)])
theorem k_fm40 : cbody kR [] (cpl1 zWP c_fndm []) (cpl2 zWP c_fndm []) (cleafS kR zWP c_fndm w_sl0) 400 true true q_fm40.2.2.1 q_fm40.2.2.2 (cst zWP c_fndm.2.2.1.1 q_fm40.1) (cst zWP c_fndm.2.2.1.2 q_fm40.2.1) = true := by decide +kernel
theorem i_fm40 {X : pX} {ρ : sR} (h : ρ.1 60000 = 24668) : iok X ρ q_fm40.2.2.2 := by
  have e : (ρ.1 60000).toInt = 24668 := by rw [h]; rfl
  intro q hq
  simp only [q_fm40, List.mem_cons, List.not_mem_nil, or_false] at hq
  rcases hq with rfl | rfl
  · intro hg
    have g : (0 : Int32) = ρ.1 60032 := of_decide_eq_true (hg _ List.mem_cons_self)
    exact fm_n (by rw [e, ← g]; exact sl_here (p := 119) (by decide) (by decide) (by decide) (by decide) (by decide) (by decide +kernel))
  · intro hg
    exact fm_n (by rw [e]; exact fm_two (subs := [0]) (by decide) (by decide) (p := 119) (by decide) (by decide +kernel) (by decide +kernel) (fun s hs => by
      simp only [List.mem_cons, List.not_mem_nil, or_false] at hs
      rcases hs with rfl
      · exact fun e => of_decide_eq_false (hg ((0, .int 0, .arg 60032), false) (List.mem_of_getElem? (i := 0) rfl)) (Int32.toInt_inj.mp e.symm)))
noncomputable def q_fm41 : sCut := ((fr 0 425 0 [(0, .long 0)] [], [fBot], 1), (fr 0 239 0 [(0, tr 219), (1, .arg 60000), (2, .arg 60032)] [], [fBot], 1), [((0, .arg 60000, .int 24669), true)], [([((0, .int 0, .arg 60032), true)], (109, .add (.arg 60000) (.arg 60032), .int 120), true), ([((0, .int 0, .arg 60032), false)], (109, .add (.arg 60000) (.arg 60032), .int (-2)), true)])
theorem k_fm41 : cbody kR [] (cpl1 zWP c_fndm []) (cpl2 zWP c_fndm []) (cleafS kR zWP c_fndm w_sl0) 400 true true q_fm41.2.2.1 q_fm41.2.2.2 (cst zWP c_fndm.2.2.1.1 q_fm41.1) (cst zWP c_fndm.2.2.1.2 q_fm41.2.1) = true := by decide +kernel
theorem i_fm41 {X : pX} {ρ : sR} (h : ρ.1 60000 = 24669) : iok X ρ q_fm41.2.2.2 := by
  have e : (ρ.1 60000).toInt = 24669 := by rw [h]; rfl
  intro q hq
  simp only [q_fm41, List.mem_cons, List.not_mem_nil, or_false] at hq
  rcases hq with rfl | rfl
  · intro hg
    have g : (0 : Int32) = ρ.1 60032 := of_decide_eq_true (hg _ List.mem_cons_self)
    exact fm_n (by rw [e, ← g]; exact sl_here (p := 120) (by decide) (by decide) (by decide) (by decide) (by decide) (by decide +kernel))
  · intro hg
    exact fm_n (by rw [e]; exact fm_two (subs := [0]) (by decide) (by decide) (p := 120) (by decide) (by decide +kernel) (by decide +kernel) (fun s hs => by
      simp only [List.mem_cons, List.not_mem_nil, or_false] at hs
      rcases hs with rfl
      · exact fun e => of_decide_eq_false (hg ((0, .int 0, .arg 60032), false) (List.mem_of_getElem? (i := 0) rfl)) (Int32.toInt_inj.mp e.symm)))
noncomputable def q_fm42 : sCut := ((fr 0 425 0 [(0, .long 0)] [], [fBot], 1), (fr 0 239 0 [(0, tr 219), (1, .arg 60000), (2, .arg 60032)] [], [fBot], 1), [((0, .arg 60000, .int 24670), true)], [([((0, .int 0, .arg 60032), true)], (109, .add (.arg 60000) (.arg 60032), .int 121), true), ([((0, .int 0, .arg 60032), false)], (109, .add (.arg 60000) (.arg 60032), .int (-2)), true)])
theorem k_fm42 : cbody kR [] (cpl1 zWP c_fndm []) (cpl2 zWP c_fndm []) (cleafS kR zWP c_fndm w_sl0) 400 true true q_fm42.2.2.1 q_fm42.2.2.2 (cst zWP c_fndm.2.2.1.1 q_fm42.1) (cst zWP c_fndm.2.2.1.2 q_fm42.2.1) = true := by decide +kernel
theorem i_fm42 {X : pX} {ρ : sR} (h : ρ.1 60000 = 24670) : iok X ρ q_fm42.2.2.2 := by
  have e : (ρ.1 60000).toInt = 24670 := by rw [h]; rfl
  intro q hq
  simp only [q_fm42, List.mem_cons, List.not_mem_nil, or_false] at hq
  rcases hq with rfl | rfl
  · intro hg
    have g : (0 : Int32) = ρ.1 60032 := of_decide_eq_true (hg _ List.mem_cons_self)
    exact fm_n (by rw [e, ← g]; exact sl_here (p := 121) (by decide) (by decide) (by decide) (by decide) (by decide) (by decide +kernel))
  · intro hg
    exact fm_n (by rw [e]; exact fm_two (subs := [0]) (by decide) (by decide) (p := 121) (by decide) (by decide +kernel) (by decide +kernel) (fun s hs => by
      simp only [List.mem_cons, List.not_mem_nil, or_false] at hs
      rcases hs with rfl
      · exact fun e => of_decide_eq_false (hg ((0, .int 0, .arg 60032), false) (List.mem_of_getElem? (i := 0) rfl)) (Int32.toInt_inj.mp e.symm)))
noncomputable def q_fm43 : sCut := ((fr 0 425 0 [(0, .long 0)] [], [fBot], 1), (fr 0 239 0 [(0, tr 219), (1, .arg 60000), (2, .arg 60032)] [], [fBot], 1), [((0, .arg 60000, .int 24672), true)], [([((0, .int 0, .arg 60032), true)], (109, .add (.arg 60000) (.arg 60032), .int 122), true), ([((0, .int 0, .arg 60032), false)], (109, .add (.arg 60000) (.arg 60032), .int (-2)), true)])
theorem k_fm43 : cbody kR [] (cpl1 zWP c_fndm []) (cpl2 zWP c_fndm []) (cleafS kR zWP c_fndm w_sl0) 400 true true q_fm43.2.2.1 q_fm43.2.2.2 (cst zWP c_fndm.2.2.1.1 q_fm43.1) (cst zWP c_fndm.2.2.1.2 q_fm43.2.1) = true := by decide +kernel
theorem i_fm43 {X : pX} {ρ : sR} (h : ρ.1 60000 = 24672) : iok X ρ q_fm43.2.2.2 := by
  have e : (ρ.1 60000).toInt = 24672 := by rw [h]; rfl
  intro q hq
  simp only [q_fm43, List.mem_cons, List.not_mem_nil, or_false] at hq
  rcases hq with rfl | rfl
  · intro hg
    have g : (0 : Int32) = ρ.1 60032 := of_decide_eq_true (hg _ List.mem_cons_self)
    exact fm_n (by rw [e, ← g]; exact sl_here (p := 122) (by decide) (by decide) (by decide) (by decide) (by decide) (by decide +kernel))
  · intro hg
    exact fm_n (by rw [e]; exact fm_two (subs := [0]) (by decide) (by decide) (p := 122) (by decide) (by decide +kernel) (by decide +kernel) (fun s hs => by
      simp only [List.mem_cons, List.not_mem_nil, or_false] at hs
      rcases hs with rfl
      · exact fun e => of_decide_eq_false (hg ((0, .int 0, .arg 60032), false) (List.mem_of_getElem? (i := 0) rfl)) (Int32.toInt_inj.mp e.symm)))
noncomputable def q_fm44 : sCut := ((fr 0 425 0 [(0, .long 0)] [], [fBot], 1), (fr 0 239 0 [(0, tr 219), (1, .arg 60000), (2, .arg 60032)] [], [fBot], 1), [((0, .arg 60000, .int 24673), true)], [([((0, .int 0, .arg 60032), true)], (109, .add (.arg 60000) (.arg 60032), .int 123), true), ([((0, .int 0, .arg 60032), false)], (109, .add (.arg 60000) (.arg 60032), .int (-2)), true)])
theorem k_fm44 : cbody kR [] (cpl1 zWP c_fndm []) (cpl2 zWP c_fndm []) (cleafS kR zWP c_fndm w_sl0) 400 true true q_fm44.2.2.1 q_fm44.2.2.2 (cst zWP c_fndm.2.2.1.1 q_fm44.1) (cst zWP c_fndm.2.2.1.2 q_fm44.2.1) = true := by decide +kernel
theorem i_fm44 {X : pX} {ρ : sR} (h : ρ.1 60000 = 24673) : iok X ρ q_fm44.2.2.2 := by
  have e : (ρ.1 60000).toInt = 24673 := by rw [h]; rfl
  intro q hq
  simp only [q_fm44, List.mem_cons, List.not_mem_nil, or_false] at hq
  rcases hq with rfl | rfl
  · intro hg
    have g : (0 : Int32) = ρ.1 60032 := of_decide_eq_true (hg _ List.mem_cons_self)
    exact fm_n (by rw [e, ← g]; exact sl_here (p := 123) (by decide) (by decide) (by decide) (by decide) (by decide) (by decide +kernel))
  · intro hg
    exact fm_n (by rw [e]; exact fm_two (subs := [0]) (by decide) (by decide) (p := 123) (by decide) (by decide +kernel) (by decide +kernel) (fun s hs => by
      simp only [List.mem_cons, List.not_mem_nil, or_false] at hs
      rcases hs with rfl
      · exact fun e => of_decide_eq_false (hg ((0, .int 0, .arg 60032), false) (List.mem_of_getElem? (i := 0) rfl)) (Int32.toInt_inj.mp e.symm)))
noncomputable def q_fm45 : sCut := ((fr 0 425 0 [(0, .long 0)] [], [fBot], 1), (fr 0 239 0 [(0, tr 219), (1, .arg 60000), (2, .arg 60032)] [], [fBot], 1), [((0, .arg 60000, .int 24674), true)], [([((0, .int 0, .arg 60032), true)], (109, .add (.arg 60000) (.arg 60032), .int 124), true), ([((0, .int 0, .arg 60032), false)], (109, .add (.arg 60000) (.arg 60032), .int (-2)), true)])
theorem k_fm45 : cbody kR [] (cpl1 zWP c_fndm []) (cpl2 zWP c_fndm []) (cleafS kR zWP c_fndm w_sl0) 400 true true q_fm45.2.2.1 q_fm45.2.2.2 (cst zWP c_fndm.2.2.1.1 q_fm45.1) (cst zWP c_fndm.2.2.1.2 q_fm45.2.1) = true := by decide +kernel
theorem i_fm45 {X : pX} {ρ : sR} (h : ρ.1 60000 = 24674) : iok X ρ q_fm45.2.2.2 := by
  have e : (ρ.1 60000).toInt = 24674 := by rw [h]; rfl
  intro q hq
  simp only [q_fm45, List.mem_cons, List.not_mem_nil, or_false] at hq
  rcases hq with rfl | rfl
  · intro hg
    have g : (0 : Int32) = ρ.1 60032 := of_decide_eq_true (hg _ List.mem_cons_self)
    exact fm_n (by rw [e, ← g]; exact sl_here (p := 124) (by decide) (by decide) (by decide) (by decide) (by decide) (by decide +kernel))
  · intro hg
    exact fm_n (by rw [e]; exact fm_two (subs := [0]) (by decide) (by decide) (p := 124) (by decide) (by decide +kernel) (by decide +kernel) (fun s hs => by
      simp only [List.mem_cons, List.not_mem_nil, or_false] at hs
      rcases hs with rfl
      · exact fun e => of_decide_eq_false (hg ((0, .int 0, .arg 60032), false) (List.mem_of_getElem? (i := 0) rfl)) (Int32.toInt_inj.mp e.symm)))
noncomputable def q_fm46 : sCut := ((fr 0 425 0 [(0, .long 0)] [], [fBot], 1), (fr 0 239 0 [(0, tr 219), (1, .arg 60000), (2, .arg 60032)] [], [fBot], 1), [((0, .arg 60000, .int 24676), true)], [([((0, .int 0, .arg 60032), true)], (109, .add (.arg 60000) (.arg 60032), .int 125), true), ([((0, .int 0, .arg 60032), false)], (109, .add (.arg 60000) (.arg 60032), .int (-2)), true)])
theorem k_fm46 : cbody kR [] (cpl1 zWP c_fndm []) (cpl2 zWP c_fndm []) (cleafS kR zWP c_fndm w_sl0) 400 true true q_fm46.2.2.1 q_fm46.2.2.2 (cst zWP c_fndm.2.2.1.1 q_fm46.1) (cst zWP c_fndm.2.2.1.2 q_fm46.2.1) = true := by decide +kernel
theorem i_fm46 {X : pX} {ρ : sR} (h : ρ.1 60000 = 24676) : iok X ρ q_fm46.2.2.2 := by
  have e : (ρ.1 60000).toInt = 24676 := by rw [h]; rfl
  intro q hq
  simp only [q_fm46, List.mem_cons, List.not_mem_nil, or_false] at hq
  rcases hq with rfl | rfl
  · intro hg
    have g : (0 : Int32) = ρ.1 60032 := of_decide_eq_true (hg _ List.mem_cons_self)
    exact fm_n (by rw [e, ← g]; exact sl_here (p := 125) (by decide) (by decide) (by decide) (by decide) (by decide) (by decide +kernel))
  · intro hg
    exact fm_n (by rw [e]; exact fm_two (subs := [0]) (by decide) (by decide) (p := 125) (by decide) (by decide +kernel) (by decide +kernel) (fun s hs => by
      simp only [List.mem_cons, List.not_mem_nil, or_false] at hs
      rcases hs with rfl
      · exact fun e => of_decide_eq_false (hg ((0, .int 0, .arg 60032), false) (List.mem_of_getElem? (i := 0) rfl)) (Int32.toInt_inj.mp e.symm)))
noncomputable def q_fm47 : sCut := ((fr 0 425 0 [(0, .long 0)] [], [fBot], 1), (fr 0 239 0 [(0, tr 219), (1, .arg 60000), (2, .arg 60032)] [], [fBot], 1), [((0, .arg 60000, .int 24677), true)], [([((0, .int 0, .arg 60032), true)], (109, .add (.arg 60000) (.arg 60032), .int 126), true), ([((0, .int 0, .arg 60032), false)], (109, .add (.arg 60000) (.arg 60032), .int (-2)), true)])
theorem k_fm47 : cbody kR [] (cpl1 zWP c_fndm []) (cpl2 zWP c_fndm []) (cleafS kR zWP c_fndm w_sl0) 400 true true q_fm47.2.2.1 q_fm47.2.2.2 (cst zWP c_fndm.2.2.1.1 q_fm47.1) (cst zWP c_fndm.2.2.1.2 q_fm47.2.1) = true := by decide +kernel
theorem i_fm47 {X : pX} {ρ : sR} (h : ρ.1 60000 = 24677) : iok X ρ q_fm47.2.2.2 := by
  have e : (ρ.1 60000).toInt = 24677 := by rw [h]; rfl
  intro q hq
  simp only [q_fm47, List.mem_cons, List.not_mem_nil, or_false] at hq
  rcases hq with rfl | rfl
  · intro hg
    have g : (0 : Int32) = ρ.1 60032 := of_decide_eq_true (hg _ List.mem_cons_self)
    exact fm_n (by rw [e, ← g]; exact sl_here (p := 126) (by decide) (by decide) (by decide) (by decide) (by decide) (by decide +kernel))
  · intro hg
    exact fm_n (by rw [e]; exact fm_two (subs := [0]) (by decide) (by decide) (p := 126) (by decide) (by decide +kernel) (by decide +kernel) (fun s hs => by
      simp only [List.mem_cons, List.not_mem_nil, or_false] at hs
      rcases hs with rfl
      · exact fun e => of_decide_eq_false (hg ((0, .int 0, .arg 60032), false) (List.mem_of_getElem? (i := 0) rfl)) (Int32.toInt_inj.mp e.symm)))
noncomputable def q_fm48 : sCut := ((fr 0 425 0 [(0, .long 0)] [], [fBot], 1), (fr 0 239 0 [(0, tr 219), (1, .arg 60000), (2, .arg 60032)] [], [fBot], 1), [((0, .arg 60000, .int 24678), true)], [([((0, .int 0, .arg 60032), true)], (109, .add (.arg 60000) (.arg 60032), .int 127), true), ([((0, .int 0, .arg 60032), false)], (109, .add (.arg 60000) (.arg 60032), .int (-2)), true)])
theorem k_fm48 : cbody kR [] (cpl1 zWP c_fndm []) (cpl2 zWP c_fndm []) (cleafS kR zWP c_fndm w_sl0) 400 true true q_fm48.2.2.1 q_fm48.2.2.2 (cst zWP c_fndm.2.2.1.1 q_fm48.1) (cst zWP c_fndm.2.2.1.2 q_fm48.2.1) = true := by decide +kernel
theorem i_fm48 {X : pX} {ρ : sR} (h : ρ.1 60000 = 24678) : iok X ρ q_fm48.2.2.2 := by
  have e : (ρ.1 60000).toInt = 24678 := by rw [h]; rfl
  intro q hq
  simp only [q_fm48, List.mem_cons, List.not_mem_nil, or_false] at hq
  rcases hq with rfl | rfl
  · intro hg
    have g : (0 : Int32) = ρ.1 60032 := of_decide_eq_true (hg _ List.mem_cons_self)
    exact fm_n (by rw [e, ← g]; exact sl_here (p := 127) (by decide) (by decide) (by decide) (by decide) (by decide) (by decide +kernel))
  · intro hg
    exact fm_n (by rw [e]; exact fm_two (subs := [0]) (by decide) (by decide) (p := 127) (by decide) (by decide +kernel) (by decide +kernel) (fun s hs => by
      simp only [List.mem_cons, List.not_mem_nil, or_false] at hs
      rcases hs with rfl
      · exact fun e => of_decide_eq_false (hg ((0, .int 0, .arg 60032), false) (List.mem_of_getElem? (i := 0) rfl)) (Int32.toInt_inj.mp e.symm)))
noncomputable def q_fm49 : sCut := ((fr 0 425 0 [(0, .long 0)] [], [fBot], 1), (fr 0 239 0 [(0, tr 219), (1, .arg 60000), (2, .arg 60032)] [], [fBot], 1), [((0, .arg 60000, .int 24679), true)], [([((0, .int 0, .arg 60032), true)], (109, .add (.arg 60000) (.arg 60032), .int 128), true), ([((0, .int 0, .arg 60032), false)], (109, .add (.arg 60000) (.arg 60032), .int (-2)), true)])
theorem k_fm49 : cbody kR [] (cpl1 zWP c_fndm []) (cpl2 zWP c_fndm []) (cleafS kR zWP c_fndm w_sl0) 400 true true q_fm49.2.2.1 q_fm49.2.2.2 (cst zWP c_fndm.2.2.1.1 q_fm49.1) (cst zWP c_fndm.2.2.1.2 q_fm49.2.1) = true := by decide +kernel
theorem i_fm49 {X : pX} {ρ : sR} (h : ρ.1 60000 = 24679) : iok X ρ q_fm49.2.2.2 := by
  have e : (ρ.1 60000).toInt = 24679 := by rw [h]; rfl
  intro q hq
  simp only [q_fm49, List.mem_cons, List.not_mem_nil, or_false] at hq
  rcases hq with rfl | rfl
  · intro hg
    have g : (0 : Int32) = ρ.1 60032 := of_decide_eq_true (hg _ List.mem_cons_self)
    exact fm_n (by rw [e, ← g]; exact sl_here (p := 128) (by decide) (by decide) (by decide) (by decide) (by decide) (by decide +kernel))
  · intro hg
    exact fm_n (by rw [e]; exact fm_two (subs := [0]) (by decide) (by decide) (p := 128) (by decide) (by decide +kernel) (by decide +kernel) (fun s hs => by
      simp only [List.mem_cons, List.not_mem_nil, or_false] at hs
      rcases hs with rfl
      · exact fun e => of_decide_eq_false (hg ((0, .int 0, .arg 60032), false) (List.mem_of_getElem? (i := 0) rfl)) (Int32.toInt_inj.mp e.symm)))
noncomputable def q_fm50 : sCut := ((fr 0 425 0 [(0, .long 0)] [], [fBot], 1), (fr 0 239 0 [(0, tr 219), (1, .arg 60000), (2, .arg 60032)] [], [fBot], 1), [((0, .arg 60000, .int 24680), true)], [([((0, .int 0, .arg 60032), true)], (109, .add (.arg 60000) (.arg 60032), .int 129), true), ([((0, .int 0, .arg 60032), false)], (109, .add (.arg 60000) (.arg 60032), .int (-2)), true)])
theorem k_fm50 : cbody kR [] (cpl1 zWP c_fndm []) (cpl2 zWP c_fndm []) (cleafS kR zWP c_fndm w_sl0) 400 true true q_fm50.2.2.1 q_fm50.2.2.2 (cst zWP c_fndm.2.2.1.1 q_fm50.1) (cst zWP c_fndm.2.2.1.2 q_fm50.2.1) = true := by decide +kernel
theorem i_fm50 {X : pX} {ρ : sR} (h : ρ.1 60000 = 24680) : iok X ρ q_fm50.2.2.2 := by
  have e : (ρ.1 60000).toInt = 24680 := by rw [h]; rfl
  intro q hq
  simp only [q_fm50, List.mem_cons, List.not_mem_nil, or_false] at hq
  rcases hq with rfl | rfl
  · intro hg
    have g : (0 : Int32) = ρ.1 60032 := of_decide_eq_true (hg _ List.mem_cons_self)
    exact fm_n (by rw [e, ← g]; exact sl_here (p := 129) (by decide) (by decide) (by decide) (by decide) (by decide) (by decide +kernel))
  · intro hg
    exact fm_n (by rw [e]; exact fm_two (subs := [0]) (by decide) (by decide) (p := 129) (by decide) (by decide +kernel) (by decide +kernel) (fun s hs => by
      simp only [List.mem_cons, List.not_mem_nil, or_false] at hs
      rcases hs with rfl
      · exact fun e => of_decide_eq_false (hg ((0, .int 0, .arg 60032), false) (List.mem_of_getElem? (i := 0) rfl)) (Int32.toInt_inj.mp e.symm)))
noncomputable def q_fm51 : sCut := ((fr 0 425 0 [(0, .long 0)] [], [fBot], 1), (fr 0 239 0 [(0, tr 219), (1, .arg 60000), (2, .arg 60032)] [], [fBot], 1), [((0, .arg 60000, .int 24683), true)], [([((0, .int 0, .arg 60032), true)], (109, .add (.arg 60000) (.arg 60032), .int 130), true), ([((0, .int 0, .arg 60032), false)], (109, .add (.arg 60000) (.arg 60032), .int (-2)), true)])
theorem k_fm51 : cbody kR [] (cpl1 zWP c_fndm []) (cpl2 zWP c_fndm []) (cleafS kR zWP c_fndm w_sl0) 400 true true q_fm51.2.2.1 q_fm51.2.2.2 (cst zWP c_fndm.2.2.1.1 q_fm51.1) (cst zWP c_fndm.2.2.1.2 q_fm51.2.1) = true := by decide +kernel
theorem i_fm51 {X : pX} {ρ : sR} (h : ρ.1 60000 = 24683) : iok X ρ q_fm51.2.2.2 := by
  have e : (ρ.1 60000).toInt = 24683 := by rw [h]; rfl
  intro q hq
  simp only [q_fm51, List.mem_cons, List.not_mem_nil, or_false] at hq
  rcases hq with rfl | rfl
  · intro hg
    have g : (0 : Int32) = ρ.1 60032 := of_decide_eq_true (hg _ List.mem_cons_self)
    exact fm_n (by rw [e, ← g]; exact sl_here (p := 130) (by decide) (by decide) (by decide) (by decide) (by decide) (by decide +kernel))
  · intro hg
    exact fm_n (by rw [e]; exact fm_two (subs := [0]) (by decide) (by decide) (p := 130) (by decide) (by decide +kernel) (by decide +kernel) (fun s hs => by
      simp only [List.mem_cons, List.not_mem_nil, or_false] at hs
      rcases hs with rfl
      · exact fun e => of_decide_eq_false (hg ((0, .int 0, .arg 60032), false) (List.mem_of_getElem? (i := 0) rfl)) (Int32.toInt_inj.mp e.symm)))
noncomputable def q_fm52 : sCut := ((fr 0 425 0 [(0, .long 0)] [], [fBot], 1), (fr 0 239 0 [(0, tr 219), (1, .arg 60000), (2, .arg 60032)] [], [fBot], 1), [((0, .arg 60000, .int 24684), true)], [([((0, .int 0, .arg 60032), true)], (109, .add (.arg 60000) (.arg 60032), .int 131), true), ([((0, .int 0, .arg 60032), false)], (109, .add (.arg 60000) (.arg 60032), .int (-2)), true)])
theorem k_fm52 : cbody kR [] (cpl1 zWP c_fndm []) (cpl2 zWP c_fndm []) (cleafS kR zWP c_fndm w_sl0) 400 true true q_fm52.2.2.1 q_fm52.2.2.2 (cst zWP c_fndm.2.2.1.1 q_fm52.1) (cst zWP c_fndm.2.2.1.2 q_fm52.2.1) = true := by decide +kernel
theorem i_fm52 {X : pX} {ρ : sR} (h : ρ.1 60000 = 24684) : iok X ρ q_fm52.2.2.2 := by
  have e : (ρ.1 60000).toInt = 24684 := by rw [h]; rfl
  intro q hq
  simp only [q_fm52, List.mem_cons, List.not_mem_nil, or_false] at hq
  rcases hq with rfl | rfl
  · intro hg
    have g : (0 : Int32) = ρ.1 60032 := of_decide_eq_true (hg _ List.mem_cons_self)
    exact fm_n (by rw [e, ← g]; exact sl_here (p := 131) (by decide) (by decide) (by decide) (by decide) (by decide) (by decide +kernel))
  · intro hg
    exact fm_n (by rw [e]; exact fm_two (subs := [0]) (by decide) (by decide) (p := 131) (by decide) (by decide +kernel) (by decide +kernel) (fun s hs => by
      simp only [List.mem_cons, List.not_mem_nil, or_false] at hs
      rcases hs with rfl
      · exact fun e => of_decide_eq_false (hg ((0, .int 0, .arg 60032), false) (List.mem_of_getElem? (i := 0) rfl)) (Int32.toInt_inj.mp e.symm)))
noncomputable def q_fm53 : sCut := ((fr 0 425 0 [(0, .long 0)] [], [fBot], 1), (fr 0 239 0 [(0, tr 219), (1, .arg 60000), (2, .arg 60032)] [], [fBot], 1), [((0, .arg 60000, .int 24698), true)], [([((0, .int 0, .arg 60032), true)], (109, .add (.arg 60000) (.arg 60032), .int 132), true), ([((0, .int 0, .arg 60032), false)], (109, .add (.arg 60000) (.arg 60032), .int (-2)), true)])
theorem k_fm53 : cbody kR [] (cpl1 zWP c_fndm []) (cpl2 zWP c_fndm []) (cleafS kR zWP c_fndm w_sl0) 400 true true q_fm53.2.2.1 q_fm53.2.2.2 (cst zWP c_fndm.2.2.1.1 q_fm53.1) (cst zWP c_fndm.2.2.1.2 q_fm53.2.1) = true := by decide +kernel
theorem i_fm53 {X : pX} {ρ : sR} (h : ρ.1 60000 = 24698) : iok X ρ q_fm53.2.2.2 := by
  have e : (ρ.1 60000).toInt = 24698 := by rw [h]; rfl
  intro q hq
  simp only [q_fm53, List.mem_cons, List.not_mem_nil, or_false] at hq
  rcases hq with rfl | rfl
  · intro hg
    have g : (0 : Int32) = ρ.1 60032 := of_decide_eq_true (hg _ List.mem_cons_self)
    exact fm_n (by rw [e, ← g]; exact sl_here (p := 132) (by decide) (by decide) (by decide) (by decide) (by decide) (by decide +kernel))
  · intro hg
    exact fm_n (by rw [e]; exact fm_two (subs := [0]) (by decide) (by decide) (p := 132) (by decide) (by decide +kernel) (by decide +kernel) (fun s hs => by
      simp only [List.mem_cons, List.not_mem_nil, or_false] at hs
      rcases hs with rfl
      · exact fun e => of_decide_eq_false (hg ((0, .int 0, .arg 60032), false) (List.mem_of_getElem? (i := 0) rfl)) (Int32.toInt_inj.mp e.symm)))
noncomputable def q_fm54 : sCut := ((fr 0 425 0 [(0, .long 0)] [], [fBot], 1), (fr 0 239 0 [(0, tr 219), (1, .arg 60000), (2, .arg 60032)] [], [fBot], 1), [((0, .arg 60000, .int 24700), true)], [([((0, .int 0, .arg 60032), true)], (109, .add (.arg 60000) (.arg 60032), .int 133), true), ([((0, .int 0, .arg 60032), false)], (109, .add (.arg 60000) (.arg 60032), .int (-2)), true)])
theorem k_fm54 : cbody kR [] (cpl1 zWP c_fndm []) (cpl2 zWP c_fndm []) (cleafS kR zWP c_fndm w_sl0) 400 true true q_fm54.2.2.1 q_fm54.2.2.2 (cst zWP c_fndm.2.2.1.1 q_fm54.1) (cst zWP c_fndm.2.2.1.2 q_fm54.2.1) = true := by decide +kernel
theorem i_fm54 {X : pX} {ρ : sR} (h : ρ.1 60000 = 24700) : iok X ρ q_fm54.2.2.2 := by
  have e : (ρ.1 60000).toInt = 24700 := by rw [h]; rfl
  intro q hq
  simp only [q_fm54, List.mem_cons, List.not_mem_nil, or_false] at hq
  rcases hq with rfl | rfl
  · intro hg
    have g : (0 : Int32) = ρ.1 60032 := of_decide_eq_true (hg _ List.mem_cons_self)
    exact fm_n (by rw [e, ← g]; exact sl_here (p := 133) (by decide) (by decide) (by decide) (by decide) (by decide) (by decide +kernel))
  · intro hg
    exact fm_n (by rw [e]; exact fm_two (subs := [0]) (by decide) (by decide) (p := 133) (by decide) (by decide +kernel) (by decide +kernel) (fun s hs => by
      simp only [List.mem_cons, List.not_mem_nil, or_false] at hs
      rcases hs with rfl
      · exact fun e => of_decide_eq_false (hg ((0, .int 0, .arg 60032), false) (List.mem_of_getElem? (i := 0) rfl)) (Int32.toInt_inj.mp e.symm)))
noncomputable def q_fm55 : sCut := ((fr 0 425 0 [(0, .long 0)] [], [fBot], 1), (fr 0 239 0 [(0, tr 219), (1, .arg 60000), (2, .arg 60032)] [], [fBot], 1), [((0, .arg 60000, .int 24701), true)], [([((0, .int 0, .arg 60032), true)], (109, .add (.arg 60000) (.arg 60032), .int 134), true), ([((0, .int 1, .arg 60032), true)], (109, .add (.arg 60000) (.arg 60032), .int 135), true), ([((0, .int 2, .arg 60032), true)], (109, .add (.arg 60000) (.arg 60032), .int 136), true), ([((0, .int 0, .arg 60032), false), ((0, .int 1, .arg 60032), false), ((0, .int 2, .arg 60032), false)], (109, .add (.arg 60000) (.arg 60032), .int (-2)), true)])
theorem k_fm55 : cbody kR [] (cpl1 zWP c_fndm []) (cpl2 zWP c_fndm []) (cleafS kR zWP c_fndm w_sl0) 400 true true q_fm55.2.2.1 q_fm55.2.2.2 (cst zWP c_fndm.2.2.1.1 q_fm55.1) (cst zWP c_fndm.2.2.1.2 q_fm55.2.1) = true := by decide +kernel
theorem i_fm55 {X : pX} {ρ : sR} (h : ρ.1 60000 = 24701) : iok X ρ q_fm55.2.2.2 := by
  have e : (ρ.1 60000).toInt = 24701 := by rw [h]; rfl
  intro q hq
  simp only [q_fm55, List.mem_cons, List.not_mem_nil, or_false] at hq
  rcases hq with rfl | rfl | rfl | rfl
  · intro hg
    have g : (0 : Int32) = ρ.1 60032 := of_decide_eq_true (hg _ List.mem_cons_self)
    exact fm_n (by rw [e, ← g]; exact sl_here (p := 134) (by decide) (by decide) (by decide) (by decide) (by decide) (by decide +kernel))
  · intro hg
    have g : (1 : Int32) = ρ.1 60032 := of_decide_eq_true (hg _ List.mem_cons_self)
    exact fm_n (by rw [e, ← g]; exact sl_here (p := 135) (by decide) (by decide) (by decide) (by decide) (by decide) (by decide +kernel))
  · intro hg
    have g : (2 : Int32) = ρ.1 60032 := of_decide_eq_true (hg _ List.mem_cons_self)
    exact fm_n (by rw [e, ← g]; exact sl_here (p := 136) (by decide) (by decide) (by decide) (by decide) (by decide) (by decide +kernel))
  · intro hg
    exact fm_n (by rw [e]; exact fm_two (subs := [0, 1, 2]) (by decide) (by decide) (p := 134) (by decide) (by decide +kernel) (by decide +kernel) (fun s hs => by
      simp only [List.mem_cons, List.not_mem_nil, or_false] at hs
      rcases hs with rfl | rfl | rfl
      · exact fun e => of_decide_eq_false (hg ((0, .int 0, .arg 60032), false) (List.mem_of_getElem? (i := 0) rfl)) (Int32.toInt_inj.mp e.symm)
      · exact fun e => of_decide_eq_false (hg ((0, .int 1, .arg 60032), false) (List.mem_of_getElem? (i := 1) rfl)) (Int32.toInt_inj.mp e.symm)
      · exact fun e => of_decide_eq_false (hg ((0, .int 2, .arg 60032), false) (List.mem_of_getElem? (i := 2) rfl)) (Int32.toInt_inj.mp e.symm)))
noncomputable def q_fm56 : sCut := ((fr 0 425 0 [(0, .long 0)] [], [fBot], 1), (fr 0 239 0 [(0, tr 219), (1, .arg 60000), (2, .arg 60032)] [], [fBot], 1), [((0, .arg 60000, .int 24703), true)], [([((0, .int 0, .arg 60032), true)], (109, .add (.arg 60000) (.arg 60032), .int 137), true), ([((0, .int 0, .arg 60032), false)], (109, .add (.arg 60000) (.arg 60032), .int (-2)), true)])
theorem k_fm56 : cbody kR [] (cpl1 zWP c_fndm []) (cpl2 zWP c_fndm []) (cleafS kR zWP c_fndm w_sl0) 400 true true q_fm56.2.2.1 q_fm56.2.2.2 (cst zWP c_fndm.2.2.1.1 q_fm56.1) (cst zWP c_fndm.2.2.1.2 q_fm56.2.1) = true := by decide +kernel
theorem i_fm56 {X : pX} {ρ : sR} (h : ρ.1 60000 = 24703) : iok X ρ q_fm56.2.2.2 := by
  have e : (ρ.1 60000).toInt = 24703 := by rw [h]; rfl
  intro q hq
  simp only [q_fm56, List.mem_cons, List.not_mem_nil, or_false] at hq
  rcases hq with rfl | rfl
  · intro hg
    have g : (0 : Int32) = ρ.1 60032 := of_decide_eq_true (hg _ List.mem_cons_self)
    exact fm_n (by rw [e, ← g]; exact sl_here (p := 137) (by decide) (by decide) (by decide) (by decide) (by decide) (by decide +kernel))
  · intro hg
    exact fm_n (by rw [e]; exact fm_two (subs := [0]) (by decide) (by decide) (p := 137) (by decide) (by decide +kernel) (by decide +kernel) (fun s hs => by
      simp only [List.mem_cons, List.not_mem_nil, or_false] at hs
      rcases hs with rfl
      · exact fun e => of_decide_eq_false (hg ((0, .int 0, .arg 60032), false) (List.mem_of_getElem? (i := 0) rfl)) (Int32.toInt_inj.mp e.symm)))
noncomputable def q_fm57 : sCut := ((fr 0 425 0 [(0, .long 0)] [], [fBot], 1), (fr 0 239 0 [(0, tr 219), (1, .arg 60000), (2, .arg 60032)] [], [fBot], 1), [((0, .arg 60000, .int 24705), true)], [([((0, .int 0, .arg 60032), true)], (109, .add (.arg 60000) (.arg 60032), .int 138), true), ([((0, .int 0, .arg 60032), false)], (109, .add (.arg 60000) (.arg 60032), .int (-2)), true)])
theorem k_fm57 : cbody kR [] (cpl1 zWP c_fndm []) (cpl2 zWP c_fndm []) (cleafS kR zWP c_fndm w_sl0) 400 true true q_fm57.2.2.1 q_fm57.2.2.2 (cst zWP c_fndm.2.2.1.1 q_fm57.1) (cst zWP c_fndm.2.2.1.2 q_fm57.2.1) = true := by decide +kernel
theorem i_fm57 {X : pX} {ρ : sR} (h : ρ.1 60000 = 24705) : iok X ρ q_fm57.2.2.2 := by
  have e : (ρ.1 60000).toInt = 24705 := by rw [h]; rfl
  intro q hq
  simp only [q_fm57, List.mem_cons, List.not_mem_nil, or_false] at hq
  rcases hq with rfl | rfl
  · intro hg
    have g : (0 : Int32) = ρ.1 60032 := of_decide_eq_true (hg _ List.mem_cons_self)
    exact fm_n (by rw [e, ← g]; exact sl_here (p := 138) (by decide) (by decide) (by decide) (by decide) (by decide) (by decide +kernel))
  · intro hg
    exact fm_n (by rw [e]; exact fm_two (subs := [0]) (by decide) (by decide) (p := 138) (by decide) (by decide +kernel) (by decide +kernel) (fun s hs => by
      simp only [List.mem_cons, List.not_mem_nil, or_false] at hs
      rcases hs with rfl
      · exact fun e => of_decide_eq_false (hg ((0, .int 0, .arg 60032), false) (List.mem_of_getElem? (i := 0) rfl)) (Int32.toInt_inj.mp e.symm)))
noncomputable def q_fm58 : sCut := ((fr 0 425 0 [(0, .long 0)] [], [fBot], 1), (fr 0 239 0 [(0, tr 219), (1, .arg 60000), (2, .arg 60032)] [], [fBot], 1), [((0, .arg 60000, .int 24707), true)], [([((0, .int 0, .arg 60032), true)], (109, .add (.arg 60000) (.arg 60032), .int 139), true), ([((0, .int 0, .arg 60032), false)], (109, .add (.arg 60000) (.arg 60032), .int (-2)), true)])
theorem k_fm58 : cbody kR [] (cpl1 zWP c_fndm []) (cpl2 zWP c_fndm []) (cleafS kR zWP c_fndm w_sl0) 400 true true q_fm58.2.2.1 q_fm58.2.2.2 (cst zWP c_fndm.2.2.1.1 q_fm58.1) (cst zWP c_fndm.2.2.1.2 q_fm58.2.1) = true := by decide +kernel
theorem i_fm58 {X : pX} {ρ : sR} (h : ρ.1 60000 = 24707) : iok X ρ q_fm58.2.2.2 := by
  have e : (ρ.1 60000).toInt = 24707 := by rw [h]; rfl
  intro q hq
  simp only [q_fm58, List.mem_cons, List.not_mem_nil, or_false] at hq
  rcases hq with rfl | rfl
  · intro hg
    have g : (0 : Int32) = ρ.1 60032 := of_decide_eq_true (hg _ List.mem_cons_self)
    exact fm_n (by rw [e, ← g]; exact sl_here (p := 139) (by decide) (by decide) (by decide) (by decide) (by decide) (by decide +kernel))
  · intro hg
    exact fm_n (by rw [e]; exact fm_two (subs := [0]) (by decide) (by decide) (p := 139) (by decide) (by decide +kernel) (by decide +kernel) (fun s hs => by
      simp only [List.mem_cons, List.not_mem_nil, or_false] at hs
      rcases hs with rfl
      · exact fun e => of_decide_eq_false (hg ((0, .int 0, .arg 60032), false) (List.mem_of_getElem? (i := 0) rfl)) (Int32.toInt_inj.mp e.symm)))
noncomputable def q_fm59 : sCut := ((fr 0 425 0 [(0, .long 0)] [], [fBot], 1), (fr 0 239 0 [(0, tr 219), (1, .arg 60000), (2, .arg 60032)] [], [fBot], 1), [((0, .arg 60000, .int 24708), true)], [([((0, .int 0, .arg 60032), true)], (109, .add (.arg 60000) (.arg 60032), .int 140), true), ([((0, .int 0, .arg 60032), false)], (109, .add (.arg 60000) (.arg 60032), .int (-2)), true)])
theorem k_fm59 : cbody kR [] (cpl1 zWP c_fndm []) (cpl2 zWP c_fndm []) (cleafS kR zWP c_fndm w_sl0) 400 true true q_fm59.2.2.1 q_fm59.2.2.2 (cst zWP c_fndm.2.2.1.1 q_fm59.1) (cst zWP c_fndm.2.2.1.2 q_fm59.2.1) = true := by decide +kernel
theorem i_fm59 {X : pX} {ρ : sR} (h : ρ.1 60000 = 24708) : iok X ρ q_fm59.2.2.2 := by
  have e : (ρ.1 60000).toInt = 24708 := by rw [h]; rfl
  intro q hq
  simp only [q_fm59, List.mem_cons, List.not_mem_nil, or_false] at hq
  rcases hq with rfl | rfl
  · intro hg
    have g : (0 : Int32) = ρ.1 60032 := of_decide_eq_true (hg _ List.mem_cons_self)
    exact fm_n (by rw [e, ← g]; exact sl_here (p := 140) (by decide) (by decide) (by decide) (by decide) (by decide) (by decide +kernel))
  · intro hg
    exact fm_n (by rw [e]; exact fm_two (subs := [0]) (by decide) (by decide) (p := 140) (by decide) (by decide +kernel) (by decide +kernel) (fun s hs => by
      simp only [List.mem_cons, List.not_mem_nil, or_false] at hs
      rcases hs with rfl
      · exact fun e => of_decide_eq_false (hg ((0, .int 0, .arg 60032), false) (List.mem_of_getElem? (i := 0) rfl)) (Int32.toInt_inj.mp e.symm)))
noncomputable def q_fm60 : sCut := ((fr 0 425 0 [(0, .long 0)] [], [fBot], 1), (fr 0 239 0 [(0, tr 219), (1, .arg 60000), (2, .arg 60032)] [], [fBot], 1), [((0, .arg 60000, .int 24709), true)], [([((0, .int 0, .arg 60032), true)], (109, .add (.arg 60000) (.arg 60032), .int 141), true), ([((0, .int 0, .arg 60032), false)], (109, .add (.arg 60000) (.arg 60032), .int (-2)), true)])
theorem k_fm60 : cbody kR [] (cpl1 zWP c_fndm []) (cpl2 zWP c_fndm []) (cleafS kR zWP c_fndm w_sl0) 400 true true q_fm60.2.2.1 q_fm60.2.2.2 (cst zWP c_fndm.2.2.1.1 q_fm60.1) (cst zWP c_fndm.2.2.1.2 q_fm60.2.1) = true := by decide +kernel
theorem i_fm60 {X : pX} {ρ : sR} (h : ρ.1 60000 = 24709) : iok X ρ q_fm60.2.2.2 := by
  have e : (ρ.1 60000).toInt = 24709 := by rw [h]; rfl
  intro q hq
  simp only [q_fm60, List.mem_cons, List.not_mem_nil, or_false] at hq
  rcases hq with rfl | rfl
  · intro hg
    have g : (0 : Int32) = ρ.1 60032 := of_decide_eq_true (hg _ List.mem_cons_self)
    exact fm_n (by rw [e, ← g]; exact sl_here (p := 141) (by decide) (by decide) (by decide) (by decide) (by decide) (by decide +kernel))
  · intro hg
    exact fm_n (by rw [e]; exact fm_two (subs := [0]) (by decide) (by decide) (p := 141) (by decide) (by decide +kernel) (by decide +kernel) (fun s hs => by
      simp only [List.mem_cons, List.not_mem_nil, or_false] at hs
      rcases hs with rfl
      · exact fun e => of_decide_eq_false (hg ((0, .int 0, .arg 60032), false) (List.mem_of_getElem? (i := 0) rfl)) (Int32.toInt_inj.mp e.symm)))
noncomputable def q_fm61 : sCut := ((fr 0 425 0 [(0, .long 0)] [], [fBot], 1), (fr 0 239 0 [(0, tr 219), (1, .arg 60000), (2, .arg 60032)] [], [fBot], 1), [((0, .arg 60000, .int 24728), true)], [([((0, .int 0, .arg 60032), true)], (109, .add (.arg 60000) (.arg 60032), .int 142), true), ([((0, .int 0, .arg 60032), false)], (109, .add (.arg 60000) (.arg 60032), .int (-2)), true)])
theorem k_fm61 : cbody kR [] (cpl1 zWP c_fndm []) (cpl2 zWP c_fndm []) (cleafS kR zWP c_fndm w_sl0) 400 true true q_fm61.2.2.1 q_fm61.2.2.2 (cst zWP c_fndm.2.2.1.1 q_fm61.1) (cst zWP c_fndm.2.2.1.2 q_fm61.2.1) = true := by decide +kernel
theorem i_fm61 {X : pX} {ρ : sR} (h : ρ.1 60000 = 24728) : iok X ρ q_fm61.2.2.2 := by
  have e : (ρ.1 60000).toInt = 24728 := by rw [h]; rfl
  intro q hq
  simp only [q_fm61, List.mem_cons, List.not_mem_nil, or_false] at hq
  rcases hq with rfl | rfl
  · intro hg
    have g : (0 : Int32) = ρ.1 60032 := of_decide_eq_true (hg _ List.mem_cons_self)
    exact fm_n (by rw [e, ← g]; exact sl_here (p := 142) (by decide) (by decide) (by decide) (by decide) (by decide) (by decide +kernel))
  · intro hg
    exact fm_n (by rw [e]; exact fm_two (subs := [0]) (by decide) (by decide) (p := 142) (by decide) (by decide +kernel) (by decide +kernel) (fun s hs => by
      simp only [List.mem_cons, List.not_mem_nil, or_false] at hs
      rcases hs with rfl
      · exact fun e => of_decide_eq_false (hg ((0, .int 0, .arg 60032), false) (List.mem_of_getElem? (i := 0) rfl)) (Int32.toInt_inj.mp e.symm)))
noncomputable def q_fm62 : sCut := ((fr 0 425 0 [(0, .long 0)] [], [fBot], 1), (fr 0 239 0 [(0, tr 219), (1, .arg 60000), (2, .arg 60032)] [], [fBot], 1), [((0, .arg 60000, .int 24729), true)], [([((0, .int 0, .arg 60032), true)], (109, .add (.arg 60000) (.arg 60032), .int 143), true), ([((0, .int 1, .arg 60032), true)], (109, .add (.arg 60000) (.arg 60032), .int 144), true), ([((0, .int 2, .arg 60032), true)], (109, .add (.arg 60000) (.arg 60032), .int 145), true), ([((0, .int 0, .arg 60032), false), ((0, .int 1, .arg 60032), false), ((0, .int 2, .arg 60032), false)], (109, .add (.arg 60000) (.arg 60032), .int (-2)), true)])
theorem k_fm62 : cbody kR [] (cpl1 zWP c_fndm []) (cpl2 zWP c_fndm []) (cleafS kR zWP c_fndm w_sl0) 400 true true q_fm62.2.2.1 q_fm62.2.2.2 (cst zWP c_fndm.2.2.1.1 q_fm62.1) (cst zWP c_fndm.2.2.1.2 q_fm62.2.1) = true := by decide +kernel
theorem i_fm62 {X : pX} {ρ : sR} (h : ρ.1 60000 = 24729) : iok X ρ q_fm62.2.2.2 := by
  have e : (ρ.1 60000).toInt = 24729 := by rw [h]; rfl
  intro q hq
  simp only [q_fm62, List.mem_cons, List.not_mem_nil, or_false] at hq
  rcases hq with rfl | rfl | rfl | rfl
  · intro hg
    have g : (0 : Int32) = ρ.1 60032 := of_decide_eq_true (hg _ List.mem_cons_self)
    exact fm_n (by rw [e, ← g]; exact sl_here (p := 143) (by decide) (by decide) (by decide) (by decide) (by decide) (by decide +kernel))
  · intro hg
    have g : (1 : Int32) = ρ.1 60032 := of_decide_eq_true (hg _ List.mem_cons_self)
    exact fm_n (by rw [e, ← g]; exact sl_here (p := 144) (by decide) (by decide) (by decide) (by decide) (by decide) (by decide +kernel))
  · intro hg
    have g : (2 : Int32) = ρ.1 60032 := of_decide_eq_true (hg _ List.mem_cons_self)
    exact fm_n (by rw [e, ← g]; exact sl_here (p := 145) (by decide) (by decide) (by decide) (by decide) (by decide) (by decide +kernel))
  · intro hg
    exact fm_n (by rw [e]; exact fm_two (subs := [0, 1, 2]) (by decide) (by decide) (p := 143) (by decide) (by decide +kernel) (by decide +kernel) (fun s hs => by
      simp only [List.mem_cons, List.not_mem_nil, or_false] at hs
      rcases hs with rfl | rfl | rfl
      · exact fun e => of_decide_eq_false (hg ((0, .int 0, .arg 60032), false) (List.mem_of_getElem? (i := 0) rfl)) (Int32.toInt_inj.mp e.symm)
      · exact fun e => of_decide_eq_false (hg ((0, .int 1, .arg 60032), false) (List.mem_of_getElem? (i := 1) rfl)) (Int32.toInt_inj.mp e.symm)
      · exact fun e => of_decide_eq_false (hg ((0, .int 2, .arg 60032), false) (List.mem_of_getElem? (i := 2) rfl)) (Int32.toInt_inj.mp e.symm)))
noncomputable def q_fm63 : sCut := ((fr 0 425 0 [(0, .long 0)] [], [fBot], 1), (fr 0 239 0 [(0, tr 219), (1, .arg 60000), (2, .arg 60032)] [], [fBot], 1), [((0, .arg 60000, .int 24730), true)], [([((0, .int 0, .arg 60032), true)], (109, .add (.arg 60000) (.arg 60032), .int 146), true), ([((0, .int 0, .arg 60032), false)], (109, .add (.arg 60000) (.arg 60032), .int (-2)), true)])
theorem k_fm63 : cbody kR [] (cpl1 zWP c_fndm []) (cpl2 zWP c_fndm []) (cleafS kR zWP c_fndm w_sl0) 400 true true q_fm63.2.2.1 q_fm63.2.2.2 (cst zWP c_fndm.2.2.1.1 q_fm63.1) (cst zWP c_fndm.2.2.1.2 q_fm63.2.1) = true := by decide +kernel
theorem i_fm63 {X : pX} {ρ : sR} (h : ρ.1 60000 = 24730) : iok X ρ q_fm63.2.2.2 := by
  have e : (ρ.1 60000).toInt = 24730 := by rw [h]; rfl
  intro q hq
  simp only [q_fm63, List.mem_cons, List.not_mem_nil, or_false] at hq
  rcases hq with rfl | rfl
  · intro hg
    have g : (0 : Int32) = ρ.1 60032 := of_decide_eq_true (hg _ List.mem_cons_self)
    exact fm_n (by rw [e, ← g]; exact sl_here (p := 146) (by decide) (by decide) (by decide) (by decide) (by decide) (by decide +kernel))
  · intro hg
    exact fm_n (by rw [e]; exact fm_two (subs := [0]) (by decide) (by decide) (p := 146) (by decide) (by decide +kernel) (by decide +kernel) (fun s hs => by
      simp only [List.mem_cons, List.not_mem_nil, or_false] at hs
      rcases hs with rfl
      · exact fun e => of_decide_eq_false (hg ((0, .int 0, .arg 60032), false) (List.mem_of_getElem? (i := 0) rfl)) (Int32.toInt_inj.mp e.symm)))
noncomputable def q_fm64 : sCut := ((fr 0 425 0 [(0, .long 0)] [], [fBot], 1), (fr 0 239 0 [(0, tr 219), (1, .arg 60000), (2, .arg 60032)] [], [fBot], 1), [((0, .arg 60000, .int 24760), true)], [([((0, .int 0, .arg 60032), true)], (109, .add (.arg 60000) (.arg 60032), .int 147), true), ([((0, .int 0, .arg 60032), false)], (109, .add (.arg 60000) (.arg 60032), .int (-2)), true)])
theorem k_fm64 : cbody kR [] (cpl1 zWP c_fndm []) (cpl2 zWP c_fndm []) (cleafS kR zWP c_fndm w_sl0) 400 true true q_fm64.2.2.1 q_fm64.2.2.2 (cst zWP c_fndm.2.2.1.1 q_fm64.1) (cst zWP c_fndm.2.2.1.2 q_fm64.2.1) = true := by decide +kernel
theorem i_fm64 {X : pX} {ρ : sR} (h : ρ.1 60000 = 24760) : iok X ρ q_fm64.2.2.2 := by
  have e : (ρ.1 60000).toInt = 24760 := by rw [h]; rfl
  intro q hq
  simp only [q_fm64, List.mem_cons, List.not_mem_nil, or_false] at hq
  rcases hq with rfl | rfl
  · intro hg
    have g : (0 : Int32) = ρ.1 60032 := of_decide_eq_true (hg _ List.mem_cons_self)
    exact fm_n (by rw [e, ← g]; exact sl_here (p := 147) (by decide) (by decide) (by decide) (by decide) (by decide) (by decide +kernel))
  · intro hg
    exact fm_n (by rw [e]; exact fm_two (subs := [0]) (by decide) (by decide) (p := 147) (by decide) (by decide +kernel) (by decide +kernel) (fun s hs => by
      simp only [List.mem_cons, List.not_mem_nil, or_false] at hs
      rcases hs with rfl
      · exact fun e => of_decide_eq_false (hg ((0, .int 0, .arg 60032), false) (List.mem_of_getElem? (i := 0) rfl)) (Int32.toInt_inj.mp e.symm)))
noncomputable def q_fm65 : sCut := ((fr 0 425 0 [(0, .long 0)] [], [fBot], 1), (fr 0 239 0 [(0, tr 219), (1, .arg 60000), (2, .arg 60032)] [], [fBot], 1), [((0, .arg 60000, .int 24761), true)], [([((0, .int 0, .arg 60032), true)], (109, .add (.arg 60000) (.arg 60032), .int 148), true), ([((0, .int 0, .arg 60032), false)], (109, .add (.arg 60000) (.arg 60032), .int (-2)), true)])
theorem k_fm65 : cbody kR [] (cpl1 zWP c_fndm []) (cpl2 zWP c_fndm []) (cleafS kR zWP c_fndm w_sl0) 400 true true q_fm65.2.2.1 q_fm65.2.2.2 (cst zWP c_fndm.2.2.1.1 q_fm65.1) (cst zWP c_fndm.2.2.1.2 q_fm65.2.1) = true := by decide +kernel
theorem i_fm65 {X : pX} {ρ : sR} (h : ρ.1 60000 = 24761) : iok X ρ q_fm65.2.2.2 := by
  have e : (ρ.1 60000).toInt = 24761 := by rw [h]; rfl
  intro q hq
  simp only [q_fm65, List.mem_cons, List.not_mem_nil, or_false] at hq
  rcases hq with rfl | rfl
  · intro hg
    have g : (0 : Int32) = ρ.1 60032 := of_decide_eq_true (hg _ List.mem_cons_self)
    exact fm_n (by rw [e, ← g]; exact sl_here (p := 148) (by decide) (by decide) (by decide) (by decide) (by decide) (by decide +kernel))
  · intro hg
    exact fm_n (by rw [e]; exact fm_two (subs := [0]) (by decide) (by decide) (p := 148) (by decide) (by decide +kernel) (by decide +kernel) (fun s hs => by
      simp only [List.mem_cons, List.not_mem_nil, or_false] at hs
      rcases hs with rfl
      · exact fun e => of_decide_eq_false (hg ((0, .int 0, .arg 60032), false) (List.mem_of_getElem? (i := 0) rfl)) (Int32.toInt_inj.mp e.symm)))
noncomputable def q_fm66 : sCut := ((fr 0 425 0 [(0, .long 0)] [], [fBot], 1), (fr 0 239 0 [(0, tr 219), (1, .arg 60000), (2, .arg 60032)] [], [fBot], 1), [((0, .arg 60000, .int 24762), true)], [([((0, .int 0, .arg 60032), true)], (109, .add (.arg 60000) (.arg 60032), .int 149), true), ([((0, .int 0, .arg 60032), false)], (109, .add (.arg 60000) (.arg 60032), .int (-2)), true)])
theorem k_fm66 : cbody kR [] (cpl1 zWP c_fndm []) (cpl2 zWP c_fndm []) (cleafS kR zWP c_fndm w_sl0) 400 true true q_fm66.2.2.1 q_fm66.2.2.2 (cst zWP c_fndm.2.2.1.1 q_fm66.1) (cst zWP c_fndm.2.2.1.2 q_fm66.2.1) = true := by decide +kernel
theorem i_fm66 {X : pX} {ρ : sR} (h : ρ.1 60000 = 24762) : iok X ρ q_fm66.2.2.2 := by
  have e : (ρ.1 60000).toInt = 24762 := by rw [h]; rfl
  intro q hq
  simp only [q_fm66, List.mem_cons, List.not_mem_nil, or_false] at hq
  rcases hq with rfl | rfl
  · intro hg
    have g : (0 : Int32) = ρ.1 60032 := of_decide_eq_true (hg _ List.mem_cons_self)
    exact fm_n (by rw [e, ← g]; exact sl_here (p := 149) (by decide) (by decide) (by decide) (by decide) (by decide) (by decide +kernel))
  · intro hg
    exact fm_n (by rw [e]; exact fm_two (subs := [0]) (by decide) (by decide) (p := 149) (by decide) (by decide +kernel) (by decide +kernel) (fun s hs => by
      simp only [List.mem_cons, List.not_mem_nil, or_false] at hs
      rcases hs with rfl
      · exact fun e => of_decide_eq_false (hg ((0, .int 0, .arg 60032), false) (List.mem_of_getElem? (i := 0) rfl)) (Int32.toInt_inj.mp e.symm)))
noncomputable def q_fm67 : sCut := ((fr 0 425 0 [(0, .long 0)] [], [fBot], 1), (fr 0 239 0 [(0, tr 219), (1, .arg 60000), (2, .arg 60032)] [], [fBot], 1), [((0, .arg 60000, .int 24763), true)], [([((0, .int 0, .arg 60032), true)], (109, .add (.arg 60000) (.arg 60032), .int 150), true), ([((0, .int 0, .arg 60032), false)], (109, .add (.arg 60000) (.arg 60032), .int (-2)), true)])
theorem k_fm67 : cbody kR [] (cpl1 zWP c_fndm []) (cpl2 zWP c_fndm []) (cleafS kR zWP c_fndm w_sl0) 400 true true q_fm67.2.2.1 q_fm67.2.2.2 (cst zWP c_fndm.2.2.1.1 q_fm67.1) (cst zWP c_fndm.2.2.1.2 q_fm67.2.1) = true := by decide +kernel
theorem i_fm67 {X : pX} {ρ : sR} (h : ρ.1 60000 = 24763) : iok X ρ q_fm67.2.2.2 := by
  have e : (ρ.1 60000).toInt = 24763 := by rw [h]; rfl
  intro q hq
  simp only [q_fm67, List.mem_cons, List.not_mem_nil, or_false] at hq
  rcases hq with rfl | rfl
  · intro hg
    have g : (0 : Int32) = ρ.1 60032 := of_decide_eq_true (hg _ List.mem_cons_self)
    exact fm_n (by rw [e, ← g]; exact sl_here (p := 150) (by decide) (by decide) (by decide) (by decide) (by decide) (by decide +kernel))
  · intro hg
    exact fm_n (by rw [e]; exact fm_two (subs := [0]) (by decide) (by decide) (p := 150) (by decide) (by decide +kernel) (by decide +kernel) (fun s hs => by
      simp only [List.mem_cons, List.not_mem_nil, or_false] at hs
      rcases hs with rfl
      · exact fun e => of_decide_eq_false (hg ((0, .int 0, .arg 60032), false) (List.mem_of_getElem? (i := 0) rfl)) (Int32.toInt_inj.mp e.symm)))
noncomputable def q_fm68 : sCut := ((fr 0 425 0 [(0, .long 0)] [], [fBot], 1), (fr 0 239 0 [(0, tr 219), (1, .arg 60000), (2, .arg 60032)] [], [fBot], 1), [((0, .arg 60000, .int 24829), true)], [([((0, .int 0, .arg 60032), true)], (109, .add (.arg 60000) (.arg 60032), .int 151), true), ([((0, .int 0, .arg 60032), false)], (109, .add (.arg 60000) (.arg 60032), .int (-2)), true)])
theorem k_fm68 : cbody kR [] (cpl1 zWP c_fndm []) (cpl2 zWP c_fndm []) (cleafS kR zWP c_fndm w_sl0) 400 true true q_fm68.2.2.1 q_fm68.2.2.2 (cst zWP c_fndm.2.2.1.1 q_fm68.1) (cst zWP c_fndm.2.2.1.2 q_fm68.2.1) = true := by decide +kernel
theorem i_fm68 {X : pX} {ρ : sR} (h : ρ.1 60000 = 24829) : iok X ρ q_fm68.2.2.2 := by
  have e : (ρ.1 60000).toInt = 24829 := by rw [h]; rfl
  intro q hq
  simp only [q_fm68, List.mem_cons, List.not_mem_nil, or_false] at hq
  rcases hq with rfl | rfl
  · intro hg
    have g : (0 : Int32) = ρ.1 60032 := of_decide_eq_true (hg _ List.mem_cons_self)
    exact fm_n (by rw [e, ← g]; exact sl_here (p := 151) (by decide) (by decide) (by decide) (by decide) (by decide) (by decide +kernel))
  · intro hg
    exact fm_n (by rw [e]; exact fm_two (subs := [0]) (by decide) (by decide) (p := 151) (by decide) (by decide +kernel) (by decide +kernel) (fun s hs => by
      simp only [List.mem_cons, List.not_mem_nil, or_false] at hs
      rcases hs with rfl
      · exact fun e => of_decide_eq_false (hg ((0, .int 0, .arg 60032), false) (List.mem_of_getElem? (i := 0) rfl)) (Int32.toInt_inj.mp e.symm)))
noncomputable def q_fm69 : sCut := ((fr 0 425 0 [(0, .long 0)] [], [fBot], 1), (fr 0 239 0 [(0, tr 219), (1, .arg 60000), (2, .arg 60032)] [], [fBot], 1), [((0, .arg 60000, .int 24830), true)], [([((0, .int 0, .arg 60032), true)], (109, .add (.arg 60000) (.arg 60032), .int 152), true), ([((0, .int 1, .arg 60032), true)], (109, .add (.arg 60000) (.arg 60032), .int 153), true), ([((0, .int 0, .arg 60032), false), ((0, .int 1, .arg 60032), false)], (109, .add (.arg 60000) (.arg 60032), .int (-2)), true)])
theorem k_fm69 : cbody kR [] (cpl1 zWP c_fndm []) (cpl2 zWP c_fndm []) (cleafS kR zWP c_fndm w_sl0) 400 true true q_fm69.2.2.1 q_fm69.2.2.2 (cst zWP c_fndm.2.2.1.1 q_fm69.1) (cst zWP c_fndm.2.2.1.2 q_fm69.2.1) = true := by decide +kernel
theorem i_fm69 {X : pX} {ρ : sR} (h : ρ.1 60000 = 24830) : iok X ρ q_fm69.2.2.2 := by
  have e : (ρ.1 60000).toInt = 24830 := by rw [h]; rfl
  intro q hq
  simp only [q_fm69, List.mem_cons, List.not_mem_nil, or_false] at hq
  rcases hq with rfl | rfl | rfl
  · intro hg
    have g : (0 : Int32) = ρ.1 60032 := of_decide_eq_true (hg _ List.mem_cons_self)
    exact fm_n (by rw [e, ← g]; exact sl_here (p := 152) (by decide) (by decide) (by decide) (by decide) (by decide) (by decide +kernel))
  · intro hg
    have g : (1 : Int32) = ρ.1 60032 := of_decide_eq_true (hg _ List.mem_cons_self)
    exact fm_n (by rw [e, ← g]; exact sl_here (p := 153) (by decide) (by decide) (by decide) (by decide) (by decide) (by decide +kernel))
  · intro hg
    exact fm_n (by rw [e]; exact fm_two (subs := [0, 1]) (by decide) (by decide) (p := 152) (by decide) (by decide +kernel) (by decide +kernel) (fun s hs => by
      simp only [List.mem_cons, List.not_mem_nil, or_false] at hs
      rcases hs with rfl | rfl
      · exact fun e => of_decide_eq_false (hg ((0, .int 0, .arg 60032), false) (List.mem_of_getElem? (i := 0) rfl)) (Int32.toInt_inj.mp e.symm)
      · exact fun e => of_decide_eq_false (hg ((0, .int 1, .arg 60032), false) (List.mem_of_getElem? (i := 1) rfl)) (Int32.toInt_inj.mp e.symm)))
noncomputable def q_fm70 : sCut := ((fr 0 425 0 [(0, .long 0)] [], [fBot], 1), (fr 0 239 0 [(0, tr 219), (1, .arg 60000), (2, .arg 60032)] [], [fBot], 1), [((0, .arg 60000, .int 24831), true)], [([((0, .int 0, .arg 60032), true)], (109, .add (.arg 60000) (.arg 60032), .int 154), true), ([((0, .int 0, .arg 60032), false)], (109, .add (.arg 60000) (.arg 60032), .int (-2)), true)])
theorem k_fm70 : cbody kR [] (cpl1 zWP c_fndm []) (cpl2 zWP c_fndm []) (cleafS kR zWP c_fndm w_sl0) 400 true true q_fm70.2.2.1 q_fm70.2.2.2 (cst zWP c_fndm.2.2.1.1 q_fm70.1) (cst zWP c_fndm.2.2.1.2 q_fm70.2.1) = true := by decide +kernel
theorem i_fm70 {X : pX} {ρ : sR} (h : ρ.1 60000 = 24831) : iok X ρ q_fm70.2.2.2 := by
  have e : (ρ.1 60000).toInt = 24831 := by rw [h]; rfl
  intro q hq
  simp only [q_fm70, List.mem_cons, List.not_mem_nil, or_false] at hq
  rcases hq with rfl | rfl
  · intro hg
    have g : (0 : Int32) = ρ.1 60032 := of_decide_eq_true (hg _ List.mem_cons_self)
    exact fm_n (by rw [e, ← g]; exact sl_here (p := 154) (by decide) (by decide) (by decide) (by decide) (by decide) (by decide +kernel))
  · intro hg
    exact fm_n (by rw [e]; exact fm_two (subs := [0]) (by decide) (by decide) (p := 154) (by decide) (by decide +kernel) (by decide +kernel) (fun s hs => by
      simp only [List.mem_cons, List.not_mem_nil, or_false] at hs
      rcases hs with rfl
      · exact fun e => of_decide_eq_false (hg ((0, .int 0, .arg 60032), false) (List.mem_of_getElem? (i := 0) rfl)) (Int32.toInt_inj.mp e.symm)))
noncomputable def q_fm71 : sCut := ((fr 0 425 0 [(0, .long 0)] [], [fBot], 1), (fr 0 239 0 [(0, tr 219), (1, .arg 60000), (2, .arg 60032)] [], [fBot], 1), [((0, .arg 60000, .int 25858), true)], [([((0, .int 0, .arg 60032), true)], (109, .add (.arg 60000) (.arg 60032), .int 155), true), ([((0, .int 0, .arg 60032), false)], (109, .add (.arg 60000) (.arg 60032), .int (-2)), true)])
theorem k_fm71 : cbody kR [] (cpl1 zWP c_fndm []) (cpl2 zWP c_fndm []) (cleafS kR zWP c_fndm w_sl0) 400 true true q_fm71.2.2.1 q_fm71.2.2.2 (cst zWP c_fndm.2.2.1.1 q_fm71.1) (cst zWP c_fndm.2.2.1.2 q_fm71.2.1) = true := by decide +kernel
theorem i_fm71 {X : pX} {ρ : sR} (h : ρ.1 60000 = 25858) : iok X ρ q_fm71.2.2.2 := by
  have e : (ρ.1 60000).toInt = 25858 := by rw [h]; rfl
  intro q hq
  simp only [q_fm71, List.mem_cons, List.not_mem_nil, or_false] at hq
  rcases hq with rfl | rfl
  · intro hg
    have g : (0 : Int32) = ρ.1 60032 := of_decide_eq_true (hg _ List.mem_cons_self)
    exact fm_n (by rw [e, ← g]; exact sl_here (p := 155) (by decide) (by decide) (by decide) (by decide) (by decide) (by decide +kernel))
  · intro hg
    exact fm_n (by rw [e]; exact fm_two (subs := [0]) (by decide) (by decide) (p := 155) (by decide) (by decide +kernel) (by decide +kernel) (fun s hs => by
      simp only [List.mem_cons, List.not_mem_nil, or_false] at hs
      rcases hs with rfl
      · exact fun e => of_decide_eq_false (hg ((0, .int 0, .arg 60032), false) (List.mem_of_getElem? (i := 0) rfl)) (Int32.toInt_inj.mp e.symm)))
noncomputable def q_fmN : sCut := ((fr 0 425 0 [(0, .long 0)] [], [fBot], 1), (fr 0 239 0 [(0, tr 219), (1, .arg 60000), (2, .arg 60032)] [], [fBot], 1), [((109, .add (.arg 60000) (.arg 60032), .int (-1)), true), ((0, .arg 60000, .int 4096), false), ((0, .arg 60000, .int 4097), false), ((0, .arg 60000, .int 4099), false), ((0, .arg 60000, .int 4101), false), ((0, .arg 60000, .int 4102), false), ((0, .arg 60000, .int 4104), false), ((0, .arg 60000, .int 4112), false), ((0, .arg 60000, .int 4113), false), ((0, .arg 60000, .int 4116), false), ((0, .arg 60000, .int 4117), false), ((0, .arg 60000, .int 4118), false), ((0, .arg 60000, .int 4119), false), ((0, .arg 60000, .int 4120), false), ((0, .arg 60000, .int 4137), false), ((0, .arg 60000, .int 4608), false), ((0, .arg 60000, .int 5120), false), ((0, .arg 60000, .int 5121), false), ((0, .arg 60000, .int 5122), false), ((0, .arg 60000, .int 5123), false), ((0, .arg 60000, .int 5632), false), ((0, .arg 60000, .int 5633), false), ((0, .arg 60000, .int 5634), false), ((0, .arg 60000, .int 5635), false), ((0, .arg 60000, .int 6144), false), ((0, .arg 60000, .int 6145), false), ((0, .arg 60000, .int 6146), false), ((0, .arg 60000, .int 6147), false), ((0, .arg 60000, .int 6656), false), ((0, .arg 60000, .int 6657), false), ((0, .arg 60000, .int 6658), false), ((0, .arg 60000, .int 6659), false), ((0, .arg 60000, .int 8192), false), ((0, .arg 60000, .int 8208), false), ((0, .arg 60000, .int 8209), false), ((0, .arg 60000, .int 8210), false), ((0, .arg 60000, .int 24639), false), ((0, .arg 60000, .int 24640), false), ((0, .arg 60000, .int 24641), false), ((0, .arg 60000, .int 24666), false), ((0, .arg 60000, .int 24667), false), ((0, .arg 60000, .int 24668), false), ((0, .arg 60000, .int 24669), false), ((0, .arg 60000, .int 24670), false), ((0, .arg 60000, .int 24672), false), ((0, .arg 60000, .int 24673), false), ((0, .arg 60000, .int 24674), false), ((0, .arg 60000, .int 24676), false), ((0, .arg 60000, .int 24677), false), ((0, .arg 60000, .int 24678), false), ((0, .arg 60000, .int 24679), false), ((0, .arg 60000, .int 24680), false), ((0, .arg 60000, .int 24683), false), ((0, .arg 60000, .int 24684), false), ((0, .arg 60000, .int 24698), false), ((0, .arg 60000, .int 24700), false), ((0, .arg 60000, .int 24701), false), ((0, .arg 60000, .int 24703), false), ((0, .arg 60000, .int 24705), false), ((0, .arg 60000, .int 24707), false), ((0, .arg 60000, .int 24708), false), ((0, .arg 60000, .int 24709), false), ((0, .arg 60000, .int 24728), false), ((0, .arg 60000, .int 24729), false), ((0, .arg 60000, .int 24730), false), ((0, .arg 60000, .int 24760), false), ((0, .arg 60000, .int 24761), false), ((0, .arg 60000, .int 24762), false), ((0, .arg 60000, .int 24763), false), ((0, .arg 60000, .int 24829), false), ((0, .arg 60000, .int 24830), false), ((0, .arg 60000, .int 24831), false), ((0, .arg 60000, .int 25858), false), ((2, .arg 60000, .int 0), false), ((2, .int 65535, .arg 60000), false)], [])
theorem k_fmN : cbody kR [] (cpl1 zWP c_fndm []) (cpl2 zWP c_fndm []) (cleafS kR zWP c_fndm w_sl0) 400 true true q_fmN.2.2.1 q_fmN.2.2.2 (cst zWP c_fndm.2.2.1.1 q_fmN.1) (cst zWP c_fndm.2.2.1.2 q_fmN.2.1) = true := by decide +kernel
theorem t_fm {X : pX} {ρ0 : sR} (hv : vok X ρ0) : CUTOK X kR zWP c_fndm 1 ρ0 q_fm := CUTOK_AT (fun ρ k1 k2 k3 k4 => by
  have kn : fok X ρ [] := ⟨k2.1, fun f hf => by cases hf⟩
  by_cases h0 : ρ.1 60000 = 4096
  · exact AT_of (q := q_fm0) rfl rfl (SEM_run kR_x kR_0 (Cs := []) (fun C hC => by cases hC) c_fndm_f (Q := w_sl0) hv 400 (b1 := true) (b2 := true) k_fm0 k1 (fkc (decide_eq_true h0) kn) (i_fm0 h0) k4 (fun p hp => by cases hp))
  by_cases h1 : ρ.1 60000 = 4097
  · exact AT_of (q := q_fm1) rfl rfl (SEM_run kR_x kR_0 (Cs := []) (fun C hC => by cases hC) c_fndm_f (Q := w_sl0) hv 400 (b1 := true) (b2 := true) k_fm1 k1 (fkc (decide_eq_true h1) kn) (i_fm1 h1) k4 (fun p hp => by cases hp))
  by_cases h2 : ρ.1 60000 = 4099
  · exact AT_of (q := q_fm2) rfl rfl (SEM_run kR_x kR_0 (Cs := []) (fun C hC => by cases hC) c_fndm_f (Q := w_sl0) hv 400 (b1 := true) (b2 := true) k_fm2 k1 (fkc (decide_eq_true h2) kn) (i_fm2 h2) k4 (fun p hp => by cases hp))
  by_cases h3 : ρ.1 60000 = 4101
  · exact AT_of (q := q_fm3) rfl rfl (SEM_run kR_x kR_0 (Cs := []) (fun C hC => by cases hC) c_fndm_f (Q := w_sl0) hv 400 (b1 := true) (b2 := true) k_fm3 k1 (fkc (decide_eq_true h3) kn) (i_fm3 h3) k4 (fun p hp => by cases hp))
  by_cases h4 : ρ.1 60000 = 4102
  · exact AT_of (q := q_fm4) rfl rfl (SEM_run kR_x kR_0 (Cs := []) (fun C hC => by cases hC) c_fndm_f (Q := w_sl0) hv 400 (b1 := true) (b2 := true) k_fm4 k1 (fkc (decide_eq_true h4) kn) (i_fm4 h4) k4 (fun p hp => by cases hp))
  by_cases h5 : ρ.1 60000 = 4104
  · exact AT_of (q := q_fm5) rfl rfl (SEM_run kR_x kR_0 (Cs := []) (fun C hC => by cases hC) c_fndm_f (Q := w_sl0) hv 400 (b1 := true) (b2 := true) k_fm5 k1 (fkc (decide_eq_true h5) kn) (i_fm5 h5) k4 (fun p hp => by cases hp))
  by_cases h6 : ρ.1 60000 = 4112
  · exact AT_of (q := q_fm6) rfl rfl (SEM_run kR_x kR_0 (Cs := []) (fun C hC => by cases hC) c_fndm_f (Q := w_sl0) hv 400 (b1 := true) (b2 := true) k_fm6 k1 (fkc (decide_eq_true h6) kn) (i_fm6 h6) k4 (fun p hp => by cases hp))
  by_cases h7 : ρ.1 60000 = 4113
  · exact AT_of (q := q_fm7) rfl rfl (SEM_run kR_x kR_0 (Cs := []) (fun C hC => by cases hC) c_fndm_f (Q := w_sl0) hv 400 (b1 := true) (b2 := true) k_fm7 k1 (fkc (decide_eq_true h7) kn) (i_fm7 h7) k4 (fun p hp => by cases hp))
  by_cases h8 : ρ.1 60000 = 4116
  · exact AT_of (q := q_fm8) rfl rfl (SEM_run kR_x kR_0 (Cs := []) (fun C hC => by cases hC) c_fndm_f (Q := w_sl0) hv 400 (b1 := true) (b2 := true) k_fm8 k1 (fkc (decide_eq_true h8) kn) (i_fm8 h8) k4 (fun p hp => by cases hp))
  by_cases h9 : ρ.1 60000 = 4117
  · exact AT_of (q := q_fm9) rfl rfl (SEM_run kR_x kR_0 (Cs := []) (fun C hC => by cases hC) c_fndm_f (Q := w_sl0) hv 400 (b1 := true) (b2 := true) k_fm9 k1 (fkc (decide_eq_true h9) kn) (i_fm9 h9) k4 (fun p hp => by cases hp))
  by_cases h10 : ρ.1 60000 = 4118
  · exact AT_of (q := q_fm10) rfl rfl (SEM_run kR_x kR_0 (Cs := []) (fun C hC => by cases hC) c_fndm_f (Q := w_sl0) hv 400 (b1 := true) (b2 := true) k_fm10 k1 (fkc (decide_eq_true h10) kn) (i_fm10 h10) k4 (fun p hp => by cases hp))
  by_cases h11 : ρ.1 60000 = 4119
  · exact AT_of (q := q_fm11) rfl rfl (SEM_run kR_x kR_0 (Cs := []) (fun C hC => by cases hC) c_fndm_f (Q := w_sl0) hv 400 (b1 := true) (b2 := true) k_fm11 k1 (fkc (decide_eq_true h11) kn) (i_fm11 h11) k4 (fun p hp => by cases hp))
  by_cases h12 : ρ.1 60000 = 4120
  · exact AT_of (q := q_fm12) rfl rfl (SEM_run kR_x kR_0 (Cs := []) (fun C hC => by cases hC) c_fndm_f (Q := w_sl0) hv 400 (b1 := true) (b2 := true) k_fm12 k1 (fkc (decide_eq_true h12) kn) (i_fm12 h12) k4 (fun p hp => by cases hp))
  by_cases h13 : ρ.1 60000 = 4137
  · exact AT_of (q := q_fm13) rfl rfl (SEM_run kR_x kR_0 (Cs := []) (fun C hC => by cases hC) c_fndm_f (Q := w_sl0) hv 400 (b1 := true) (b2 := true) k_fm13 k1 (fkc (decide_eq_true h13) kn) (i_fm13 h13) k4 (fun p hp => by cases hp))
  by_cases h14 : ρ.1 60000 = 4608
  · exact AT_of (q := q_fm14) rfl rfl (SEM_run kR_x kR_0 (Cs := []) (fun C hC => by cases hC) c_fndm_f (Q := w_sl0) hv 400 (b1 := true) (b2 := true) k_fm14 k1 (fkc (decide_eq_true h14) kn) (i_fm14 h14) k4 (fun p hp => by cases hp))
  by_cases h15 : ρ.1 60000 = 5120
  · exact AT_of (q := q_fm15) rfl rfl (SEM_run kR_x kR_0 (Cs := []) (fun C hC => by cases hC) c_fndm_f (Q := w_sl0) hv 400 (b1 := true) (b2 := true) k_fm15 k1 (fkc (decide_eq_true h15) kn) (i_fm15 h15) k4 (fun p hp => by cases hp))
  by_cases h16 : ρ.1 60000 = 5121
  · exact AT_of (q := q_fm16) rfl rfl (SEM_run kR_x kR_0 (Cs := []) (fun C hC => by cases hC) c_fndm_f (Q := w_sl0) hv 400 (b1 := true) (b2 := true) k_fm16 k1 (fkc (decide_eq_true h16) kn) (i_fm16 h16) k4 (fun p hp => by cases hp))
  by_cases h17 : ρ.1 60000 = 5122
  · exact AT_of (q := q_fm17) rfl rfl (SEM_run kR_x kR_0 (Cs := []) (fun C hC => by cases hC) c_fndm_f (Q := w_sl0) hv 400 (b1 := true) (b2 := true) k_fm17 k1 (fkc (decide_eq_true h17) kn) (i_fm17 h17) k4 (fun p hp => by cases hp))
  by_cases h18 : ρ.1 60000 = 5123
  · exact AT_of (q := q_fm18) rfl rfl (SEM_run kR_x kR_0 (Cs := []) (fun C hC => by cases hC) c_fndm_f (Q := w_sl0) hv 400 (b1 := true) (b2 := true) k_fm18 k1 (fkc (decide_eq_true h18) kn) (i_fm18 h18) k4 (fun p hp => by cases hp))
  by_cases h19 : ρ.1 60000 = 5632
  · exact AT_of (q := q_fm19) rfl rfl (SEM_run kR_x kR_0 (Cs := []) (fun C hC => by cases hC) c_fndm_f (Q := w_sl0) hv 400 (b1 := true) (b2 := true) k_fm19 k1 (fkc (decide_eq_true h19) kn) (i_fm19 h19) k4 (fun p hp => by cases hp))
  by_cases h20 : ρ.1 60000 = 5633
  · exact AT_of (q := q_fm20) rfl rfl (SEM_run kR_x kR_0 (Cs := []) (fun C hC => by cases hC) c_fndm_f (Q := w_sl0) hv 400 (b1 := true) (b2 := true) k_fm20 k1 (fkc (decide_eq_true h20) kn) (i_fm20 h20) k4 (fun p hp => by cases hp))
  by_cases h21 : ρ.1 60000 = 5634
  · exact AT_of (q := q_fm21) rfl rfl (SEM_run kR_x kR_0 (Cs := []) (fun C hC => by cases hC) c_fndm_f (Q := w_sl0) hv 400 (b1 := true) (b2 := true) k_fm21 k1 (fkc (decide_eq_true h21) kn) (i_fm21 h21) k4 (fun p hp => by cases hp))
  by_cases h22 : ρ.1 60000 = 5635
  · exact AT_of (q := q_fm22) rfl rfl (SEM_run kR_x kR_0 (Cs := []) (fun C hC => by cases hC) c_fndm_f (Q := w_sl0) hv 400 (b1 := true) (b2 := true) k_fm22 k1 (fkc (decide_eq_true h22) kn) (i_fm22 h22) k4 (fun p hp => by cases hp))
  by_cases h23 : ρ.1 60000 = 6144
  · exact AT_of (q := q_fm23) rfl rfl (SEM_run kR_x kR_0 (Cs := []) (fun C hC => by cases hC) c_fndm_f (Q := w_sl0) hv 400 (b1 := true) (b2 := true) k_fm23 k1 (fkc (decide_eq_true h23) kn) (i_fm23 h23) k4 (fun p hp => by cases hp))
  by_cases h24 : ρ.1 60000 = 6145
  · exact AT_of (q := q_fm24) rfl rfl (SEM_run kR_x kR_0 (Cs := []) (fun C hC => by cases hC) c_fndm_f (Q := w_sl0) hv 400 (b1 := true) (b2 := true) k_fm24 k1 (fkc (decide_eq_true h24) kn) (i_fm24 h24) k4 (fun p hp => by cases hp))
  by_cases h25 : ρ.1 60000 = 6146
  · exact AT_of (q := q_fm25) rfl rfl (SEM_run kR_x kR_0 (Cs := []) (fun C hC => by cases hC) c_fndm_f (Q := w_sl0) hv 400 (b1 := true) (b2 := true) k_fm25 k1 (fkc (decide_eq_true h25) kn) (i_fm25 h25) k4 (fun p hp => by cases hp))
  by_cases h26 : ρ.1 60000 = 6147
  · exact AT_of (q := q_fm26) rfl rfl (SEM_run kR_x kR_0 (Cs := []) (fun C hC => by cases hC) c_fndm_f (Q := w_sl0) hv 400 (b1 := true) (b2 := true) k_fm26 k1 (fkc (decide_eq_true h26) kn) (i_fm26 h26) k4 (fun p hp => by cases hp))
  by_cases h27 : ρ.1 60000 = 6656
  · exact AT_of (q := q_fm27) rfl rfl (SEM_run kR_x kR_0 (Cs := []) (fun C hC => by cases hC) c_fndm_f (Q := w_sl0) hv 400 (b1 := true) (b2 := true) k_fm27 k1 (fkc (decide_eq_true h27) kn) (i_fm27 h27) k4 (fun p hp => by cases hp))
  by_cases h28 : ρ.1 60000 = 6657
  · exact AT_of (q := q_fm28) rfl rfl (SEM_run kR_x kR_0 (Cs := []) (fun C hC => by cases hC) c_fndm_f (Q := w_sl0) hv 400 (b1 := true) (b2 := true) k_fm28 k1 (fkc (decide_eq_true h28) kn) (i_fm28 h28) k4 (fun p hp => by cases hp))
  by_cases h29 : ρ.1 60000 = 6658
  · exact AT_of (q := q_fm29) rfl rfl (SEM_run kR_x kR_0 (Cs := []) (fun C hC => by cases hC) c_fndm_f (Q := w_sl0) hv 400 (b1 := true) (b2 := true) k_fm29 k1 (fkc (decide_eq_true h29) kn) (i_fm29 h29) k4 (fun p hp => by cases hp))
  by_cases h30 : ρ.1 60000 = 6659
  · exact AT_of (q := q_fm30) rfl rfl (SEM_run kR_x kR_0 (Cs := []) (fun C hC => by cases hC) c_fndm_f (Q := w_sl0) hv 400 (b1 := true) (b2 := true) k_fm30 k1 (fkc (decide_eq_true h30) kn) (i_fm30 h30) k4 (fun p hp => by cases hp))
  by_cases h31 : ρ.1 60000 = 8192
  · exact AT_of (q := q_fm31) rfl rfl (SEM_run kR_x kR_0 (Cs := []) (fun C hC => by cases hC) c_fndm_f (Q := w_sl0) hv 400 (b1 := true) (b2 := true) k_fm31 k1 (fkc (decide_eq_true h31) kn) (i_fm31 h31) k4 (fun p hp => by cases hp))
  by_cases h32 : ρ.1 60000 = 8208
  · exact AT_of (q := q_fm32) rfl rfl (SEM_run kR_x kR_0 (Cs := []) (fun C hC => by cases hC) c_fndm_f (Q := w_sl0) hv 400 (b1 := true) (b2 := true) k_fm32 k1 (fkc (decide_eq_true h32) kn) (i_fm32 h32) k4 (fun p hp => by cases hp))
  by_cases h33 : ρ.1 60000 = 8209
  · exact AT_of (q := q_fm33) rfl rfl (SEM_run kR_x kR_0 (Cs := []) (fun C hC => by cases hC) c_fndm_f (Q := w_sl0) hv 400 (b1 := true) (b2 := true) k_fm33 k1 (fkc (decide_eq_true h33) kn) (i_fm33 h33) k4 (fun p hp => by cases hp))
  by_cases h34 : ρ.1 60000 = 8210
  · exact AT_of (q := q_fm34) rfl rfl (SEM_run kR_x kR_0 (Cs := []) (fun C hC => by cases hC) c_fndm_f (Q := w_sl0) hv 400 (b1 := true) (b2 := true) k_fm34 k1 (fkc (decide_eq_true h34) kn) (i_fm34 h34) k4 (fun p hp => by cases hp))
  by_cases h35 : ρ.1 60000 = 24639
  · exact AT_of (q := q_fm35) rfl rfl (SEM_run kR_x kR_0 (Cs := []) (fun C hC => by cases hC) c_fndm_f (Q := w_sl0) hv 400 (b1 := true) (b2 := true) k_fm35 k1 (fkc (decide_eq_true h35) kn) (i_fm35 h35) k4 (fun p hp => by cases hp))
  by_cases h36 : ρ.1 60000 = 24640
  · exact AT_of (q := q_fm36) rfl rfl (SEM_run kR_x kR_0 (Cs := []) (fun C hC => by cases hC) c_fndm_f (Q := w_sl0) hv 400 (b1 := true) (b2 := true) k_fm36 k1 (fkc (decide_eq_true h36) kn) (i_fm36 h36) k4 (fun p hp => by cases hp))
  by_cases h37 : ρ.1 60000 = 24641
  · exact AT_of (q := q_fm37) rfl rfl (SEM_run kR_x kR_0 (Cs := []) (fun C hC => by cases hC) c_fndm_f (Q := w_sl0) hv 400 (b1 := true) (b2 := true) k_fm37 k1 (fkc (decide_eq_true h37) kn) (i_fm37 h37) k4 (fun p hp => by cases hp))
  by_cases h38 : ρ.1 60000 = 24666
  · exact AT_of (q := q_fm38) rfl rfl (SEM_run kR_x kR_0 (Cs := []) (fun C hC => by cases hC) c_fndm_f (Q := w_sl0) hv 400 (b1 := true) (b2 := true) k_fm38 k1 (fkc (decide_eq_true h38) kn) (i_fm38 h38) k4 (fun p hp => by cases hp))
  by_cases h39 : ρ.1 60000 = 24667
  · exact AT_of (q := q_fm39) rfl rfl (SEM_run kR_x kR_0 (Cs := []) (fun C hC => by cases hC) c_fndm_f (Q := w_sl0) hv 400 (b1 := true) (b2 := true) k_fm39 k1 (fkc (decide_eq_true h39) kn) (i_fm39 h39) k4 (fun p hp => by cases hp))
  by_cases h40 : ρ.1 60000 = 24668
  · exact AT_of (q := q_fm40) rfl rfl (SEM_run kR_x kR_0 (Cs := []) (fun C hC => by cases hC) c_fndm_f (Q := w_sl0) hv 400 (b1 := true) (b2 := true) k_fm40 k1 (fkc (decide_eq_true h40) kn) (i_fm40 h40) k4 (fun p hp => by cases hp))
  by_cases h41 : ρ.1 60000 = 24669
  · exact AT_of (q := q_fm41) rfl rfl (SEM_run kR_x kR_0 (Cs := []) (fun C hC => by cases hC) c_fndm_f (Q := w_sl0) hv 400 (b1 := true) (b2 := true) k_fm41 k1 (fkc (decide_eq_true h41) kn) (i_fm41 h41) k4 (fun p hp => by cases hp))
  by_cases h42 : ρ.1 60000 = 24670
  · exact AT_of (q := q_fm42) rfl rfl (SEM_run kR_x kR_0 (Cs := []) (fun C hC => by cases hC) c_fndm_f (Q := w_sl0) hv 400 (b1 := true) (b2 := true) k_fm42 k1 (fkc (decide_eq_true h42) kn) (i_fm42 h42) k4 (fun p hp => by cases hp))
  by_cases h43 : ρ.1 60000 = 24672
  · exact AT_of (q := q_fm43) rfl rfl (SEM_run kR_x kR_0 (Cs := []) (fun C hC => by cases hC) c_fndm_f (Q := w_sl0) hv 400 (b1 := true) (b2 := true) k_fm43 k1 (fkc (decide_eq_true h43) kn) (i_fm43 h43) k4 (fun p hp => by cases hp))
  by_cases h44 : ρ.1 60000 = 24673
  · exact AT_of (q := q_fm44) rfl rfl (SEM_run kR_x kR_0 (Cs := []) (fun C hC => by cases hC) c_fndm_f (Q := w_sl0) hv 400 (b1 := true) (b2 := true) k_fm44 k1 (fkc (decide_eq_true h44) kn) (i_fm44 h44) k4 (fun p hp => by cases hp))
  by_cases h45 : ρ.1 60000 = 24674
  · exact AT_of (q := q_fm45) rfl rfl (SEM_run kR_x kR_0 (Cs := []) (fun C hC => by cases hC) c_fndm_f (Q := w_sl0) hv 400 (b1 := true) (b2 := true) k_fm45 k1 (fkc (decide_eq_true h45) kn) (i_fm45 h45) k4 (fun p hp => by cases hp))
  by_cases h46 : ρ.1 60000 = 24676
  · exact AT_of (q := q_fm46) rfl rfl (SEM_run kR_x kR_0 (Cs := []) (fun C hC => by cases hC) c_fndm_f (Q := w_sl0) hv 400 (b1 := true) (b2 := true) k_fm46 k1 (fkc (decide_eq_true h46) kn) (i_fm46 h46) k4 (fun p hp => by cases hp))
  by_cases h47 : ρ.1 60000 = 24677
  · exact AT_of (q := q_fm47) rfl rfl (SEM_run kR_x kR_0 (Cs := []) (fun C hC => by cases hC) c_fndm_f (Q := w_sl0) hv 400 (b1 := true) (b2 := true) k_fm47 k1 (fkc (decide_eq_true h47) kn) (i_fm47 h47) k4 (fun p hp => by cases hp))
  by_cases h48 : ρ.1 60000 = 24678
  · exact AT_of (q := q_fm48) rfl rfl (SEM_run kR_x kR_0 (Cs := []) (fun C hC => by cases hC) c_fndm_f (Q := w_sl0) hv 400 (b1 := true) (b2 := true) k_fm48 k1 (fkc (decide_eq_true h48) kn) (i_fm48 h48) k4 (fun p hp => by cases hp))
  by_cases h49 : ρ.1 60000 = 24679
  · exact AT_of (q := q_fm49) rfl rfl (SEM_run kR_x kR_0 (Cs := []) (fun C hC => by cases hC) c_fndm_f (Q := w_sl0) hv 400 (b1 := true) (b2 := true) k_fm49 k1 (fkc (decide_eq_true h49) kn) (i_fm49 h49) k4 (fun p hp => by cases hp))
  by_cases h50 : ρ.1 60000 = 24680
  · exact AT_of (q := q_fm50) rfl rfl (SEM_run kR_x kR_0 (Cs := []) (fun C hC => by cases hC) c_fndm_f (Q := w_sl0) hv 400 (b1 := true) (b2 := true) k_fm50 k1 (fkc (decide_eq_true h50) kn) (i_fm50 h50) k4 (fun p hp => by cases hp))
  by_cases h51 : ρ.1 60000 = 24683
  · exact AT_of (q := q_fm51) rfl rfl (SEM_run kR_x kR_0 (Cs := []) (fun C hC => by cases hC) c_fndm_f (Q := w_sl0) hv 400 (b1 := true) (b2 := true) k_fm51 k1 (fkc (decide_eq_true h51) kn) (i_fm51 h51) k4 (fun p hp => by cases hp))
  by_cases h52 : ρ.1 60000 = 24684
  · exact AT_of (q := q_fm52) rfl rfl (SEM_run kR_x kR_0 (Cs := []) (fun C hC => by cases hC) c_fndm_f (Q := w_sl0) hv 400 (b1 := true) (b2 := true) k_fm52 k1 (fkc (decide_eq_true h52) kn) (i_fm52 h52) k4 (fun p hp => by cases hp))
  by_cases h53 : ρ.1 60000 = 24698
  · exact AT_of (q := q_fm53) rfl rfl (SEM_run kR_x kR_0 (Cs := []) (fun C hC => by cases hC) c_fndm_f (Q := w_sl0) hv 400 (b1 := true) (b2 := true) k_fm53 k1 (fkc (decide_eq_true h53) kn) (i_fm53 h53) k4 (fun p hp => by cases hp))
  by_cases h54 : ρ.1 60000 = 24700
  · exact AT_of (q := q_fm54) rfl rfl (SEM_run kR_x kR_0 (Cs := []) (fun C hC => by cases hC) c_fndm_f (Q := w_sl0) hv 400 (b1 := true) (b2 := true) k_fm54 k1 (fkc (decide_eq_true h54) kn) (i_fm54 h54) k4 (fun p hp => by cases hp))
  by_cases h55 : ρ.1 60000 = 24701
  · exact AT_of (q := q_fm55) rfl rfl (SEM_run kR_x kR_0 (Cs := []) (fun C hC => by cases hC) c_fndm_f (Q := w_sl0) hv 400 (b1 := true) (b2 := true) k_fm55 k1 (fkc (decide_eq_true h55) kn) (i_fm55 h55) k4 (fun p hp => by cases hp))
  by_cases h56 : ρ.1 60000 = 24703
  · exact AT_of (q := q_fm56) rfl rfl (SEM_run kR_x kR_0 (Cs := []) (fun C hC => by cases hC) c_fndm_f (Q := w_sl0) hv 400 (b1 := true) (b2 := true) k_fm56 k1 (fkc (decide_eq_true h56) kn) (i_fm56 h56) k4 (fun p hp => by cases hp))
  by_cases h57 : ρ.1 60000 = 24705
  · exact AT_of (q := q_fm57) rfl rfl (SEM_run kR_x kR_0 (Cs := []) (fun C hC => by cases hC) c_fndm_f (Q := w_sl0) hv 400 (b1 := true) (b2 := true) k_fm57 k1 (fkc (decide_eq_true h57) kn) (i_fm57 h57) k4 (fun p hp => by cases hp))
  by_cases h58 : ρ.1 60000 = 24707
  · exact AT_of (q := q_fm58) rfl rfl (SEM_run kR_x kR_0 (Cs := []) (fun C hC => by cases hC) c_fndm_f (Q := w_sl0) hv 400 (b1 := true) (b2 := true) k_fm58 k1 (fkc (decide_eq_true h58) kn) (i_fm58 h58) k4 (fun p hp => by cases hp))
  by_cases h59 : ρ.1 60000 = 24708
  · exact AT_of (q := q_fm59) rfl rfl (SEM_run kR_x kR_0 (Cs := []) (fun C hC => by cases hC) c_fndm_f (Q := w_sl0) hv 400 (b1 := true) (b2 := true) k_fm59 k1 (fkc (decide_eq_true h59) kn) (i_fm59 h59) k4 (fun p hp => by cases hp))
  by_cases h60 : ρ.1 60000 = 24709
  · exact AT_of (q := q_fm60) rfl rfl (SEM_run kR_x kR_0 (Cs := []) (fun C hC => by cases hC) c_fndm_f (Q := w_sl0) hv 400 (b1 := true) (b2 := true) k_fm60 k1 (fkc (decide_eq_true h60) kn) (i_fm60 h60) k4 (fun p hp => by cases hp))
  by_cases h61 : ρ.1 60000 = 24728
  · exact AT_of (q := q_fm61) rfl rfl (SEM_run kR_x kR_0 (Cs := []) (fun C hC => by cases hC) c_fndm_f (Q := w_sl0) hv 400 (b1 := true) (b2 := true) k_fm61 k1 (fkc (decide_eq_true h61) kn) (i_fm61 h61) k4 (fun p hp => by cases hp))
  by_cases h62 : ρ.1 60000 = 24729
  · exact AT_of (q := q_fm62) rfl rfl (SEM_run kR_x kR_0 (Cs := []) (fun C hC => by cases hC) c_fndm_f (Q := w_sl0) hv 400 (b1 := true) (b2 := true) k_fm62 k1 (fkc (decide_eq_true h62) kn) (i_fm62 h62) k4 (fun p hp => by cases hp))
  by_cases h63 : ρ.1 60000 = 24730
  · exact AT_of (q := q_fm63) rfl rfl (SEM_run kR_x kR_0 (Cs := []) (fun C hC => by cases hC) c_fndm_f (Q := w_sl0) hv 400 (b1 := true) (b2 := true) k_fm63 k1 (fkc (decide_eq_true h63) kn) (i_fm63 h63) k4 (fun p hp => by cases hp))
  by_cases h64 : ρ.1 60000 = 24760
  · exact AT_of (q := q_fm64) rfl rfl (SEM_run kR_x kR_0 (Cs := []) (fun C hC => by cases hC) c_fndm_f (Q := w_sl0) hv 400 (b1 := true) (b2 := true) k_fm64 k1 (fkc (decide_eq_true h64) kn) (i_fm64 h64) k4 (fun p hp => by cases hp))
  by_cases h65 : ρ.1 60000 = 24761
  · exact AT_of (q := q_fm65) rfl rfl (SEM_run kR_x kR_0 (Cs := []) (fun C hC => by cases hC) c_fndm_f (Q := w_sl0) hv 400 (b1 := true) (b2 := true) k_fm65 k1 (fkc (decide_eq_true h65) kn) (i_fm65 h65) k4 (fun p hp => by cases hp))
  by_cases h66 : ρ.1 60000 = 24762
  · exact AT_of (q := q_fm66) rfl rfl (SEM_run kR_x kR_0 (Cs := []) (fun C hC => by cases hC) c_fndm_f (Q := w_sl0) hv 400 (b1 := true) (b2 := true) k_fm66 k1 (fkc (decide_eq_true h66) kn) (i_fm66 h66) k4 (fun p hp => by cases hp))
  by_cases h67 : ρ.1 60000 = 24763
  · exact AT_of (q := q_fm67) rfl rfl (SEM_run kR_x kR_0 (Cs := []) (fun C hC => by cases hC) c_fndm_f (Q := w_sl0) hv 400 (b1 := true) (b2 := true) k_fm67 k1 (fkc (decide_eq_true h67) kn) (i_fm67 h67) k4 (fun p hp => by cases hp))
  by_cases h68 : ρ.1 60000 = 24829
  · exact AT_of (q := q_fm68) rfl rfl (SEM_run kR_x kR_0 (Cs := []) (fun C hC => by cases hC) c_fndm_f (Q := w_sl0) hv 400 (b1 := true) (b2 := true) k_fm68 k1 (fkc (decide_eq_true h68) kn) (i_fm68 h68) k4 (fun p hp => by cases hp))
  by_cases h69 : ρ.1 60000 = 24830
  · exact AT_of (q := q_fm69) rfl rfl (SEM_run kR_x kR_0 (Cs := []) (fun C hC => by cases hC) c_fndm_f (Q := w_sl0) hv 400 (b1 := true) (b2 := true) k_fm69 k1 (fkc (decide_eq_true h69) kn) (i_fm69 h69) k4 (fun p hp => by cases hp))
  by_cases h70 : ρ.1 60000 = 24831
  · exact AT_of (q := q_fm70) rfl rfl (SEM_run kR_x kR_0 (Cs := []) (fun C hC => by cases hC) c_fndm_f (Q := w_sl0) hv 400 (b1 := true) (b2 := true) k_fm70 k1 (fkc (decide_eq_true h70) kn) (i_fm70 h70) k4 (fun p hp => by cases hp))
  by_cases h71 : ρ.1 60000 = 25858
  · exact AT_of (q := q_fm71) rfl rfl (SEM_run kR_x kR_0 (Cs := []) (fun C hC => by cases hC) c_fndm_f (Q := w_sl0) hv 400 (b1 := true) (b2 := true) k_fm71 k1 (fkc (decide_eq_true h71) kn) (i_fm71 h71) k4 (fun p hp => by cases hp))
  refine AT_of (q := q_fmN) rfl rfl (SEM_run kR_x kR_0 (Cs := []) (fun C hC => by cases hC) c_fndm_f (Q := w_sl0) hv 400 (b1 := true) (b2 := true) k_fmN k1 (fkc (fm_n (n := -1) (fm_none (cs := [4096, 4097, 4099, 4101, 4102, 4104, 4112, 4113, 4116, 4117, 4118, 4119, 4120, 4137, 4608, 5120, 5121, 5122, 5123, 5632, 5633, 5634, 5635, 6144, 6145, 6146, 6147, 6656, 6657, 6658, 6659, 8192, 8208, 8209, 8210, 24639, 24640, 24641, 24666, 24667, 24668, 24669, 24670, 24672, 24673, 24674, 24676, 24677, 24678, 24679, 24680, 24683, 24684, 24698, 24700, 24701, 24703, 24705, 24707, 24708, 24709, 24728, 24729, 24730, 24760, 24761, 24762, 24763, 24829, 24830, 24831, 25858]) (by decide +kernel) ?_)) (fkc (decide_eq_false h0) (fkc (decide_eq_false h1) (fkc (decide_eq_false h2) (fkc (decide_eq_false h3) (fkc (decide_eq_false h4) (fkc (decide_eq_false h5) (fkc (decide_eq_false h6) (fkc (decide_eq_false h7) (fkc (decide_eq_false h8) (fkc (decide_eq_false h9) (fkc (decide_eq_false h10) (fkc (decide_eq_false h11) (fkc (decide_eq_false h12) (fkc (decide_eq_false h13) (fkc (decide_eq_false h14) (fkc (decide_eq_false h15) (fkc (decide_eq_false h16) (fkc (decide_eq_false h17) (fkc (decide_eq_false h18) (fkc (decide_eq_false h19) (fkc (decide_eq_false h20) (fkc (decide_eq_false h21) (fkc (decide_eq_false h22) (fkc (decide_eq_false h23) (fkc (decide_eq_false h24) (fkc (decide_eq_false h25) (fkc (decide_eq_false h26) (fkc (decide_eq_false h27) (fkc (decide_eq_false h28) (fkc (decide_eq_false h29) (fkc (decide_eq_false h30) (fkc (decide_eq_false h31) (fkc (decide_eq_false h32) (fkc (decide_eq_false h33) (fkc (decide_eq_false h34) (fkc (decide_eq_false h35) (fkc (decide_eq_false h36) (fkc (decide_eq_false h37) (fkc (decide_eq_false h38) (fkc (decide_eq_false h39) (fkc (decide_eq_false h40) (fkc (decide_eq_false h41) (fkc (decide_eq_false h42) (fkc (decide_eq_false h43) (fkc (decide_eq_false h44) (fkc (decide_eq_false h45) (fkc (decide_eq_false h46) (fkc (decide_eq_false h47) (fkc (decide_eq_false h48) (fkc (decide_eq_false h49) (fkc (decide_eq_false h50) (fkc (decide_eq_false h51) (fkc (decide_eq_false h52) (fkc (decide_eq_false h53) (fkc (decide_eq_false h54) (fkc (decide_eq_false h55) (fkc (decide_eq_false h56) (fkc (decide_eq_false h57) (fkc (decide_eq_false h58) (fkc (decide_eq_false h59) (fkc (decide_eq_false h60) (fkc (decide_eq_false h61) (fkc (decide_eq_false h62) (fkc (decide_eq_false h63) (fkc (decide_eq_false h64) (fkc (decide_eq_false h65) (fkc (decide_eq_false h66) (fkc (decide_eq_false h67) (fkc (decide_eq_false h68) (fkc (decide_eq_false h69) (fkc (decide_eq_false h70) (fkc (decide_eq_false h71) k2))))))))))))))))))))))))))))))))))))))))))))))))))))))))))))))))))))))))) i0k k4 (fun p hp => by cases hp))
  intro x hx
  simp only [List.mem_cons, List.not_mem_nil, or_false] at hx
  rcases hx with rfl | rfl | rfl | rfl | rfl | rfl | rfl | rfl | rfl | rfl | rfl | rfl | rfl | rfl | rfl | rfl | rfl | rfl | rfl | rfl | rfl | rfl | rfl | rfl | rfl | rfl | rfl | rfl | rfl | rfl | rfl | rfl | rfl | rfl | rfl | rfl | rfl | rfl | rfl | rfl | rfl | rfl | rfl | rfl | rfl | rfl | rfl | rfl | rfl | rfl | rfl | rfl | rfl | rfl | rfl | rfl | rfl | rfl | rfl | rfl | rfl | rfl | rfl | rfl | rfl | rfl | rfl | rfl | rfl | rfl | rfl | rfl
  · exact fun e => h0 (Int32.toInt_inj.mp e)
  · exact fun e => h1 (Int32.toInt_inj.mp e)
  · exact fun e => h2 (Int32.toInt_inj.mp e)
  · exact fun e => h3 (Int32.toInt_inj.mp e)
  · exact fun e => h4 (Int32.toInt_inj.mp e)
  · exact fun e => h5 (Int32.toInt_inj.mp e)
  · exact fun e => h6 (Int32.toInt_inj.mp e)
  · exact fun e => h7 (Int32.toInt_inj.mp e)
  · exact fun e => h8 (Int32.toInt_inj.mp e)
  · exact fun e => h9 (Int32.toInt_inj.mp e)
  · exact fun e => h10 (Int32.toInt_inj.mp e)
  · exact fun e => h11 (Int32.toInt_inj.mp e)
  · exact fun e => h12 (Int32.toInt_inj.mp e)
  · exact fun e => h13 (Int32.toInt_inj.mp e)
  · exact fun e => h14 (Int32.toInt_inj.mp e)
  · exact fun e => h15 (Int32.toInt_inj.mp e)
  · exact fun e => h16 (Int32.toInt_inj.mp e)
  · exact fun e => h17 (Int32.toInt_inj.mp e)
  · exact fun e => h18 (Int32.toInt_inj.mp e)
  · exact fun e => h19 (Int32.toInt_inj.mp e)
  · exact fun e => h20 (Int32.toInt_inj.mp e)
  · exact fun e => h21 (Int32.toInt_inj.mp e)
  · exact fun e => h22 (Int32.toInt_inj.mp e)
  · exact fun e => h23 (Int32.toInt_inj.mp e)
  · exact fun e => h24 (Int32.toInt_inj.mp e)
  · exact fun e => h25 (Int32.toInt_inj.mp e)
  · exact fun e => h26 (Int32.toInt_inj.mp e)
  · exact fun e => h27 (Int32.toInt_inj.mp e)
  · exact fun e => h28 (Int32.toInt_inj.mp e)
  · exact fun e => h29 (Int32.toInt_inj.mp e)
  · exact fun e => h30 (Int32.toInt_inj.mp e)
  · exact fun e => h31 (Int32.toInt_inj.mp e)
  · exact fun e => h32 (Int32.toInt_inj.mp e)
  · exact fun e => h33 (Int32.toInt_inj.mp e)
  · exact fun e => h34 (Int32.toInt_inj.mp e)
  · exact fun e => h35 (Int32.toInt_inj.mp e)
  · exact fun e => h36 (Int32.toInt_inj.mp e)
  · exact fun e => h37 (Int32.toInt_inj.mp e)
  · exact fun e => h38 (Int32.toInt_inj.mp e)
  · exact fun e => h39 (Int32.toInt_inj.mp e)
  · exact fun e => h40 (Int32.toInt_inj.mp e)
  · exact fun e => h41 (Int32.toInt_inj.mp e)
  · exact fun e => h42 (Int32.toInt_inj.mp e)
  · exact fun e => h43 (Int32.toInt_inj.mp e)
  · exact fun e => h44 (Int32.toInt_inj.mp e)
  · exact fun e => h45 (Int32.toInt_inj.mp e)
  · exact fun e => h46 (Int32.toInt_inj.mp e)
  · exact fun e => h47 (Int32.toInt_inj.mp e)
  · exact fun e => h48 (Int32.toInt_inj.mp e)
  · exact fun e => h49 (Int32.toInt_inj.mp e)
  · exact fun e => h50 (Int32.toInt_inj.mp e)
  · exact fun e => h51 (Int32.toInt_inj.mp e)
  · exact fun e => h52 (Int32.toInt_inj.mp e)
  · exact fun e => h53 (Int32.toInt_inj.mp e)
  · exact fun e => h54 (Int32.toInt_inj.mp e)
  · exact fun e => h55 (Int32.toInt_inj.mp e)
  · exact fun e => h56 (Int32.toInt_inj.mp e)
  · exact fun e => h57 (Int32.toInt_inj.mp e)
  · exact fun e => h58 (Int32.toInt_inj.mp e)
  · exact fun e => h59 (Int32.toInt_inj.mp e)
  · exact fun e => h60 (Int32.toInt_inj.mp e)
  · exact fun e => h61 (Int32.toInt_inj.mp e)
  · exact fun e => h62 (Int32.toInt_inj.mp e)
  · exact fun e => h63 (Int32.toInt_inj.mp e)
  · exact fun e => h64 (Int32.toInt_inj.mp e)
  · exact fun e => h65 (Int32.toInt_inj.mp e)
  · exact fun e => h66 (Int32.toInt_inj.mp e)
  · exact fun e => h67 (Int32.toInt_inj.mp e)
  · exact fun e => h68 (Int32.toInt_inj.mp e)
  · exact fun e => h69 (Int32.toInt_inj.mp e)
  · exact fun e => h70 (Int32.toInt_inj.mp e)
  · exact fun e => h71 (Int32.toInt_inj.mp e))
theorem e_fndm : frun kR [] (cpl1 zWP c_fndm [q_fm]) (cpl2 zWP c_fndm [q_fm]) (cleaf kR zWP c_fndm [q_fm]) 20 65536 (isatP (c_fndm.2.2.2.1) c_fndm.2.2.2.2.2.2.2.1) c_fndm.2.2.2.2.2.2.2.1 (sin0 mt_all c_fndm.1.1 1 c_fndm.2.1.1 (foot zWP c_fndm.2.2.1.1)) (sin0 mt_all c_fndm.1.2.1 1 c_fndm.2.1.2 (foot zWP c_fndm.2.2.1.2)) = true := by decide +kernel
theorem s_fndm {X : pX} : SREL X pF pdfl mt_all kR zWP c_fndm := SREL_QC kR_x kR_0 (Cs := []) (fun C hC => by cases hC) (d := 1) rfl c_fndm_f (Q := [q_fm]) (fun ρ0 hv => fun q hq => by
    simp only [List.mem_cons, List.not_mem_nil, or_false] at hq
    rw [hq]; exact t_fm hv) (QC_run 20 e_fndm)
