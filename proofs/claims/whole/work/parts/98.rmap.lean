set_option maxRecDepth 20000
noncomputable def c_fndl : sC := (c_fndm.1, c_fndm.2.1, c_fndm.2.2.1, c_fndm.2.2.2.1 ++ [((109, .add (.arg 60000) (.arg 60032), .arg 60192), true)], c_fndm.2.2.2.2.1, (some (.long 0), some (.arg 60192)), [], c_fndm.2.2.2.2.2.2.2)
theorem s_fndl {X : pX} : SREL X pF pdfl mt_all kR zWP c_fndl := SREL_ans s_fndm (fun ρ hF => ⟨hF.1, fun f hf => hF.2 f (List.mem_append_left _ hf)⟩) (fun ρ ρ' hF hA hG => ⟨⟨rfl, by
  have h1 : (ρ.1 60192).toInt = aslot (ρ.1 60000).toInt (ρ.1 60032).toInt := of_decide_eq_true (hF.2 ((109, .add (.arg 60000) (.arg 60032), .arg 60192), true) (List.mem_append_right _ List.mem_cons_self))
  have h2 : (ρ'.1 60160).toInt = aslot (ρ'.1 60000).toInt (ρ'.1 60032).toInt := of_decide_eq_true (hG.2 _ List.mem_cons_self)
  rw [(hA.1 60000 (by decide)).1, (hA.1 60032 (by decide)).1, ← h1] at h2
  show some (sv X ρ' (.arg 60192)) = some (sv X ρ' (.arg 60160))
  rw [sv_int rfl, sv_int rfl]
  show some (Value.int (ρ'.1 60192)) = some (Value.int (ρ'.1 60160))
  rw [(hA.1 60192 (by decide)).1, Int32.toInt_inj.mp h2]⟩, ⟨hG.1, fun f hf => by cases hf⟩⟩)
theorem am_nn {g : Nat → Int64} {m n : Nat} (hz : ∀ i, i < n → ¬ (g (m + 1 + i)).toInt = 0) : ¬ (100925505 : Int) = amcode g m n := by
  unfold amcode
  rw [if_pos (List.all_eq_true.mpr (fun i hi => by
    have := hz i (List.mem_range.mp hi)
    simpa using this))]
  split <;> decide
theorem am_lo {g : Nat → Int64} {m n : Nat} (h : amcode g m n = 100925506) : (∀ i, i < n → ¬ (g (m + 1 + i)).toInt = 0) ∧ ¬ ((List.range n).map (fun i => (g (m + 1 + i)).toInt % 256)).sum ≤ 64 := by
  unfold amcode at h
  split at h
  · next hz =>
    split at h
    · cases h
    · next hs =>
      refine ⟨fun i hi => ?_, hs⟩
      have := List.all_eq_true.mp hz i (List.mem_range.mpr hi)
      simpa using this
  · cases h
theorem am_3 {g : Nat → Int64} {m n : Nat} : amcode g m n = 0 ∨ amcode g m n = 100925505 ∨ amcode g m n = 100925506 := by
  unfold amcode
  split
  · split
    · exact .inl rfl
    · exact .inr (.inr rfl)
  · exact .inr (.inl rfl)
theorem mw_a {x : Int64} : (x &&& 255).toInt = x.toInt % 256 := by
  have e : (x &&& 255).toBitVec.toNat = x.toBitVec.toNat % 256 := by
    rw [Int64.toBitVec_and, BitVec.toNat_and]
    exact Nat.and_two_pow_sub_one_eq_mod _ 8
  have l : x.toBitVec.toNat % 256 < 256 := Nat.mod_lt _ (by decide)
  have h : (x &&& 255).toInt = ((x &&& 255).toBitVec.toNat : Int) := by
    show (x &&& 255).toBitVec.toInt = _
    rw [BitVec.toInt_eq_toNat_of_lt (by omega)]
  rw [h, e]
  have b := x.toBitVec.isLt
  show _ = x.toBitVec.toInt % 256
  rw [BitVec.toInt_eq_toNat_cond]
  split <;> omega
theorem am_no {g : Nat → Int64} {m n : Nat} (h : amcode g m n = 0) : (∀ i, i < n → ¬ (g (m + 1 + i)).toInt = 0) ∧ ((List.range n).map (fun i => (g (m + 1 + i)).toInt % 256)).sum ≤ 64 := by
  unfold amcode at h
  split at h
  · next hz =>
    split at h
    · next hs =>
      refine ⟨fun i hi => ?_, hs⟩
      have := List.all_eq_true.mp hz i (List.mem_range.mpr hi)
      simpa using this
    · cases h
  · cases h
theorem am_ok {g : Nat → Int64} {m n : Nat} (hz : ∀ i, i < n → ¬ (g (m + 1 + i)).toInt = 0) (hs : ((List.range n).map (fun i => (g (m + 1 + i)).toInt % 256)).sum ≤ 64) : amcode g m n = 0 := by
  unfold amcode
  rw [if_pos (List.all_eq_true.mpr (fun i hi => by
    have := hz i (List.mem_range.mp hi)
    simpa using this)), if_pos hs]
theorem mb_r {y : Int64} : 0 ≤ (y &&& 255).toInt ∧ (y &&& 255).toInt ≤ 255 ∧ (y &&& 255).toInt32.toInt = (y &&& 255).toInt := by
  obtain ⟨a1, a2⟩ := l_and (x := y) (m := 255) (by decide)
  have z : (255 : Int64).toInt = 255 := rfl
  refine ⟨a1, by omega, ?_⟩
  have := congrArg Int64.toInt (l_back (x := y &&& 255) (by omega) (by omega))
  rw [Int32.toInt_toInt64] at this
  exact this
/-! ===== what is wrong with a map: mapCode and mapBits, nothing ===== -/
noncomputable def c_mapo : sC := ((9, 272, 6), ([tr 42, .arg 60064, .arg 60033], [tr 219, .arg 1308, .arg 60096, .arg 60000]), ([42, 43], [219, 229, 228, 220, 221]), [((2, .arg 60064, .int 50), false), ((2, .int 105, .arg 60064), false), ((2, .arg 60096, .int 0), false), ((2, .int 65535, .arg 60096), false), ((109, .add (.arg 60096) (.int 1), .add (.arg 60064) (.int 1)), true), ((109, .add (.arg 60096) (.int 2), .add (.arg 60064) (.int 2)), true), ((109, .add (.arg 60096) (.int 3), .add (.arg 60064) (.int 3)), true), ((109, .add (.arg 60096) (.int 4), .add (.arg 60064) (.int 4)), true), ((8, .arg 60033, .long 0), false), ((8, .long 4, .arg 60033), false), ((0, .op1 .l2i (.arg 60033), .arg 60000), true), ((139, .add (.elem (.arg 1761) (.int 0)) (.add (.arg 60064) (.arg 60033)), .int 0), true)], ([60160, 60192], []), (some (.int 0), some (.arg 60160)), [((2, .arg 60160, .int 0), false), ((2, .int 64, .arg 60160), false)], ([], []))
theorem c_mapo_f : cfine zWP 65536 c_mapo = true := by decide +kernel
noncomputable def q_mapo : sCut := ((fr 0 9 0 [(0, tr 42), (1, .arg 60064), (2, .arg 60033)] [], [fBot], 5), (fr 0 272 0 [(0, tr 219), (1, .arg 1308), (2, .arg 60096), (3, .arg 60000)] [], [fBot], 5), [((2, .arg 60064, .int 50), false), ((2, .int 105, .arg 60064), false), ((2, .arg 60096, .int 0), false), ((2, .int 65535, .arg 60096), false), ((109, .add (.arg 60096) (.int 1), .add (.arg 60064) (.int 1)), true), ((109, .add (.arg 60096) (.int 2), .add (.arg 60064) (.int 2)), true), ((109, .add (.arg 60096) (.int 3), .add (.arg 60064) (.int 3)), true), ((109, .add (.arg 60096) (.int 4), .add (.arg 60064) (.int 4)), true), ((8, .arg 60033, .long 0), false), ((8, .long 4, .arg 60033), false), ((0, .op1 .l2i (.arg 60033), .arg 60000), true), ((139, .add (.elem (.arg 1761) (.int 0)) (.add (.arg 60064) (.arg 60033)), .int 0), true)], [])
noncomputable def q_mapon0k : sCut := ((fr 0 9 0 [(0, tr 42), (1, .arg 60064), (2, .arg 60033)] [], [fBot], 5), (fr 0 272 0 [(0, tr 219), (1, .arg 1308), (2, .arg 60096), (3, .arg 60000)] [], [fBot], 5), [((6, .arg 60033, .long 0), true), ((0, .arg 60000, .int 0), true), ((2, .arg 60064, .int 50), false), ((2, .int 105, .arg 60064), false), ((2, .arg 60096, .int 0), false), ((2, .int 65535, .arg 60096), false), ((109, .add (.arg 60096) (.int 1), .add (.arg 60064) (.int 1)), true), ((109, .add (.arg 60096) (.int 2), .add (.arg 60064) (.int 2)), true), ((109, .add (.arg 60096) (.int 3), .add (.arg 60064) (.int 3)), true), ((109, .add (.arg 60096) (.int 4), .add (.arg 60064) (.int 4)), true), ((8, .arg 60033, .long 0), false), ((8, .long 4, .arg 60033), false), ((0, .op1 .l2i (.arg 60033), .arg 60000), true), ((139, .add (.elem (.arg 1761) (.int 0)) (.add (.arg 60064) (.arg 60033)), .int 0), true)], [])
theorem k_mapon0k : cbody kR [(zWP, c_fndl)] (cpl1 zWP c_mapo []) (cpl2 zWP c_mapo []) (cleaf kR zWP c_mapo []) 300 true true q_mapon0k.2.2.1 q_mapon0k.2.2.2 (cst zWP c_mapo.2.2.1.1 q_mapon0k.1) (cst zWP c_mapo.2.2.1.2 q_mapon0k.2.1) = true := by decide +kernel
theorem t_mapon0k {X : pX} {ρ0 : sR} (hv : vok X ρ0) : CUTOK X kR zWP c_mapo 5 ρ0 q_mapon0k := CUT_run kR_x kR_0 (Cs := [(zWP, c_fndl)]) (fun C hC => by rw [List.mem_singleton.mp hC]; exact s_fndl) c_mapo_f (Q := []) hv (fun q hq => by cases hq) 300 (b1 := true) (b2 := true) k_mapon0k
noncomputable def q_mapon1k : sCut := ((fr 0 9 0 [(0, tr 42), (1, .arg 60064), (2, .arg 60033)] [], [fBot], 5), (fr 0 272 0 [(0, tr 219), (1, .arg 1308), (2, .arg 60096), (3, .arg 60000)] [], [fBot], 5), [((6, .arg 60033, .long 1), true), ((0, .arg 60000, .int 1), true), ((6, .elem (.arg 1761) (.add (.arg 60064) (.int 1)), .long 0), false), ((8, .long 64, .op2 .land (.elem (.arg 1761) (.add (.arg 60064) (.int 1))) (.long 255)), false), ((2, .op1 .l2i (.op2 .land (.elem (.arg 1761) (.add (.arg 60064) (.int 1))) (.long 255)), .int 0), false), ((2, .int 64, .op1 .l2i (.op2 .land (.elem (.arg 1761) (.add (.arg 60064) (.int 1))) (.long 255))), false), ((2, .arg 60064, .int 50), false), ((2, .int 105, .arg 60064), false), ((2, .arg 60096, .int 0), false), ((2, .int 65535, .arg 60096), false), ((109, .add (.arg 60096) (.int 1), .add (.arg 60064) (.int 1)), true), ((109, .add (.arg 60096) (.int 2), .add (.arg 60064) (.int 2)), true), ((109, .add (.arg 60096) (.int 3), .add (.arg 60064) (.int 3)), true), ((109, .add (.arg 60096) (.int 4), .add (.arg 60064) (.int 4)), true), ((8, .arg 60033, .long 0), false), ((8, .long 4, .arg 60033), false), ((0, .op1 .l2i (.arg 60033), .arg 60000), true), ((139, .add (.elem (.arg 1761) (.int 0)) (.add (.arg 60064) (.arg 60033)), .int 0), true)], [])
theorem k_mapon1k : cbody kR [(zWP, c_fndl)] (cpl1 zWP c_mapo []) (cpl2 zWP c_mapo []) (cleaf kR zWP c_mapo []) 300 true true q_mapon1k.2.2.1 q_mapon1k.2.2.2 (cst zWP c_mapo.2.2.1.1 q_mapon1k.1) (cst zWP c_mapo.2.2.1.2 q_mapon1k.2.1) = true := by decide +kernel
theorem t_mapon1k {X : pX} {ρ0 : sR} (hv : vok X ρ0) : CUTOK X kR zWP c_mapo 5 ρ0 q_mapon1k := CUT_run kR_x kR_0 (Cs := [(zWP, c_fndl)]) (fun C hC => by rw [List.mem_singleton.mp hC]; exact s_fndl) c_mapo_f (Q := []) hv (fun q hq => by cases hq) 300 (b1 := true) (b2 := true) k_mapon1k
noncomputable def q_mapon2k : sCut := ((fr 0 9 0 [(0, tr 42), (1, .arg 60064), (2, .arg 60033)] [], [fBot], 5), (fr 0 272 0 [(0, tr 219), (1, .arg 1308), (2, .arg 60096), (3, .arg 60000)] [], [fBot], 5), [((6, .arg 60033, .long 2), true), ((0, .arg 60000, .int 2), true), ((6, .elem (.arg 1761) (.add (.arg 60064) (.int 1)), .long 0), false), ((6, .elem (.arg 1761) (.add (.arg 60064) (.int 2)), .long 0), false), ((8, .long 64, .op2 .ladd (.op2 .land (.elem (.arg 1761) (.add (.arg 60064) (.int 1))) (.long 255)) (.op2 .land (.elem (.arg 1761) (.add (.arg 60064) (.int 2))) (.long 255))), false), ((2, .add (.op1 .l2i (.op2 .land (.elem (.arg 1761) (.add (.arg 60064) (.int 1))) (.long 255))) (.op1 .l2i (.op2 .land (.elem (.arg 1761) (.add (.arg 60064) (.int 2))) (.long 255))), .int 0), false), ((2, .int 64, .add (.op1 .l2i (.op2 .land (.elem (.arg 1761) (.add (.arg 60064) (.int 1))) (.long 255))) (.op1 .l2i (.op2 .land (.elem (.arg 1761) (.add (.arg 60064) (.int 2))) (.long 255)))), false), ((2, .arg 60064, .int 50), false), ((2, .int 105, .arg 60064), false), ((2, .arg 60096, .int 0), false), ((2, .int 65535, .arg 60096), false), ((109, .add (.arg 60096) (.int 1), .add (.arg 60064) (.int 1)), true), ((109, .add (.arg 60096) (.int 2), .add (.arg 60064) (.int 2)), true), ((109, .add (.arg 60096) (.int 3), .add (.arg 60064) (.int 3)), true), ((109, .add (.arg 60096) (.int 4), .add (.arg 60064) (.int 4)), true), ((8, .arg 60033, .long 0), false), ((8, .long 4, .arg 60033), false), ((0, .op1 .l2i (.arg 60033), .arg 60000), true), ((139, .add (.elem (.arg 1761) (.int 0)) (.add (.arg 60064) (.arg 60033)), .int 0), true)], [])
theorem k_mapon2k : cbody kR [(zWP, c_fndl)] (cpl1 zWP c_mapo []) (cpl2 zWP c_mapo []) (cleaf kR zWP c_mapo []) 300 true true q_mapon2k.2.2.1 q_mapon2k.2.2.2 (cst zWP c_mapo.2.2.1.1 q_mapon2k.1) (cst zWP c_mapo.2.2.1.2 q_mapon2k.2.1) = true := by decide +kernel
theorem t_mapon2k {X : pX} {ρ0 : sR} (hv : vok X ρ0) : CUTOK X kR zWP c_mapo 5 ρ0 q_mapon2k := CUT_run kR_x kR_0 (Cs := [(zWP, c_fndl)]) (fun C hC => by rw [List.mem_singleton.mp hC]; exact s_fndl) c_mapo_f (Q := []) hv (fun q hq => by cases hq) 300 (b1 := true) (b2 := true) k_mapon2k
noncomputable def q_mapon3k : sCut := ((fr 0 9 0 [(0, tr 42), (1, .arg 60064), (2, .arg 60033)] [], [fBot], 5), (fr 0 272 0 [(0, tr 219), (1, .arg 1308), (2, .arg 60096), (3, .arg 60000)] [], [fBot], 5), [((6, .arg 60033, .long 3), true), ((0, .arg 60000, .int 3), true), ((6, .elem (.arg 1761) (.add (.arg 60064) (.int 1)), .long 0), false), ((6, .elem (.arg 1761) (.add (.arg 60064) (.int 2)), .long 0), false), ((6, .elem (.arg 1761) (.add (.arg 60064) (.int 3)), .long 0), false), ((8, .long 64, .op2 .ladd (.op2 .ladd (.op2 .land (.elem (.arg 1761) (.add (.arg 60064) (.int 1))) (.long 255)) (.op2 .land (.elem (.arg 1761) (.add (.arg 60064) (.int 2))) (.long 255))) (.op2 .land (.elem (.arg 1761) (.add (.arg 60064) (.int 3))) (.long 255))), false), ((2, .add (.add (.op1 .l2i (.op2 .land (.elem (.arg 1761) (.add (.arg 60064) (.int 1))) (.long 255))) (.op1 .l2i (.op2 .land (.elem (.arg 1761) (.add (.arg 60064) (.int 2))) (.long 255)))) (.op1 .l2i (.op2 .land (.elem (.arg 1761) (.add (.arg 60064) (.int 3))) (.long 255))), .int 0), false), ((2, .int 64, .add (.add (.op1 .l2i (.op2 .land (.elem (.arg 1761) (.add (.arg 60064) (.int 1))) (.long 255))) (.op1 .l2i (.op2 .land (.elem (.arg 1761) (.add (.arg 60064) (.int 2))) (.long 255)))) (.op1 .l2i (.op2 .land (.elem (.arg 1761) (.add (.arg 60064) (.int 3))) (.long 255)))), false), ((2, .arg 60064, .int 50), false), ((2, .int 105, .arg 60064), false), ((2, .arg 60096, .int 0), false), ((2, .int 65535, .arg 60096), false), ((109, .add (.arg 60096) (.int 1), .add (.arg 60064) (.int 1)), true), ((109, .add (.arg 60096) (.int 2), .add (.arg 60064) (.int 2)), true), ((109, .add (.arg 60096) (.int 3), .add (.arg 60064) (.int 3)), true), ((109, .add (.arg 60096) (.int 4), .add (.arg 60064) (.int 4)), true), ((8, .arg 60033, .long 0), false), ((8, .long 4, .arg 60033), false), ((0, .op1 .l2i (.arg 60033), .arg 60000), true), ((139, .add (.elem (.arg 1761) (.int 0)) (.add (.arg 60064) (.arg 60033)), .int 0), true)], [])
theorem k_mapon3k : cbody kR [(zWP, c_fndl)] (cpl1 zWP c_mapo []) (cpl2 zWP c_mapo []) (cleaf kR zWP c_mapo []) 300 true true q_mapon3k.2.2.1 q_mapon3k.2.2.2 (cst zWP c_mapo.2.2.1.1 q_mapon3k.1) (cst zWP c_mapo.2.2.1.2 q_mapon3k.2.1) = true := by decide +kernel
theorem t_mapon3k {X : pX} {ρ0 : sR} (hv : vok X ρ0) : CUTOK X kR zWP c_mapo 5 ρ0 q_mapon3k := CUT_run kR_x kR_0 (Cs := [(zWP, c_fndl)]) (fun C hC => by rw [List.mem_singleton.mp hC]; exact s_fndl) c_mapo_f (Q := []) hv (fun q hq => by cases hq) 300 (b1 := true) (b2 := true) k_mapon3k
noncomputable def q_mapon4k : sCut := ((fr 0 9 0 [(0, tr 42), (1, .arg 60064), (2, .arg 60033)] [], [fBot], 5), (fr 0 272 0 [(0, tr 219), (1, .arg 1308), (2, .arg 60096), (3, .arg 60000)] [], [fBot], 5), [((6, .arg 60033, .long 4), true), ((0, .arg 60000, .int 4), true), ((6, .elem (.arg 1761) (.add (.arg 60064) (.int 1)), .long 0), false), ((6, .elem (.arg 1761) (.add (.arg 60064) (.int 2)), .long 0), false), ((6, .elem (.arg 1761) (.add (.arg 60064) (.int 3)), .long 0), false), ((6, .elem (.arg 1761) (.add (.arg 60064) (.int 4)), .long 0), false), ((8, .long 64, .op2 .ladd (.op2 .ladd (.op2 .ladd (.op2 .land (.elem (.arg 1761) (.add (.arg 60064) (.int 1))) (.long 255)) (.op2 .land (.elem (.arg 1761) (.add (.arg 60064) (.int 2))) (.long 255))) (.op2 .land (.elem (.arg 1761) (.add (.arg 60064) (.int 3))) (.long 255))) (.op2 .land (.elem (.arg 1761) (.add (.arg 60064) (.int 4))) (.long 255))), false), ((2, .add (.add (.add (.op1 .l2i (.op2 .land (.elem (.arg 1761) (.add (.arg 60064) (.int 1))) (.long 255))) (.op1 .l2i (.op2 .land (.elem (.arg 1761) (.add (.arg 60064) (.int 2))) (.long 255)))) (.op1 .l2i (.op2 .land (.elem (.arg 1761) (.add (.arg 60064) (.int 3))) (.long 255)))) (.op1 .l2i (.op2 .land (.elem (.arg 1761) (.add (.arg 60064) (.int 4))) (.long 255))), .int 0), false), ((2, .int 64, .add (.add (.add (.op1 .l2i (.op2 .land (.elem (.arg 1761) (.add (.arg 60064) (.int 1))) (.long 255))) (.op1 .l2i (.op2 .land (.elem (.arg 1761) (.add (.arg 60064) (.int 2))) (.long 255)))) (.op1 .l2i (.op2 .land (.elem (.arg 1761) (.add (.arg 60064) (.int 3))) (.long 255)))) (.op1 .l2i (.op2 .land (.elem (.arg 1761) (.add (.arg 60064) (.int 4))) (.long 255)))), false), ((2, .arg 60064, .int 50), false), ((2, .int 105, .arg 60064), false), ((2, .arg 60096, .int 0), false), ((2, .int 65535, .arg 60096), false), ((109, .add (.arg 60096) (.int 1), .add (.arg 60064) (.int 1)), true), ((109, .add (.arg 60096) (.int 2), .add (.arg 60064) (.int 2)), true), ((109, .add (.arg 60096) (.int 3), .add (.arg 60064) (.int 3)), true), ((109, .add (.arg 60096) (.int 4), .add (.arg 60064) (.int 4)), true), ((8, .arg 60033, .long 0), false), ((8, .long 4, .arg 60033), false), ((0, .op1 .l2i (.arg 60033), .arg 60000), true), ((139, .add (.elem (.arg 1761) (.int 0)) (.add (.arg 60064) (.arg 60033)), .int 0), true)], [])
theorem k_mapon4k : cbody kR [(zWP, c_fndl)] (cpl1 zWP c_mapo []) (cpl2 zWP c_mapo []) (cleaf kR zWP c_mapo []) 300 true true q_mapon4k.2.2.1 q_mapon4k.2.2.2 (cst zWP c_mapo.2.2.1.1 q_mapon4k.1) (cst zWP c_mapo.2.2.1.2 q_mapon4k.2.1) = true := by decide +kernel
theorem t_mapon4k {X : pX} {ρ0 : sR} (hv : vok X ρ0) : CUTOK X kR zWP c_mapo 5 ρ0 q_mapon4k := CUT_run kR_x kR_0 (Cs := [(zWP, c_fndl)]) (fun C hC => by rw [List.mem_singleton.mp hC]; exact s_fndl) c_mapo_f (Q := []) hv (fun q hq => by cases hq) 300 (b1 := true) (b2 := true) k_mapon4k
theorem t_mapo {X : pX} {ρ0 : sR} (hv : vok X ρ0) : CUTOK X kR zWP c_mapo 5 ρ0 q_mapo := fun ρ k1 hF hI k4 => by
  have b0 : (0 : Int) ≤ (ρ.2.1 60033).toInt := rl_lf (x := ρ.2.1 60033) (y := 0) (hF.2 _ (List.mem_cons_of_mem _ (List.mem_cons_of_mem _ (List.mem_cons_of_mem _ (List.mem_cons_of_mem _ (List.mem_cons_of_mem _ (List.mem_cons_of_mem _ (List.mem_cons_of_mem _ (List.mem_cons_of_mem _ (List.mem_cons_self))))))))))
  have b1 : (ρ.2.1 60033).toInt ≤ 4 := rl_lf (x := 4) (y := ρ.2.1 60033) (hF.2 _ (List.mem_cons_of_mem _ (List.mem_cons_of_mem _ (List.mem_cons_of_mem _ (List.mem_cons_of_mem _ (List.mem_cons_of_mem _ (List.mem_cons_of_mem _ (List.mem_cons_of_mem _ (List.mem_cons_of_mem _ (List.mem_cons_of_mem _ (List.mem_cons_self)))))))))))
  have en : (ρ.2.1 60033).toInt32 = ρ.1 60000 := of_decide_eq_true (hF.2 _ (List.mem_cons_of_mem _ (List.mem_cons_of_mem _ (List.mem_cons_of_mem _ (List.mem_cons_of_mem _ (List.mem_cons_of_mem _ (List.mem_cons_of_mem _ (List.mem_cons_of_mem _ (List.mem_cons_of_mem _ (List.mem_cons_of_mem _ (List.mem_cons_of_mem _ (List.mem_cons_self))))))))))))
  have p0 : (50 : Int) ≤ (ρ.1 60064).toInt := ri_lf (x := ρ.1 60064) (y := 50) (hF.2 _ (List.mem_cons_self))
  have p1 : (ρ.1 60064).toInt ≤ 105 := ri_lf (x := 105) (y := ρ.1 60064) (hF.2 _ (List.mem_cons_of_mem _ (List.mem_cons_self)))
  have hc := of_decide_eq_true (hF.2 _ (List.mem_cons_of_mem _ (List.mem_cons_of_mem _ (List.mem_cons_of_mem _ (List.mem_cons_of_mem _ (List.mem_cons_of_mem _ (List.mem_cons_of_mem _ (List.mem_cons_of_mem _ (List.mem_cons_of_mem _ (List.mem_cons_of_mem _ (List.mem_cons_of_mem _ (List.mem_cons_of_mem _ (List.mem_cons_self)))))))))))))
  have hc : (0 : Int) = amcode (ρ.2.2.2.1 1761) (ρ.1 60064).toInt.toNat (ρ.2.1 60033).toInt.toNat := hc
  have i1 : (ρ.1 60064 + 1).toNatClampNeg = (ρ.1 60064).toInt.toNat + 1 + 0 := by
    have e : (ρ.1 60064 + 1).toInt = (ρ.1 60064).toInt + 1 := s_add (by have z : (1 : Int32).toInt = 1 := rfl; omega) (by have z : (1 : Int32).toInt = 1 := rfl; omega)
    rw [s_nat, e]
    omega
  have xe1 : (sd X ρ (.elem (.arg 1761) (.add (.arg 60064) (.int 1)))).2 = ρ.2.2.2.1 1761 ((ρ.1 60064).toInt.toNat + 1 + 0) := by rw [← i1]; rfl
  have i2 : (ρ.1 60064 + 2).toNatClampNeg = (ρ.1 60064).toInt.toNat + 1 + 1 := by
    have e : (ρ.1 60064 + 2).toInt = (ρ.1 60064).toInt + 2 := s_add (by have z : (2 : Int32).toInt = 2 := rfl; omega) (by have z : (2 : Int32).toInt = 2 := rfl; omega)
    rw [s_nat, e]
    omega
  have xe2 : (sd X ρ (.elem (.arg 1761) (.add (.arg 60064) (.int 2)))).2 = ρ.2.2.2.1 1761 ((ρ.1 60064).toInt.toNat + 1 + 1) := by rw [← i2]; rfl
  have i3 : (ρ.1 60064 + 3).toNatClampNeg = (ρ.1 60064).toInt.toNat + 1 + 2 := by
    have e : (ρ.1 60064 + 3).toInt = (ρ.1 60064).toInt + 3 := s_add (by have z : (3 : Int32).toInt = 3 := rfl; omega) (by have z : (3 : Int32).toInt = 3 := rfl; omega)
    rw [s_nat, e]
    omega
  have xe3 : (sd X ρ (.elem (.arg 1761) (.add (.arg 60064) (.int 3)))).2 = ρ.2.2.2.1 1761 ((ρ.1 60064).toInt.toNat + 1 + 2) := by rw [← i3]; rfl
  have i4 : (ρ.1 60064 + 4).toNatClampNeg = (ρ.1 60064).toInt.toNat + 1 + 3 := by
    have e : (ρ.1 60064 + 4).toInt = (ρ.1 60064).toInt + 4 := s_add (by have z : (4 : Int32).toInt = 4 := rfl; omega) (by have z : (4 : Int32).toInt = 4 := rfl; omega)
    rw [s_nat, e]
    omega
  have xe4 : (sd X ρ (.elem (.arg 1761) (.add (.arg 60064) (.int 4)))).2 = ρ.2.2.2.1 1761 ((ρ.1 60064).toInt.toNat + 1 + 3) := by rw [← i4]; rfl
  rcases (show (ρ.2.1 60033).toInt = 0 ∨ (ρ.2.1 60033).toInt = 1 ∨ (ρ.2.1 60033).toInt = 2 ∨ (ρ.2.1 60033).toInt = 3 ∨ (ρ.2.1 60033).toInt = 4 by omega) with h | h | h | h | h
  · have hV : ρ.2.1 60033 = 0 := Int64.toInt_inj.mp h
    have hN : ρ.1 60000 = 0 := by rw [← en, hV]; rfl
    rw [h] at hc
    have hc : (0 : Int) = amcode (ρ.2.2.2.1 1761) (ρ.1 60064).toInt.toNat 0 := hc
    exact t_mapon0k hv ρ k1 ⟨hF.1, fcn (decide_eq_true hV) (fcn (decide_eq_true hN) (hF.2))⟩ hI k4
  · have hV : ρ.2.1 60033 = 1 := Int64.toInt_inj.mp h
    have hN : ρ.1 60000 = 1 := by rw [← en, hV]; rfl
    rw [h] at hc
    have hc : (0 : Int) = amcode (ρ.2.2.2.1 1761) (ρ.1 60064).toInt.toNat 1 := hc
    obtain ⟨nz, su⟩ := am_no hc.symm
    have z1 : ¬ (sd X ρ (.elem (.arg 1761) (.add (.arg 60064) (.int 1)))).2 = 0 := by rw [xe1]; exact fun q => nz 0 (by decide) (congrArg Int64.toInt q)
    have su : (ρ.2.2.2.1 1761 ((ρ.1 60064).toInt.toNat + 1 + 0)).toInt % 256 ≤ 64 := by
      have e : ((List.range 1).map (fun i => ((ρ.2.2.2.1 1761) ((ρ.1 60064).toInt.toNat + 1 + i)).toInt % 256)).sum = (ρ.2.2.2.1 1761 ((ρ.1 60064).toInt.toNat + 1 + 0)).toInt % 256 := by
        show (([0] : List Nat).map _).sum = _
        simp only [List.map_cons, List.map_nil, List.sum_cons, List.sum_nil]
        omega
      rw [e] at su
      exact su
    obtain ⟨l1, u1, j1⟩ := mb_r (y := (sd X ρ (.elem (.arg 1761) (.add (.arg 60064) (.int 1)))).2)
    have w1 : ((sd X ρ (.elem (.arg 1761) (.add (.arg 60064) (.int 1)))).2 &&& 255).toInt = (ρ.2.2.2.1 1761 ((ρ.1 60064).toInt.toNat + 1 + 0)).toInt % 256 := by rw [mw_a, xe1]
    have y64 : (64 : Int64).toInt = 64 := rfl
    have z64 : (64 : Int32).toInt = 64 := rfl
    have z0 : (0 : Int32).toInt = 0 := rfl
    have c1 : ((sd X ρ (.elem (.arg 1761) (.add (.arg 60064) (.int 1)))).2 &&& 255).toInt = ((sd X ρ (.elem (.arg 1761) (.add (.arg 60064) (.int 1)))).2 &&& 255).toInt := rfl
    have ov : ¬ 64 < ((sd X ρ (.elem (.arg 1761) (.add (.arg 60064) (.int 1)))).2 &&& 255).toInt := by omega
    exact t_mapon1k hv ρ k1 ⟨hF.1, fcn (decide_eq_true hV) (fcn (decide_eq_true hN) (fcn (decide_eq_false z1) (fcn (dl_lf (x := 64) (y := ((sd X ρ (.elem (.arg 1761) (.add (.arg 60064) (.int 1)))).2 &&& 255)) (by rw [y64]; omega)) (fcn (di_lf (x := ((sd X ρ (.elem (.arg 1761) (.add (.arg 60064) (.int 1)))).2 &&& 255).toInt32) (y := 0) (by rw [z0]; omega)) (fcn (di_lf (x := 64) (y := ((sd X ρ (.elem (.arg 1761) (.add (.arg 60064) (.int 1)))).2 &&& 255).toInt32) (by rw [z64]; omega)) (hF.2))))))⟩ hI k4
  · have hV : ρ.2.1 60033 = 2 := Int64.toInt_inj.mp h
    have hN : ρ.1 60000 = 2 := by rw [← en, hV]; rfl
    rw [h] at hc
    have hc : (0 : Int) = amcode (ρ.2.2.2.1 1761) (ρ.1 60064).toInt.toNat 2 := hc
    obtain ⟨nz, su⟩ := am_no hc.symm
    have z1 : ¬ (sd X ρ (.elem (.arg 1761) (.add (.arg 60064) (.int 1)))).2 = 0 := by rw [xe1]; exact fun q => nz 0 (by decide) (congrArg Int64.toInt q)
    have z2 : ¬ (sd X ρ (.elem (.arg 1761) (.add (.arg 60064) (.int 2)))).2 = 0 := by rw [xe2]; exact fun q => nz 1 (by decide) (congrArg Int64.toInt q)
    have su : (ρ.2.2.2.1 1761 ((ρ.1 60064).toInt.toNat + 1 + 0)).toInt % 256 + (ρ.2.2.2.1 1761 ((ρ.1 60064).toInt.toNat + 1 + 1)).toInt % 256 ≤ 64 := by
      have e : ((List.range 2).map (fun i => ((ρ.2.2.2.1 1761) ((ρ.1 60064).toInt.toNat + 1 + i)).toInt % 256)).sum = (ρ.2.2.2.1 1761 ((ρ.1 60064).toInt.toNat + 1 + 0)).toInt % 256 + (ρ.2.2.2.1 1761 ((ρ.1 60064).toInt.toNat + 1 + 1)).toInt % 256 := by
        show (([0, 1] : List Nat).map _).sum = _
        simp only [List.map_cons, List.map_nil, List.sum_cons, List.sum_nil]
        omega
      rw [e] at su
      exact su
    obtain ⟨l1, u1, j1⟩ := mb_r (y := (sd X ρ (.elem (.arg 1761) (.add (.arg 60064) (.int 1)))).2)
    have w1 : ((sd X ρ (.elem (.arg 1761) (.add (.arg 60064) (.int 1)))).2 &&& 255).toInt = (ρ.2.2.2.1 1761 ((ρ.1 60064).toInt.toNat + 1 + 0)).toInt % 256 := by rw [mw_a, xe1]
    obtain ⟨l2, u2, j2⟩ := mb_r (y := (sd X ρ (.elem (.arg 1761) (.add (.arg 60064) (.int 2)))).2)
    have w2 : ((sd X ρ (.elem (.arg 1761) (.add (.arg 60064) (.int 2)))).2 &&& 255).toInt = (ρ.2.2.2.1 1761 ((ρ.1 60064).toInt.toNat + 1 + 1)).toInt % 256 := by rw [mw_a, xe2]
    have y64 : (64 : Int64).toInt = 64 := rfl
    have z64 : (64 : Int32).toInt = 64 := rfl
    have z0 : (0 : Int32).toInt = 0 := rfl
    have c1 : ((sd X ρ (.elem (.arg 1761) (.add (.arg 60064) (.int 1)))).2 &&& 255).toInt = ((sd X ρ (.elem (.arg 1761) (.add (.arg 60064) (.int 1)))).2 &&& 255).toInt := rfl
    have c2 : (((sd X ρ (.elem (.arg 1761) (.add (.arg 60064) (.int 1)))).2 &&& 255) + ((sd X ρ (.elem (.arg 1761) (.add (.arg 60064) (.int 2)))).2 &&& 255)).toInt = ((sd X ρ (.elem (.arg 1761) (.add (.arg 60064) (.int 1)))).2 &&& 255).toInt + ((sd X ρ (.elem (.arg 1761) (.add (.arg 60064) (.int 2)))).2 &&& 255).toInt := (l_add (by omega) (by omega)).trans (by omega)
    have d2 : (((sd X ρ (.elem (.arg 1761) (.add (.arg 60064) (.int 1)))).2 &&& 255).toInt32 + ((sd X ρ (.elem (.arg 1761) (.add (.arg 60064) (.int 2)))).2 &&& 255).toInt32).toInt = ((sd X ρ (.elem (.arg 1761) (.add (.arg 60064) (.int 1)))).2 &&& 255).toInt + ((sd X ρ (.elem (.arg 1761) (.add (.arg 60064) (.int 2)))).2 &&& 255).toInt := (s_add (by omega) (by omega)).trans (by omega)
    have ov : ¬ 64 < ((sd X ρ (.elem (.arg 1761) (.add (.arg 60064) (.int 1)))).2 &&& 255).toInt + ((sd X ρ (.elem (.arg 1761) (.add (.arg 60064) (.int 2)))).2 &&& 255).toInt := by omega
    exact t_mapon2k hv ρ k1 ⟨hF.1, fcn (decide_eq_true hV) (fcn (decide_eq_true hN) (fcn (decide_eq_false z1) (fcn (decide_eq_false z2) (fcn (dl_lf (x := 64) (y := (((sd X ρ (.elem (.arg 1761) (.add (.arg 60064) (.int 1)))).2 &&& 255) + ((sd X ρ (.elem (.arg 1761) (.add (.arg 60064) (.int 2)))).2 &&& 255))) (by rw [y64]; omega)) (fcn (di_lf (x := (((sd X ρ (.elem (.arg 1761) (.add (.arg 60064) (.int 1)))).2 &&& 255).toInt32 + ((sd X ρ (.elem (.arg 1761) (.add (.arg 60064) (.int 2)))).2 &&& 255).toInt32)) (y := 0) (by rw [z0]; omega)) (fcn (di_lf (x := 64) (y := (((sd X ρ (.elem (.arg 1761) (.add (.arg 60064) (.int 1)))).2 &&& 255).toInt32 + ((sd X ρ (.elem (.arg 1761) (.add (.arg 60064) (.int 2)))).2 &&& 255).toInt32)) (by rw [z64]; omega)) (hF.2)))))))⟩ hI k4
  · have hV : ρ.2.1 60033 = 3 := Int64.toInt_inj.mp h
    have hN : ρ.1 60000 = 3 := by rw [← en, hV]; rfl
    rw [h] at hc
    have hc : (0 : Int) = amcode (ρ.2.2.2.1 1761) (ρ.1 60064).toInt.toNat 3 := hc
    obtain ⟨nz, su⟩ := am_no hc.symm
    have z1 : ¬ (sd X ρ (.elem (.arg 1761) (.add (.arg 60064) (.int 1)))).2 = 0 := by rw [xe1]; exact fun q => nz 0 (by decide) (congrArg Int64.toInt q)
    have z2 : ¬ (sd X ρ (.elem (.arg 1761) (.add (.arg 60064) (.int 2)))).2 = 0 := by rw [xe2]; exact fun q => nz 1 (by decide) (congrArg Int64.toInt q)
    have z3 : ¬ (sd X ρ (.elem (.arg 1761) (.add (.arg 60064) (.int 3)))).2 = 0 := by rw [xe3]; exact fun q => nz 2 (by decide) (congrArg Int64.toInt q)
    have su : (ρ.2.2.2.1 1761 ((ρ.1 60064).toInt.toNat + 1 + 0)).toInt % 256 + (ρ.2.2.2.1 1761 ((ρ.1 60064).toInt.toNat + 1 + 1)).toInt % 256 + (ρ.2.2.2.1 1761 ((ρ.1 60064).toInt.toNat + 1 + 2)).toInt % 256 ≤ 64 := by
      have e : ((List.range 3).map (fun i => ((ρ.2.2.2.1 1761) ((ρ.1 60064).toInt.toNat + 1 + i)).toInt % 256)).sum = (ρ.2.2.2.1 1761 ((ρ.1 60064).toInt.toNat + 1 + 0)).toInt % 256 + (ρ.2.2.2.1 1761 ((ρ.1 60064).toInt.toNat + 1 + 1)).toInt % 256 + (ρ.2.2.2.1 1761 ((ρ.1 60064).toInt.toNat + 1 + 2)).toInt % 256 := by
        show (([0, 1, 2] : List Nat).map _).sum = _
        simp only [List.map_cons, List.map_nil, List.sum_cons, List.sum_nil]
        omega
      rw [e] at su
      exact su
    obtain ⟨l1, u1, j1⟩ := mb_r (y := (sd X ρ (.elem (.arg 1761) (.add (.arg 60064) (.int 1)))).2)
    have w1 : ((sd X ρ (.elem (.arg 1761) (.add (.arg 60064) (.int 1)))).2 &&& 255).toInt = (ρ.2.2.2.1 1761 ((ρ.1 60064).toInt.toNat + 1 + 0)).toInt % 256 := by rw [mw_a, xe1]
    obtain ⟨l2, u2, j2⟩ := mb_r (y := (sd X ρ (.elem (.arg 1761) (.add (.arg 60064) (.int 2)))).2)
    have w2 : ((sd X ρ (.elem (.arg 1761) (.add (.arg 60064) (.int 2)))).2 &&& 255).toInt = (ρ.2.2.2.1 1761 ((ρ.1 60064).toInt.toNat + 1 + 1)).toInt % 256 := by rw [mw_a, xe2]
    obtain ⟨l3, u3, j3⟩ := mb_r (y := (sd X ρ (.elem (.arg 1761) (.add (.arg 60064) (.int 3)))).2)
    have w3 : ((sd X ρ (.elem (.arg 1761) (.add (.arg 60064) (.int 3)))).2 &&& 255).toInt = (ρ.2.2.2.1 1761 ((ρ.1 60064).toInt.toNat + 1 + 2)).toInt % 256 := by rw [mw_a, xe3]
    have y64 : (64 : Int64).toInt = 64 := rfl
    have z64 : (64 : Int32).toInt = 64 := rfl
    have z0 : (0 : Int32).toInt = 0 := rfl
    have c1 : ((sd X ρ (.elem (.arg 1761) (.add (.arg 60064) (.int 1)))).2 &&& 255).toInt = ((sd X ρ (.elem (.arg 1761) (.add (.arg 60064) (.int 1)))).2 &&& 255).toInt := rfl
    have c2 : (((sd X ρ (.elem (.arg 1761) (.add (.arg 60064) (.int 1)))).2 &&& 255) + ((sd X ρ (.elem (.arg 1761) (.add (.arg 60064) (.int 2)))).2 &&& 255)).toInt = ((sd X ρ (.elem (.arg 1761) (.add (.arg 60064) (.int 1)))).2 &&& 255).toInt + ((sd X ρ (.elem (.arg 1761) (.add (.arg 60064) (.int 2)))).2 &&& 255).toInt := (l_add (by omega) (by omega)).trans (by omega)
    have d2 : (((sd X ρ (.elem (.arg 1761) (.add (.arg 60064) (.int 1)))).2 &&& 255).toInt32 + ((sd X ρ (.elem (.arg 1761) (.add (.arg 60064) (.int 2)))).2 &&& 255).toInt32).toInt = ((sd X ρ (.elem (.arg 1761) (.add (.arg 60064) (.int 1)))).2 &&& 255).toInt + ((sd X ρ (.elem (.arg 1761) (.add (.arg 60064) (.int 2)))).2 &&& 255).toInt := (s_add (by omega) (by omega)).trans (by omega)
    have c3 : ((((sd X ρ (.elem (.arg 1761) (.add (.arg 60064) (.int 1)))).2 &&& 255) + ((sd X ρ (.elem (.arg 1761) (.add (.arg 60064) (.int 2)))).2 &&& 255)) + ((sd X ρ (.elem (.arg 1761) (.add (.arg 60064) (.int 3)))).2 &&& 255)).toInt = ((sd X ρ (.elem (.arg 1761) (.add (.arg 60064) (.int 1)))).2 &&& 255).toInt + ((sd X ρ (.elem (.arg 1761) (.add (.arg 60064) (.int 2)))).2 &&& 255).toInt + ((sd X ρ (.elem (.arg 1761) (.add (.arg 60064) (.int 3)))).2 &&& 255).toInt := (l_add (by omega) (by omega)).trans (by omega)
    have d3 : ((((sd X ρ (.elem (.arg 1761) (.add (.arg 60064) (.int 1)))).2 &&& 255).toInt32 + ((sd X ρ (.elem (.arg 1761) (.add (.arg 60064) (.int 2)))).2 &&& 255).toInt32) + ((sd X ρ (.elem (.arg 1761) (.add (.arg 60064) (.int 3)))).2 &&& 255).toInt32).toInt = ((sd X ρ (.elem (.arg 1761) (.add (.arg 60064) (.int 1)))).2 &&& 255).toInt + ((sd X ρ (.elem (.arg 1761) (.add (.arg 60064) (.int 2)))).2 &&& 255).toInt + ((sd X ρ (.elem (.arg 1761) (.add (.arg 60064) (.int 3)))).2 &&& 255).toInt := (s_add (by omega) (by omega)).trans (by omega)
    have ov : ¬ 64 < ((sd X ρ (.elem (.arg 1761) (.add (.arg 60064) (.int 1)))).2 &&& 255).toInt + ((sd X ρ (.elem (.arg 1761) (.add (.arg 60064) (.int 2)))).2 &&& 255).toInt + ((sd X ρ (.elem (.arg 1761) (.add (.arg 60064) (.int 3)))).2 &&& 255).toInt := by omega
    exact t_mapon3k hv ρ k1 ⟨hF.1, fcn (decide_eq_true hV) (fcn (decide_eq_true hN) (fcn (decide_eq_false z1) (fcn (decide_eq_false z2) (fcn (decide_eq_false z3) (fcn (dl_lf (x := 64) (y := ((((sd X ρ (.elem (.arg 1761) (.add (.arg 60064) (.int 1)))).2 &&& 255) + ((sd X ρ (.elem (.arg 1761) (.add (.arg 60064) (.int 2)))).2 &&& 255)) + ((sd X ρ (.elem (.arg 1761) (.add (.arg 60064) (.int 3)))).2 &&& 255))) (by rw [y64]; omega)) (fcn (di_lf (x := ((((sd X ρ (.elem (.arg 1761) (.add (.arg 60064) (.int 1)))).2 &&& 255).toInt32 + ((sd X ρ (.elem (.arg 1761) (.add (.arg 60064) (.int 2)))).2 &&& 255).toInt32) + ((sd X ρ (.elem (.arg 1761) (.add (.arg 60064) (.int 3)))).2 &&& 255).toInt32)) (y := 0) (by rw [z0]; omega)) (fcn (di_lf (x := 64) (y := ((((sd X ρ (.elem (.arg 1761) (.add (.arg 60064) (.int 1)))).2 &&& 255).toInt32 + ((sd X ρ (.elem (.arg 1761) (.add (.arg 60064) (.int 2)))).2 &&& 255).toInt32) + ((sd X ρ (.elem (.arg 1761) (.add (.arg 60064) (.int 3)))).2 &&& 255).toInt32)) (by rw [z64]; omega)) (hF.2))))))))⟩ hI k4
  · have hV : ρ.2.1 60033 = 4 := Int64.toInt_inj.mp h
    have hN : ρ.1 60000 = 4 := by rw [← en, hV]; rfl
    rw [h] at hc
    have hc : (0 : Int) = amcode (ρ.2.2.2.1 1761) (ρ.1 60064).toInt.toNat 4 := hc
    obtain ⟨nz, su⟩ := am_no hc.symm
    have z1 : ¬ (sd X ρ (.elem (.arg 1761) (.add (.arg 60064) (.int 1)))).2 = 0 := by rw [xe1]; exact fun q => nz 0 (by decide) (congrArg Int64.toInt q)
    have z2 : ¬ (sd X ρ (.elem (.arg 1761) (.add (.arg 60064) (.int 2)))).2 = 0 := by rw [xe2]; exact fun q => nz 1 (by decide) (congrArg Int64.toInt q)
    have z3 : ¬ (sd X ρ (.elem (.arg 1761) (.add (.arg 60064) (.int 3)))).2 = 0 := by rw [xe3]; exact fun q => nz 2 (by decide) (congrArg Int64.toInt q)
    have z4 : ¬ (sd X ρ (.elem (.arg 1761) (.add (.arg 60064) (.int 4)))).2 = 0 := by rw [xe4]; exact fun q => nz 3 (by decide) (congrArg Int64.toInt q)
    have su : (ρ.2.2.2.1 1761 ((ρ.1 60064).toInt.toNat + 1 + 0)).toInt % 256 + (ρ.2.2.2.1 1761 ((ρ.1 60064).toInt.toNat + 1 + 1)).toInt % 256 + (ρ.2.2.2.1 1761 ((ρ.1 60064).toInt.toNat + 1 + 2)).toInt % 256 + (ρ.2.2.2.1 1761 ((ρ.1 60064).toInt.toNat + 1 + 3)).toInt % 256 ≤ 64 := by
      have e : ((List.range 4).map (fun i => ((ρ.2.2.2.1 1761) ((ρ.1 60064).toInt.toNat + 1 + i)).toInt % 256)).sum = (ρ.2.2.2.1 1761 ((ρ.1 60064).toInt.toNat + 1 + 0)).toInt % 256 + (ρ.2.2.2.1 1761 ((ρ.1 60064).toInt.toNat + 1 + 1)).toInt % 256 + (ρ.2.2.2.1 1761 ((ρ.1 60064).toInt.toNat + 1 + 2)).toInt % 256 + (ρ.2.2.2.1 1761 ((ρ.1 60064).toInt.toNat + 1 + 3)).toInt % 256 := by
        show (([0, 1, 2, 3] : List Nat).map _).sum = _
        simp only [List.map_cons, List.map_nil, List.sum_cons, List.sum_nil]
        omega
      rw [e] at su
      exact su
    obtain ⟨l1, u1, j1⟩ := mb_r (y := (sd X ρ (.elem (.arg 1761) (.add (.arg 60064) (.int 1)))).2)
    have w1 : ((sd X ρ (.elem (.arg 1761) (.add (.arg 60064) (.int 1)))).2 &&& 255).toInt = (ρ.2.2.2.1 1761 ((ρ.1 60064).toInt.toNat + 1 + 0)).toInt % 256 := by rw [mw_a, xe1]
    obtain ⟨l2, u2, j2⟩ := mb_r (y := (sd X ρ (.elem (.arg 1761) (.add (.arg 60064) (.int 2)))).2)
    have w2 : ((sd X ρ (.elem (.arg 1761) (.add (.arg 60064) (.int 2)))).2 &&& 255).toInt = (ρ.2.2.2.1 1761 ((ρ.1 60064).toInt.toNat + 1 + 1)).toInt % 256 := by rw [mw_a, xe2]
    obtain ⟨l3, u3, j3⟩ := mb_r (y := (sd X ρ (.elem (.arg 1761) (.add (.arg 60064) (.int 3)))).2)
    have w3 : ((sd X ρ (.elem (.arg 1761) (.add (.arg 60064) (.int 3)))).2 &&& 255).toInt = (ρ.2.2.2.1 1761 ((ρ.1 60064).toInt.toNat + 1 + 2)).toInt % 256 := by rw [mw_a, xe3]
    obtain ⟨l4, u4, j4⟩ := mb_r (y := (sd X ρ (.elem (.arg 1761) (.add (.arg 60064) (.int 4)))).2)
    have w4 : ((sd X ρ (.elem (.arg 1761) (.add (.arg 60064) (.int 4)))).2 &&& 255).toInt = (ρ.2.2.2.1 1761 ((ρ.1 60064).toInt.toNat + 1 + 3)).toInt % 256 := by rw [mw_a, xe4]
    have y64 : (64 : Int64).toInt = 64 := rfl
    have z64 : (64 : Int32).toInt = 64 := rfl
    have z0 : (0 : Int32).toInt = 0 := rfl
    have c1 : ((sd X ρ (.elem (.arg 1761) (.add (.arg 60064) (.int 1)))).2 &&& 255).toInt = ((sd X ρ (.elem (.arg 1761) (.add (.arg 60064) (.int 1)))).2 &&& 255).toInt := rfl
    have c2 : (((sd X ρ (.elem (.arg 1761) (.add (.arg 60064) (.int 1)))).2 &&& 255) + ((sd X ρ (.elem (.arg 1761) (.add (.arg 60064) (.int 2)))).2 &&& 255)).toInt = ((sd X ρ (.elem (.arg 1761) (.add (.arg 60064) (.int 1)))).2 &&& 255).toInt + ((sd X ρ (.elem (.arg 1761) (.add (.arg 60064) (.int 2)))).2 &&& 255).toInt := (l_add (by omega) (by omega)).trans (by omega)
    have d2 : (((sd X ρ (.elem (.arg 1761) (.add (.arg 60064) (.int 1)))).2 &&& 255).toInt32 + ((sd X ρ (.elem (.arg 1761) (.add (.arg 60064) (.int 2)))).2 &&& 255).toInt32).toInt = ((sd X ρ (.elem (.arg 1761) (.add (.arg 60064) (.int 1)))).2 &&& 255).toInt + ((sd X ρ (.elem (.arg 1761) (.add (.arg 60064) (.int 2)))).2 &&& 255).toInt := (s_add (by omega) (by omega)).trans (by omega)
    have c3 : ((((sd X ρ (.elem (.arg 1761) (.add (.arg 60064) (.int 1)))).2 &&& 255) + ((sd X ρ (.elem (.arg 1761) (.add (.arg 60064) (.int 2)))).2 &&& 255)) + ((sd X ρ (.elem (.arg 1761) (.add (.arg 60064) (.int 3)))).2 &&& 255)).toInt = ((sd X ρ (.elem (.arg 1761) (.add (.arg 60064) (.int 1)))).2 &&& 255).toInt + ((sd X ρ (.elem (.arg 1761) (.add (.arg 60064) (.int 2)))).2 &&& 255).toInt + ((sd X ρ (.elem (.arg 1761) (.add (.arg 60064) (.int 3)))).2 &&& 255).toInt := (l_add (by omega) (by omega)).trans (by omega)
    have d3 : ((((sd X ρ (.elem (.arg 1761) (.add (.arg 60064) (.int 1)))).2 &&& 255).toInt32 + ((sd X ρ (.elem (.arg 1761) (.add (.arg 60064) (.int 2)))).2 &&& 255).toInt32) + ((sd X ρ (.elem (.arg 1761) (.add (.arg 60064) (.int 3)))).2 &&& 255).toInt32).toInt = ((sd X ρ (.elem (.arg 1761) (.add (.arg 60064) (.int 1)))).2 &&& 255).toInt + ((sd X ρ (.elem (.arg 1761) (.add (.arg 60064) (.int 2)))).2 &&& 255).toInt + ((sd X ρ (.elem (.arg 1761) (.add (.arg 60064) (.int 3)))).2 &&& 255).toInt := (s_add (by omega) (by omega)).trans (by omega)
    have c4 : (((((sd X ρ (.elem (.arg 1761) (.add (.arg 60064) (.int 1)))).2 &&& 255) + ((sd X ρ (.elem (.arg 1761) (.add (.arg 60064) (.int 2)))).2 &&& 255)) + ((sd X ρ (.elem (.arg 1761) (.add (.arg 60064) (.int 3)))).2 &&& 255)) + ((sd X ρ (.elem (.arg 1761) (.add (.arg 60064) (.int 4)))).2 &&& 255)).toInt = ((sd X ρ (.elem (.arg 1761) (.add (.arg 60064) (.int 1)))).2 &&& 255).toInt + ((sd X ρ (.elem (.arg 1761) (.add (.arg 60064) (.int 2)))).2 &&& 255).toInt + ((sd X ρ (.elem (.arg 1761) (.add (.arg 60064) (.int 3)))).2 &&& 255).toInt + ((sd X ρ (.elem (.arg 1761) (.add (.arg 60064) (.int 4)))).2 &&& 255).toInt := (l_add (by omega) (by omega)).trans (by omega)
    have d4 : (((((sd X ρ (.elem (.arg 1761) (.add (.arg 60064) (.int 1)))).2 &&& 255).toInt32 + ((sd X ρ (.elem (.arg 1761) (.add (.arg 60064) (.int 2)))).2 &&& 255).toInt32) + ((sd X ρ (.elem (.arg 1761) (.add (.arg 60064) (.int 3)))).2 &&& 255).toInt32) + ((sd X ρ (.elem (.arg 1761) (.add (.arg 60064) (.int 4)))).2 &&& 255).toInt32).toInt = ((sd X ρ (.elem (.arg 1761) (.add (.arg 60064) (.int 1)))).2 &&& 255).toInt + ((sd X ρ (.elem (.arg 1761) (.add (.arg 60064) (.int 2)))).2 &&& 255).toInt + ((sd X ρ (.elem (.arg 1761) (.add (.arg 60064) (.int 3)))).2 &&& 255).toInt + ((sd X ρ (.elem (.arg 1761) (.add (.arg 60064) (.int 4)))).2 &&& 255).toInt := (s_add (by omega) (by omega)).trans (by omega)
    have ov : ¬ 64 < ((sd X ρ (.elem (.arg 1761) (.add (.arg 60064) (.int 1)))).2 &&& 255).toInt + ((sd X ρ (.elem (.arg 1761) (.add (.arg 60064) (.int 2)))).2 &&& 255).toInt + ((sd X ρ (.elem (.arg 1761) (.add (.arg 60064) (.int 3)))).2 &&& 255).toInt + ((sd X ρ (.elem (.arg 1761) (.add (.arg 60064) (.int 4)))).2 &&& 255).toInt := by omega
    exact t_mapon4k hv ρ k1 ⟨hF.1, fcn (decide_eq_true hV) (fcn (decide_eq_true hN) (fcn (decide_eq_false z1) (fcn (decide_eq_false z2) (fcn (decide_eq_false z3) (fcn (decide_eq_false z4) (fcn (dl_lf (x := 64) (y := (((((sd X ρ (.elem (.arg 1761) (.add (.arg 60064) (.int 1)))).2 &&& 255) + ((sd X ρ (.elem (.arg 1761) (.add (.arg 60064) (.int 2)))).2 &&& 255)) + ((sd X ρ (.elem (.arg 1761) (.add (.arg 60064) (.int 3)))).2 &&& 255)) + ((sd X ρ (.elem (.arg 1761) (.add (.arg 60064) (.int 4)))).2 &&& 255))) (by rw [y64]; omega)) (fcn (di_lf (x := (((((sd X ρ (.elem (.arg 1761) (.add (.arg 60064) (.int 1)))).2 &&& 255).toInt32 + ((sd X ρ (.elem (.arg 1761) (.add (.arg 60064) (.int 2)))).2 &&& 255).toInt32) + ((sd X ρ (.elem (.arg 1761) (.add (.arg 60064) (.int 3)))).2 &&& 255).toInt32) + ((sd X ρ (.elem (.arg 1761) (.add (.arg 60064) (.int 4)))).2 &&& 255).toInt32)) (y := 0) (by rw [z0]; omega)) (fcn (di_lf (x := 64) (y := (((((sd X ρ (.elem (.arg 1761) (.add (.arg 60064) (.int 1)))).2 &&& 255).toInt32 + ((sd X ρ (.elem (.arg 1761) (.add (.arg 60064) (.int 2)))).2 &&& 255).toInt32) + ((sd X ρ (.elem (.arg 1761) (.add (.arg 60064) (.int 3)))).2 &&& 255).toInt32) + ((sd X ρ (.elem (.arg 1761) (.add (.arg 60064) (.int 4)))).2 &&& 255).toInt32)) (by rw [z64]; omega)) (hF.2)))))))))⟩ hI k4
theorem e_mapo : frun kR [] (cpl1 zWP c_mapo [q_mapo]) (cpl2 zWP c_mapo [q_mapo]) (cleaf kR zWP c_mapo [q_mapo]) 10 65536 (isatP (c_mapo.2.2.2.1) c_mapo.2.2.2.2.2.2.2.1) c_mapo.2.2.2.2.2.2.2.1 (sin0 mt_all c_mapo.1.1 5 c_mapo.2.1.1 (foot zWP c_mapo.2.2.1.1)) (sin0 mt_all c_mapo.1.2.1 5 c_mapo.2.1.2 (foot zWP c_mapo.2.2.1.2)) = true := by decide +kernel
theorem s_mapo {X : pX} : SREL X pF pdfl mt_all kR zWP c_mapo := SREL_QC kR_x kR_0 (Cs := []) (fun C hC => by cases hC) (d := 5) rfl c_mapo_f (Q := [q_mapo]) (fun ρ0 hv => fun q hq => by
    simp only [List.mem_cons, List.not_mem_nil, or_false] at hq
    rw [hq]; exact t_mapo hv) (QC_run 10 e_mapo)
/-! ===== what is wrong with a map: mapCode and mapBits, a row of it is a gap ===== -/
noncomputable def c_mapn : sC := ((9, 272, 6), ([tr 42, .arg 60064, .arg 60033], [tr 219, .arg 1308, .arg 60096, .arg 60000]), ([42, 43], [219, 229, 228, 220, 221]), [((2, .arg 60064, .int 50), false), ((2, .int 105, .arg 60064), false), ((2, .arg 60096, .int 0), false), ((2, .int 65535, .arg 60096), false), ((109, .add (.arg 60096) (.int 1), .add (.arg 60064) (.int 1)), true), ((109, .add (.arg 60096) (.int 2), .add (.arg 60064) (.int 2)), true), ((109, .add (.arg 60096) (.int 3), .add (.arg 60064) (.int 3)), true), ((109, .add (.arg 60096) (.int 4), .add (.arg 60064) (.int 4)), true), ((8, .arg 60033, .long 0), false), ((8, .long 4, .arg 60033), false), ((0, .op1 .l2i (.arg 60033), .arg 60000), true), ((139, .add (.elem (.arg 1761) (.int 0)) (.add (.arg 60064) (.arg 60033)), .int 100925505), true)], ([60160, 60192], []), (some (.int 100925505), some (.int (-1))), [], ([], []))
theorem c_mapn_f : cfine zWP 65536 c_mapn = true := by decide +kernel
noncomputable def q_mapn : sCut := ((fr 0 9 0 [(0, tr 42), (1, .arg 60064), (2, .arg 60033)] [], [fBot], 5), (fr 0 272 0 [(0, tr 219), (1, .arg 1308), (2, .arg 60096), (3, .arg 60000)] [], [fBot], 5), [((2, .arg 60064, .int 50), false), ((2, .int 105, .arg 60064), false), ((2, .arg 60096, .int 0), false), ((2, .int 65535, .arg 60096), false), ((109, .add (.arg 60096) (.int 1), .add (.arg 60064) (.int 1)), true), ((109, .add (.arg 60096) (.int 2), .add (.arg 60064) (.int 2)), true), ((109, .add (.arg 60096) (.int 3), .add (.arg 60064) (.int 3)), true), ((109, .add (.arg 60096) (.int 4), .add (.arg 60064) (.int 4)), true), ((8, .arg 60033, .long 0), false), ((8, .long 4, .arg 60033), false), ((0, .op1 .l2i (.arg 60033), .arg 60000), true), ((139, .add (.elem (.arg 1761) (.int 0)) (.add (.arg 60064) (.arg 60033)), .int 100925505), true)], [])
noncomputable def q_mapnn1z1 : sCut := ((fr 0 9 0 [(0, tr 42), (1, .arg 60064), (2, .arg 60033)] [], [fBot], 5), (fr 0 272 0 [(0, tr 219), (1, .arg 1308), (2, .arg 60096), (3, .arg 60000)] [], [fBot], 5), [((6, .arg 60033, .long 1), true), ((0, .arg 60000, .int 1), true), ((6, .elem (.arg 1761) (.add (.arg 60064) (.int 1)), .long 0), true), ((2, .arg 60064, .int 50), false), ((2, .int 105, .arg 60064), false), ((2, .arg 60096, .int 0), false), ((2, .int 65535, .arg 60096), false), ((109, .add (.arg 60096) (.int 1), .add (.arg 60064) (.int 1)), true), ((109, .add (.arg 60096) (.int 2), .add (.arg 60064) (.int 2)), true), ((109, .add (.arg 60096) (.int 3), .add (.arg 60064) (.int 3)), true), ((109, .add (.arg 60096) (.int 4), .add (.arg 60064) (.int 4)), true), ((8, .arg 60033, .long 0), false), ((8, .long 4, .arg 60033), false), ((0, .op1 .l2i (.arg 60033), .arg 60000), true), ((139, .add (.elem (.arg 1761) (.int 0)) (.add (.arg 60064) (.arg 60033)), .int 100925505), true)], [])
theorem k_mapnn1z1 : cbody kR [(zWP, c_fndl)] (cpl1 zWP c_mapn []) (cpl2 zWP c_mapn []) (cleaf kR zWP c_mapn []) 300 true true q_mapnn1z1.2.2.1 q_mapnn1z1.2.2.2 (cst zWP c_mapn.2.2.1.1 q_mapnn1z1.1) (cst zWP c_mapn.2.2.1.2 q_mapnn1z1.2.1) = true := by decide +kernel
theorem t_mapnn1z1 {X : pX} {ρ0 : sR} (hv : vok X ρ0) : CUTOK X kR zWP c_mapn 5 ρ0 q_mapnn1z1 := CUT_run kR_x kR_0 (Cs := [(zWP, c_fndl)]) (fun C hC => by rw [List.mem_singleton.mp hC]; exact s_fndl) c_mapn_f (Q := []) hv (fun q hq => by cases hq) 300 (b1 := true) (b2 := true) k_mapnn1z1
noncomputable def q_mapnn2z1 : sCut := ((fr 0 9 0 [(0, tr 42), (1, .arg 60064), (2, .arg 60033)] [], [fBot], 5), (fr 0 272 0 [(0, tr 219), (1, .arg 1308), (2, .arg 60096), (3, .arg 60000)] [], [fBot], 5), [((6, .arg 60033, .long 2), true), ((0, .arg 60000, .int 2), true), ((6, .elem (.arg 1761) (.add (.arg 60064) (.int 1)), .long 0), true), ((2, .arg 60064, .int 50), false), ((2, .int 105, .arg 60064), false), ((2, .arg 60096, .int 0), false), ((2, .int 65535, .arg 60096), false), ((109, .add (.arg 60096) (.int 1), .add (.arg 60064) (.int 1)), true), ((109, .add (.arg 60096) (.int 2), .add (.arg 60064) (.int 2)), true), ((109, .add (.arg 60096) (.int 3), .add (.arg 60064) (.int 3)), true), ((109, .add (.arg 60096) (.int 4), .add (.arg 60064) (.int 4)), true), ((8, .arg 60033, .long 0), false), ((8, .long 4, .arg 60033), false), ((0, .op1 .l2i (.arg 60033), .arg 60000), true), ((139, .add (.elem (.arg 1761) (.int 0)) (.add (.arg 60064) (.arg 60033)), .int 100925505), true)], [])
theorem k_mapnn2z1 : cbody kR [(zWP, c_fndl)] (cpl1 zWP c_mapn []) (cpl2 zWP c_mapn []) (cleaf kR zWP c_mapn []) 300 true true q_mapnn2z1.2.2.1 q_mapnn2z1.2.2.2 (cst zWP c_mapn.2.2.1.1 q_mapnn2z1.1) (cst zWP c_mapn.2.2.1.2 q_mapnn2z1.2.1) = true := by decide +kernel
theorem t_mapnn2z1 {X : pX} {ρ0 : sR} (hv : vok X ρ0) : CUTOK X kR zWP c_mapn 5 ρ0 q_mapnn2z1 := CUT_run kR_x kR_0 (Cs := [(zWP, c_fndl)]) (fun C hC => by rw [List.mem_singleton.mp hC]; exact s_fndl) c_mapn_f (Q := []) hv (fun q hq => by cases hq) 300 (b1 := true) (b2 := true) k_mapnn2z1
noncomputable def q_mapnn2z2 : sCut := ((fr 0 9 0 [(0, tr 42), (1, .arg 60064), (2, .arg 60033)] [], [fBot], 5), (fr 0 272 0 [(0, tr 219), (1, .arg 1308), (2, .arg 60096), (3, .arg 60000)] [], [fBot], 5), [((6, .arg 60033, .long 2), true), ((0, .arg 60000, .int 2), true), ((6, .elem (.arg 1761) (.add (.arg 60064) (.int 1)), .long 0), false), ((6, .elem (.arg 1761) (.add (.arg 60064) (.int 2)), .long 0), true), ((2, .arg 60064, .int 50), false), ((2, .int 105, .arg 60064), false), ((2, .arg 60096, .int 0), false), ((2, .int 65535, .arg 60096), false), ((109, .add (.arg 60096) (.int 1), .add (.arg 60064) (.int 1)), true), ((109, .add (.arg 60096) (.int 2), .add (.arg 60064) (.int 2)), true), ((109, .add (.arg 60096) (.int 3), .add (.arg 60064) (.int 3)), true), ((109, .add (.arg 60096) (.int 4), .add (.arg 60064) (.int 4)), true), ((8, .arg 60033, .long 0), false), ((8, .long 4, .arg 60033), false), ((0, .op1 .l2i (.arg 60033), .arg 60000), true), ((139, .add (.elem (.arg 1761) (.int 0)) (.add (.arg 60064) (.arg 60033)), .int 100925505), true)], [])
theorem k_mapnn2z2 : cbody kR [(zWP, c_fndl)] (cpl1 zWP c_mapn []) (cpl2 zWP c_mapn []) (cleaf kR zWP c_mapn []) 300 true true q_mapnn2z2.2.2.1 q_mapnn2z2.2.2.2 (cst zWP c_mapn.2.2.1.1 q_mapnn2z2.1) (cst zWP c_mapn.2.2.1.2 q_mapnn2z2.2.1) = true := by decide +kernel
theorem t_mapnn2z2 {X : pX} {ρ0 : sR} (hv : vok X ρ0) : CUTOK X kR zWP c_mapn 5 ρ0 q_mapnn2z2 := CUT_run kR_x kR_0 (Cs := [(zWP, c_fndl)]) (fun C hC => by rw [List.mem_singleton.mp hC]; exact s_fndl) c_mapn_f (Q := []) hv (fun q hq => by cases hq) 300 (b1 := true) (b2 := true) k_mapnn2z2
noncomputable def q_mapnn3z1 : sCut := ((fr 0 9 0 [(0, tr 42), (1, .arg 60064), (2, .arg 60033)] [], [fBot], 5), (fr 0 272 0 [(0, tr 219), (1, .arg 1308), (2, .arg 60096), (3, .arg 60000)] [], [fBot], 5), [((6, .arg 60033, .long 3), true), ((0, .arg 60000, .int 3), true), ((6, .elem (.arg 1761) (.add (.arg 60064) (.int 1)), .long 0), true), ((2, .arg 60064, .int 50), false), ((2, .int 105, .arg 60064), false), ((2, .arg 60096, .int 0), false), ((2, .int 65535, .arg 60096), false), ((109, .add (.arg 60096) (.int 1), .add (.arg 60064) (.int 1)), true), ((109, .add (.arg 60096) (.int 2), .add (.arg 60064) (.int 2)), true), ((109, .add (.arg 60096) (.int 3), .add (.arg 60064) (.int 3)), true), ((109, .add (.arg 60096) (.int 4), .add (.arg 60064) (.int 4)), true), ((8, .arg 60033, .long 0), false), ((8, .long 4, .arg 60033), false), ((0, .op1 .l2i (.arg 60033), .arg 60000), true), ((139, .add (.elem (.arg 1761) (.int 0)) (.add (.arg 60064) (.arg 60033)), .int 100925505), true)], [])
theorem k_mapnn3z1 : cbody kR [(zWP, c_fndl)] (cpl1 zWP c_mapn []) (cpl2 zWP c_mapn []) (cleaf kR zWP c_mapn []) 300 true true q_mapnn3z1.2.2.1 q_mapnn3z1.2.2.2 (cst zWP c_mapn.2.2.1.1 q_mapnn3z1.1) (cst zWP c_mapn.2.2.1.2 q_mapnn3z1.2.1) = true := by decide +kernel
theorem t_mapnn3z1 {X : pX} {ρ0 : sR} (hv : vok X ρ0) : CUTOK X kR zWP c_mapn 5 ρ0 q_mapnn3z1 := CUT_run kR_x kR_0 (Cs := [(zWP, c_fndl)]) (fun C hC => by rw [List.mem_singleton.mp hC]; exact s_fndl) c_mapn_f (Q := []) hv (fun q hq => by cases hq) 300 (b1 := true) (b2 := true) k_mapnn3z1
noncomputable def q_mapnn3z2 : sCut := ((fr 0 9 0 [(0, tr 42), (1, .arg 60064), (2, .arg 60033)] [], [fBot], 5), (fr 0 272 0 [(0, tr 219), (1, .arg 1308), (2, .arg 60096), (3, .arg 60000)] [], [fBot], 5), [((6, .arg 60033, .long 3), true), ((0, .arg 60000, .int 3), true), ((6, .elem (.arg 1761) (.add (.arg 60064) (.int 1)), .long 0), false), ((6, .elem (.arg 1761) (.add (.arg 60064) (.int 2)), .long 0), true), ((2, .arg 60064, .int 50), false), ((2, .int 105, .arg 60064), false), ((2, .arg 60096, .int 0), false), ((2, .int 65535, .arg 60096), false), ((109, .add (.arg 60096) (.int 1), .add (.arg 60064) (.int 1)), true), ((109, .add (.arg 60096) (.int 2), .add (.arg 60064) (.int 2)), true), ((109, .add (.arg 60096) (.int 3), .add (.arg 60064) (.int 3)), true), ((109, .add (.arg 60096) (.int 4), .add (.arg 60064) (.int 4)), true), ((8, .arg 60033, .long 0), false), ((8, .long 4, .arg 60033), false), ((0, .op1 .l2i (.arg 60033), .arg 60000), true), ((139, .add (.elem (.arg 1761) (.int 0)) (.add (.arg 60064) (.arg 60033)), .int 100925505), true)], [])
theorem k_mapnn3z2 : cbody kR [(zWP, c_fndl)] (cpl1 zWP c_mapn []) (cpl2 zWP c_mapn []) (cleaf kR zWP c_mapn []) 300 true true q_mapnn3z2.2.2.1 q_mapnn3z2.2.2.2 (cst zWP c_mapn.2.2.1.1 q_mapnn3z2.1) (cst zWP c_mapn.2.2.1.2 q_mapnn3z2.2.1) = true := by decide +kernel
theorem t_mapnn3z2 {X : pX} {ρ0 : sR} (hv : vok X ρ0) : CUTOK X kR zWP c_mapn 5 ρ0 q_mapnn3z2 := CUT_run kR_x kR_0 (Cs := [(zWP, c_fndl)]) (fun C hC => by rw [List.mem_singleton.mp hC]; exact s_fndl) c_mapn_f (Q := []) hv (fun q hq => by cases hq) 300 (b1 := true) (b2 := true) k_mapnn3z2
noncomputable def q_mapnn3z3 : sCut := ((fr 0 9 0 [(0, tr 42), (1, .arg 60064), (2, .arg 60033)] [], [fBot], 5), (fr 0 272 0 [(0, tr 219), (1, .arg 1308), (2, .arg 60096), (3, .arg 60000)] [], [fBot], 5), [((6, .arg 60033, .long 3), true), ((0, .arg 60000, .int 3), true), ((6, .elem (.arg 1761) (.add (.arg 60064) (.int 1)), .long 0), false), ((6, .elem (.arg 1761) (.add (.arg 60064) (.int 2)), .long 0), false), ((6, .elem (.arg 1761) (.add (.arg 60064) (.int 3)), .long 0), true), ((2, .arg 60064, .int 50), false), ((2, .int 105, .arg 60064), false), ((2, .arg 60096, .int 0), false), ((2, .int 65535, .arg 60096), false), ((109, .add (.arg 60096) (.int 1), .add (.arg 60064) (.int 1)), true), ((109, .add (.arg 60096) (.int 2), .add (.arg 60064) (.int 2)), true), ((109, .add (.arg 60096) (.int 3), .add (.arg 60064) (.int 3)), true), ((109, .add (.arg 60096) (.int 4), .add (.arg 60064) (.int 4)), true), ((8, .arg 60033, .long 0), false), ((8, .long 4, .arg 60033), false), ((0, .op1 .l2i (.arg 60033), .arg 60000), true), ((139, .add (.elem (.arg 1761) (.int 0)) (.add (.arg 60064) (.arg 60033)), .int 100925505), true)], [])
theorem k_mapnn3z3 : cbody kR [(zWP, c_fndl)] (cpl1 zWP c_mapn []) (cpl2 zWP c_mapn []) (cleaf kR zWP c_mapn []) 300 true true q_mapnn3z3.2.2.1 q_mapnn3z3.2.2.2 (cst zWP c_mapn.2.2.1.1 q_mapnn3z3.1) (cst zWP c_mapn.2.2.1.2 q_mapnn3z3.2.1) = true := by decide +kernel
theorem t_mapnn3z3 {X : pX} {ρ0 : sR} (hv : vok X ρ0) : CUTOK X kR zWP c_mapn 5 ρ0 q_mapnn3z3 := CUT_run kR_x kR_0 (Cs := [(zWP, c_fndl)]) (fun C hC => by rw [List.mem_singleton.mp hC]; exact s_fndl) c_mapn_f (Q := []) hv (fun q hq => by cases hq) 300 (b1 := true) (b2 := true) k_mapnn3z3
noncomputable def q_mapnn4z1 : sCut := ((fr 0 9 0 [(0, tr 42), (1, .arg 60064), (2, .arg 60033)] [], [fBot], 5), (fr 0 272 0 [(0, tr 219), (1, .arg 1308), (2, .arg 60096), (3, .arg 60000)] [], [fBot], 5), [((6, .arg 60033, .long 4), true), ((0, .arg 60000, .int 4), true), ((6, .elem (.arg 1761) (.add (.arg 60064) (.int 1)), .long 0), true), ((2, .arg 60064, .int 50), false), ((2, .int 105, .arg 60064), false), ((2, .arg 60096, .int 0), false), ((2, .int 65535, .arg 60096), false), ((109, .add (.arg 60096) (.int 1), .add (.arg 60064) (.int 1)), true), ((109, .add (.arg 60096) (.int 2), .add (.arg 60064) (.int 2)), true), ((109, .add (.arg 60096) (.int 3), .add (.arg 60064) (.int 3)), true), ((109, .add (.arg 60096) (.int 4), .add (.arg 60064) (.int 4)), true), ((8, .arg 60033, .long 0), false), ((8, .long 4, .arg 60033), false), ((0, .op1 .l2i (.arg 60033), .arg 60000), true), ((139, .add (.elem (.arg 1761) (.int 0)) (.add (.arg 60064) (.arg 60033)), .int 100925505), true)], [])
theorem k_mapnn4z1 : cbody kR [(zWP, c_fndl)] (cpl1 zWP c_mapn []) (cpl2 zWP c_mapn []) (cleaf kR zWP c_mapn []) 300 true true q_mapnn4z1.2.2.1 q_mapnn4z1.2.2.2 (cst zWP c_mapn.2.2.1.1 q_mapnn4z1.1) (cst zWP c_mapn.2.2.1.2 q_mapnn4z1.2.1) = true := by decide +kernel
theorem t_mapnn4z1 {X : pX} {ρ0 : sR} (hv : vok X ρ0) : CUTOK X kR zWP c_mapn 5 ρ0 q_mapnn4z1 := CUT_run kR_x kR_0 (Cs := [(zWP, c_fndl)]) (fun C hC => by rw [List.mem_singleton.mp hC]; exact s_fndl) c_mapn_f (Q := []) hv (fun q hq => by cases hq) 300 (b1 := true) (b2 := true) k_mapnn4z1
noncomputable def q_mapnn4z2 : sCut := ((fr 0 9 0 [(0, tr 42), (1, .arg 60064), (2, .arg 60033)] [], [fBot], 5), (fr 0 272 0 [(0, tr 219), (1, .arg 1308), (2, .arg 60096), (3, .arg 60000)] [], [fBot], 5), [((6, .arg 60033, .long 4), true), ((0, .arg 60000, .int 4), true), ((6, .elem (.arg 1761) (.add (.arg 60064) (.int 1)), .long 0), false), ((6, .elem (.arg 1761) (.add (.arg 60064) (.int 2)), .long 0), true), ((2, .arg 60064, .int 50), false), ((2, .int 105, .arg 60064), false), ((2, .arg 60096, .int 0), false), ((2, .int 65535, .arg 60096), false), ((109, .add (.arg 60096) (.int 1), .add (.arg 60064) (.int 1)), true), ((109, .add (.arg 60096) (.int 2), .add (.arg 60064) (.int 2)), true), ((109, .add (.arg 60096) (.int 3), .add (.arg 60064) (.int 3)), true), ((109, .add (.arg 60096) (.int 4), .add (.arg 60064) (.int 4)), true), ((8, .arg 60033, .long 0), false), ((8, .long 4, .arg 60033), false), ((0, .op1 .l2i (.arg 60033), .arg 60000), true), ((139, .add (.elem (.arg 1761) (.int 0)) (.add (.arg 60064) (.arg 60033)), .int 100925505), true)], [])
theorem k_mapnn4z2 : cbody kR [(zWP, c_fndl)] (cpl1 zWP c_mapn []) (cpl2 zWP c_mapn []) (cleaf kR zWP c_mapn []) 300 true true q_mapnn4z2.2.2.1 q_mapnn4z2.2.2.2 (cst zWP c_mapn.2.2.1.1 q_mapnn4z2.1) (cst zWP c_mapn.2.2.1.2 q_mapnn4z2.2.1) = true := by decide +kernel
theorem t_mapnn4z2 {X : pX} {ρ0 : sR} (hv : vok X ρ0) : CUTOK X kR zWP c_mapn 5 ρ0 q_mapnn4z2 := CUT_run kR_x kR_0 (Cs := [(zWP, c_fndl)]) (fun C hC => by rw [List.mem_singleton.mp hC]; exact s_fndl) c_mapn_f (Q := []) hv (fun q hq => by cases hq) 300 (b1 := true) (b2 := true) k_mapnn4z2
noncomputable def q_mapnn4z3 : sCut := ((fr 0 9 0 [(0, tr 42), (1, .arg 60064), (2, .arg 60033)] [], [fBot], 5), (fr 0 272 0 [(0, tr 219), (1, .arg 1308), (2, .arg 60096), (3, .arg 60000)] [], [fBot], 5), [((6, .arg 60033, .long 4), true), ((0, .arg 60000, .int 4), true), ((6, .elem (.arg 1761) (.add (.arg 60064) (.int 1)), .long 0), false), ((6, .elem (.arg 1761) (.add (.arg 60064) (.int 2)), .long 0), false), ((6, .elem (.arg 1761) (.add (.arg 60064) (.int 3)), .long 0), true), ((2, .arg 60064, .int 50), false), ((2, .int 105, .arg 60064), false), ((2, .arg 60096, .int 0), false), ((2, .int 65535, .arg 60096), false), ((109, .add (.arg 60096) (.int 1), .add (.arg 60064) (.int 1)), true), ((109, .add (.arg 60096) (.int 2), .add (.arg 60064) (.int 2)), true), ((109, .add (.arg 60096) (.int 3), .add (.arg 60064) (.int 3)), true), ((109, .add (.arg 60096) (.int 4), .add (.arg 60064) (.int 4)), true), ((8, .arg 60033, .long 0), false), ((8, .long 4, .arg 60033), false), ((0, .op1 .l2i (.arg 60033), .arg 60000), true), ((139, .add (.elem (.arg 1761) (.int 0)) (.add (.arg 60064) (.arg 60033)), .int 100925505), true)], [])
theorem k_mapnn4z3 : cbody kR [(zWP, c_fndl)] (cpl1 zWP c_mapn []) (cpl2 zWP c_mapn []) (cleaf kR zWP c_mapn []) 300 true true q_mapnn4z3.2.2.1 q_mapnn4z3.2.2.2 (cst zWP c_mapn.2.2.1.1 q_mapnn4z3.1) (cst zWP c_mapn.2.2.1.2 q_mapnn4z3.2.1) = true := by decide +kernel
theorem t_mapnn4z3 {X : pX} {ρ0 : sR} (hv : vok X ρ0) : CUTOK X kR zWP c_mapn 5 ρ0 q_mapnn4z3 := CUT_run kR_x kR_0 (Cs := [(zWP, c_fndl)]) (fun C hC => by rw [List.mem_singleton.mp hC]; exact s_fndl) c_mapn_f (Q := []) hv (fun q hq => by cases hq) 300 (b1 := true) (b2 := true) k_mapnn4z3
noncomputable def q_mapnn4z4 : sCut := ((fr 0 9 0 [(0, tr 42), (1, .arg 60064), (2, .arg 60033)] [], [fBot], 5), (fr 0 272 0 [(0, tr 219), (1, .arg 1308), (2, .arg 60096), (3, .arg 60000)] [], [fBot], 5), [((6, .arg 60033, .long 4), true), ((0, .arg 60000, .int 4), true), ((6, .elem (.arg 1761) (.add (.arg 60064) (.int 1)), .long 0), false), ((6, .elem (.arg 1761) (.add (.arg 60064) (.int 2)), .long 0), false), ((6, .elem (.arg 1761) (.add (.arg 60064) (.int 3)), .long 0), false), ((6, .elem (.arg 1761) (.add (.arg 60064) (.int 4)), .long 0), true), ((2, .arg 60064, .int 50), false), ((2, .int 105, .arg 60064), false), ((2, .arg 60096, .int 0), false), ((2, .int 65535, .arg 60096), false), ((109, .add (.arg 60096) (.int 1), .add (.arg 60064) (.int 1)), true), ((109, .add (.arg 60096) (.int 2), .add (.arg 60064) (.int 2)), true), ((109, .add (.arg 60096) (.int 3), .add (.arg 60064) (.int 3)), true), ((109, .add (.arg 60096) (.int 4), .add (.arg 60064) (.int 4)), true), ((8, .arg 60033, .long 0), false), ((8, .long 4, .arg 60033), false), ((0, .op1 .l2i (.arg 60033), .arg 60000), true), ((139, .add (.elem (.arg 1761) (.int 0)) (.add (.arg 60064) (.arg 60033)), .int 100925505), true)], [])
theorem k_mapnn4z4 : cbody kR [(zWP, c_fndl)] (cpl1 zWP c_mapn []) (cpl2 zWP c_mapn []) (cleaf kR zWP c_mapn []) 300 true true q_mapnn4z4.2.2.1 q_mapnn4z4.2.2.2 (cst zWP c_mapn.2.2.1.1 q_mapnn4z4.1) (cst zWP c_mapn.2.2.1.2 q_mapnn4z4.2.1) = true := by decide +kernel
theorem t_mapnn4z4 {X : pX} {ρ0 : sR} (hv : vok X ρ0) : CUTOK X kR zWP c_mapn 5 ρ0 q_mapnn4z4 := CUT_run kR_x kR_0 (Cs := [(zWP, c_fndl)]) (fun C hC => by rw [List.mem_singleton.mp hC]; exact s_fndl) c_mapn_f (Q := []) hv (fun q hq => by cases hq) 300 (b1 := true) (b2 := true) k_mapnn4z4
theorem t_mapn {X : pX} {ρ0 : sR} (hv : vok X ρ0) : CUTOK X kR zWP c_mapn 5 ρ0 q_mapn := fun ρ k1 hF hI k4 => by
  have b0 : (0 : Int) ≤ (ρ.2.1 60033).toInt := rl_lf (x := ρ.2.1 60033) (y := 0) (hF.2 _ (List.mem_cons_of_mem _ (List.mem_cons_of_mem _ (List.mem_cons_of_mem _ (List.mem_cons_of_mem _ (List.mem_cons_of_mem _ (List.mem_cons_of_mem _ (List.mem_cons_of_mem _ (List.mem_cons_of_mem _ (List.mem_cons_self))))))))))
  have b1 : (ρ.2.1 60033).toInt ≤ 4 := rl_lf (x := 4) (y := ρ.2.1 60033) (hF.2 _ (List.mem_cons_of_mem _ (List.mem_cons_of_mem _ (List.mem_cons_of_mem _ (List.mem_cons_of_mem _ (List.mem_cons_of_mem _ (List.mem_cons_of_mem _ (List.mem_cons_of_mem _ (List.mem_cons_of_mem _ (List.mem_cons_of_mem _ (List.mem_cons_self)))))))))))
  have en : (ρ.2.1 60033).toInt32 = ρ.1 60000 := of_decide_eq_true (hF.2 _ (List.mem_cons_of_mem _ (List.mem_cons_of_mem _ (List.mem_cons_of_mem _ (List.mem_cons_of_mem _ (List.mem_cons_of_mem _ (List.mem_cons_of_mem _ (List.mem_cons_of_mem _ (List.mem_cons_of_mem _ (List.mem_cons_of_mem _ (List.mem_cons_of_mem _ (List.mem_cons_self))))))))))))
  have p0 : (50 : Int) ≤ (ρ.1 60064).toInt := ri_lf (x := ρ.1 60064) (y := 50) (hF.2 _ (List.mem_cons_self))
  have p1 : (ρ.1 60064).toInt ≤ 105 := ri_lf (x := 105) (y := ρ.1 60064) (hF.2 _ (List.mem_cons_of_mem _ (List.mem_cons_self)))
  have hc := of_decide_eq_true (hF.2 _ (List.mem_cons_of_mem _ (List.mem_cons_of_mem _ (List.mem_cons_of_mem _ (List.mem_cons_of_mem _ (List.mem_cons_of_mem _ (List.mem_cons_of_mem _ (List.mem_cons_of_mem _ (List.mem_cons_of_mem _ (List.mem_cons_of_mem _ (List.mem_cons_of_mem _ (List.mem_cons_of_mem _ (List.mem_cons_self)))))))))))))
  have hc : (100925505 : Int) = amcode (ρ.2.2.2.1 1761) (ρ.1 60064).toInt.toNat (ρ.2.1 60033).toInt.toNat := hc
  have i1 : (ρ.1 60064 + 1).toNatClampNeg = (ρ.1 60064).toInt.toNat + 1 + 0 := by
    have e : (ρ.1 60064 + 1).toInt = (ρ.1 60064).toInt + 1 := s_add (by have z : (1 : Int32).toInt = 1 := rfl; omega) (by have z : (1 : Int32).toInt = 1 := rfl; omega)
    rw [s_nat, e]
    omega
  have xe1 : (sd X ρ (.elem (.arg 1761) (.add (.arg 60064) (.int 1)))).2 = ρ.2.2.2.1 1761 ((ρ.1 60064).toInt.toNat + 1 + 0) := by rw [← i1]; rfl
  have i2 : (ρ.1 60064 + 2).toNatClampNeg = (ρ.1 60064).toInt.toNat + 1 + 1 := by
    have e : (ρ.1 60064 + 2).toInt = (ρ.1 60064).toInt + 2 := s_add (by have z : (2 : Int32).toInt = 2 := rfl; omega) (by have z : (2 : Int32).toInt = 2 := rfl; omega)
    rw [s_nat, e]
    omega
  have xe2 : (sd X ρ (.elem (.arg 1761) (.add (.arg 60064) (.int 2)))).2 = ρ.2.2.2.1 1761 ((ρ.1 60064).toInt.toNat + 1 + 1) := by rw [← i2]; rfl
  have i3 : (ρ.1 60064 + 3).toNatClampNeg = (ρ.1 60064).toInt.toNat + 1 + 2 := by
    have e : (ρ.1 60064 + 3).toInt = (ρ.1 60064).toInt + 3 := s_add (by have z : (3 : Int32).toInt = 3 := rfl; omega) (by have z : (3 : Int32).toInt = 3 := rfl; omega)
    rw [s_nat, e]
    omega
  have xe3 : (sd X ρ (.elem (.arg 1761) (.add (.arg 60064) (.int 3)))).2 = ρ.2.2.2.1 1761 ((ρ.1 60064).toInt.toNat + 1 + 2) := by rw [← i3]; rfl
  have i4 : (ρ.1 60064 + 4).toNatClampNeg = (ρ.1 60064).toInt.toNat + 1 + 3 := by
    have e : (ρ.1 60064 + 4).toInt = (ρ.1 60064).toInt + 4 := s_add (by have z : (4 : Int32).toInt = 4 := rfl; omega) (by have z : (4 : Int32).toInt = 4 := rfl; omega)
    rw [s_nat, e]
    omega
  have xe4 : (sd X ρ (.elem (.arg 1761) (.add (.arg 60064) (.int 4)))).2 = ρ.2.2.2.1 1761 ((ρ.1 60064).toInt.toNat + 1 + 3) := by rw [← i4]; rfl
  rcases (show (ρ.2.1 60033).toInt = 0 ∨ (ρ.2.1 60033).toInt = 1 ∨ (ρ.2.1 60033).toInt = 2 ∨ (ρ.2.1 60033).toInt = 3 ∨ (ρ.2.1 60033).toInt = 4 by omega) with h | h | h | h | h
  · have hV : ρ.2.1 60033 = 0 := Int64.toInt_inj.mp h
    have hN : ρ.1 60000 = 0 := by rw [← en, hV]; rfl
    rw [h] at hc
    have hc : (100925505 : Int) = amcode (ρ.2.2.2.1 1761) (ρ.1 60064).toInt.toNat 0 := hc
    rw [show amcode (ρ.2.2.2.1 1761) (ρ.1 60064).toInt.toNat 0 = 0 from rfl] at hc
    exact absurd hc (by decide)
  · have hV : ρ.2.1 60033 = 1 := Int64.toInt_inj.mp h
    have hN : ρ.1 60000 = 1 := by rw [← en, hV]; rfl
    rw [h] at hc
    have hc : (100925505 : Int) = amcode (ρ.2.2.2.1 1761) (ρ.1 60064).toInt.toNat 1 := hc
    by_cases z1 : (sd X ρ (.elem (.arg 1761) (.add (.arg 60064) (.int 1)))).2 = 0
    · exact t_mapnn1z1 hv ρ k1 ⟨hF.1, fcn (decide_eq_true hV) (fcn (decide_eq_true hN) (fcn (decide_eq_true z1) (hF.2)))⟩ hI k4
    refine absurd hc (am_nn (fun i hi => ?_))
    rcases (show i = 0 by omega) with rfl
    · exact fun q => z1 (by rw [xe1]; exact Int64.toInt_inj.mp q)
  · have hV : ρ.2.1 60033 = 2 := Int64.toInt_inj.mp h
    have hN : ρ.1 60000 = 2 := by rw [← en, hV]; rfl
    rw [h] at hc
    have hc : (100925505 : Int) = amcode (ρ.2.2.2.1 1761) (ρ.1 60064).toInt.toNat 2 := hc
    by_cases z1 : (sd X ρ (.elem (.arg 1761) (.add (.arg 60064) (.int 1)))).2 = 0
    · exact t_mapnn2z1 hv ρ k1 ⟨hF.1, fcn (decide_eq_true hV) (fcn (decide_eq_true hN) (fcn (decide_eq_true z1) (hF.2)))⟩ hI k4
    by_cases z2 : (sd X ρ (.elem (.arg 1761) (.add (.arg 60064) (.int 2)))).2 = 0
    · exact t_mapnn2z2 hv ρ k1 ⟨hF.1, fcn (decide_eq_true hV) (fcn (decide_eq_true hN) (fcn (decide_eq_false z1) (fcn (decide_eq_true z2) (hF.2))))⟩ hI k4
    refine absurd hc (am_nn (fun i hi => ?_))
    rcases (show i = 0 ∨ i = 1 by omega) with rfl | rfl
    · exact fun q => z1 (by rw [xe1]; exact Int64.toInt_inj.mp q)
    · exact fun q => z2 (by rw [xe2]; exact Int64.toInt_inj.mp q)
  · have hV : ρ.2.1 60033 = 3 := Int64.toInt_inj.mp h
    have hN : ρ.1 60000 = 3 := by rw [← en, hV]; rfl
    rw [h] at hc
    have hc : (100925505 : Int) = amcode (ρ.2.2.2.1 1761) (ρ.1 60064).toInt.toNat 3 := hc
    by_cases z1 : (sd X ρ (.elem (.arg 1761) (.add (.arg 60064) (.int 1)))).2 = 0
    · exact t_mapnn3z1 hv ρ k1 ⟨hF.1, fcn (decide_eq_true hV) (fcn (decide_eq_true hN) (fcn (decide_eq_true z1) (hF.2)))⟩ hI k4
    by_cases z2 : (sd X ρ (.elem (.arg 1761) (.add (.arg 60064) (.int 2)))).2 = 0
    · exact t_mapnn3z2 hv ρ k1 ⟨hF.1, fcn (decide_eq_true hV) (fcn (decide_eq_true hN) (fcn (decide_eq_false z1) (fcn (decide_eq_true z2) (hF.2))))⟩ hI k4
    by_cases z3 : (sd X ρ (.elem (.arg 1761) (.add (.arg 60064) (.int 3)))).2 = 0
    · exact t_mapnn3z3 hv ρ k1 ⟨hF.1, fcn (decide_eq_true hV) (fcn (decide_eq_true hN) (fcn (decide_eq_false z1) (fcn (decide_eq_false z2) (fcn (decide_eq_true z3) (hF.2)))))⟩ hI k4
    refine absurd hc (am_nn (fun i hi => ?_))
    rcases (show i = 0 ∨ i = 1 ∨ i = 2 by omega) with rfl | rfl | rfl
    · exact fun q => z1 (by rw [xe1]; exact Int64.toInt_inj.mp q)
    · exact fun q => z2 (by rw [xe2]; exact Int64.toInt_inj.mp q)
    · exact fun q => z3 (by rw [xe3]; exact Int64.toInt_inj.mp q)
  · have hV : ρ.2.1 60033 = 4 := Int64.toInt_inj.mp h
    have hN : ρ.1 60000 = 4 := by rw [← en, hV]; rfl
    rw [h] at hc
    have hc : (100925505 : Int) = amcode (ρ.2.2.2.1 1761) (ρ.1 60064).toInt.toNat 4 := hc
    by_cases z1 : (sd X ρ (.elem (.arg 1761) (.add (.arg 60064) (.int 1)))).2 = 0
    · exact t_mapnn4z1 hv ρ k1 ⟨hF.1, fcn (decide_eq_true hV) (fcn (decide_eq_true hN) (fcn (decide_eq_true z1) (hF.2)))⟩ hI k4
    by_cases z2 : (sd X ρ (.elem (.arg 1761) (.add (.arg 60064) (.int 2)))).2 = 0
    · exact t_mapnn4z2 hv ρ k1 ⟨hF.1, fcn (decide_eq_true hV) (fcn (decide_eq_true hN) (fcn (decide_eq_false z1) (fcn (decide_eq_true z2) (hF.2))))⟩ hI k4
    by_cases z3 : (sd X ρ (.elem (.arg 1761) (.add (.arg 60064) (.int 3)))).2 = 0
    · exact t_mapnn4z3 hv ρ k1 ⟨hF.1, fcn (decide_eq_true hV) (fcn (decide_eq_true hN) (fcn (decide_eq_false z1) (fcn (decide_eq_false z2) (fcn (decide_eq_true z3) (hF.2)))))⟩ hI k4
    by_cases z4 : (sd X ρ (.elem (.arg 1761) (.add (.arg 60064) (.int 4)))).2 = 0
    · exact t_mapnn4z4 hv ρ k1 ⟨hF.1, fcn (decide_eq_true hV) (fcn (decide_eq_true hN) (fcn (decide_eq_false z1) (fcn (decide_eq_false z2) (fcn (decide_eq_false z3) (fcn (decide_eq_true z4) (hF.2))))))⟩ hI k4
    refine absurd hc (am_nn (fun i hi => ?_))
    rcases (show i = 0 ∨ i = 1 ∨ i = 2 ∨ i = 3 by omega) with rfl | rfl | rfl | rfl
    · exact fun q => z1 (by rw [xe1]; exact Int64.toInt_inj.mp q)
    · exact fun q => z2 (by rw [xe2]; exact Int64.toInt_inj.mp q)
    · exact fun q => z3 (by rw [xe3]; exact Int64.toInt_inj.mp q)
    · exact fun q => z4 (by rw [xe4]; exact Int64.toInt_inj.mp q)
theorem e_mapn : frun kR [] (cpl1 zWP c_mapn [q_mapn]) (cpl2 zWP c_mapn [q_mapn]) (cleaf kR zWP c_mapn [q_mapn]) 10 65536 (isatP (c_mapn.2.2.2.1) c_mapn.2.2.2.2.2.2.2.1) c_mapn.2.2.2.2.2.2.2.1 (sin0 mt_all c_mapn.1.1 5 c_mapn.2.1.1 (foot zWP c_mapn.2.2.1.1)) (sin0 mt_all c_mapn.1.2.1 5 c_mapn.2.1.2 (foot zWP c_mapn.2.2.1.2)) = true := by decide +kernel
theorem s_mapn {X : pX} : SREL X pF pdfl mt_all kR zWP c_mapn := SREL_QC kR_x kR_0 (Cs := []) (fun C hC => by cases hC) (d := 5) rfl c_mapn_f (Q := [q_mapn]) (fun ρ0 hv => fun q hq => by
    simp only [List.mem_cons, List.not_mem_nil, or_false] at hq
    rw [hq]; exact t_mapn hv) (QC_run 10 e_mapn)
/-! ===== what is wrong with a map: mapCode and mapBits, it is too long ===== -/
noncomputable def c_mapl : sC := ((9, 272, 6), ([tr 42, .arg 60064, .arg 60033], [tr 219, .arg 1308, .arg 60096, .arg 60000]), ([42, 43], [219, 229, 228, 220, 221]), [((2, .arg 60064, .int 50), false), ((2, .int 105, .arg 60064), false), ((2, .arg 60096, .int 0), false), ((2, .int 65535, .arg 60096), false), ((109, .add (.arg 60096) (.int 1), .add (.arg 60064) (.int 1)), true), ((109, .add (.arg 60096) (.int 2), .add (.arg 60064) (.int 2)), true), ((109, .add (.arg 60096) (.int 3), .add (.arg 60064) (.int 3)), true), ((109, .add (.arg 60096) (.int 4), .add (.arg 60064) (.int 4)), true), ((8, .arg 60033, .long 0), false), ((8, .long 4, .arg 60033), false), ((0, .op1 .l2i (.arg 60033), .arg 60000), true), ((139, .add (.elem (.arg 1761) (.int 0)) (.add (.arg 60064) (.arg 60033)), .int 100925506), true)], ([60160, 60192], []), (some (.int 100925506), some (.arg 60160)), [((2, .arg 60160, .int 0), false), ((2, .int 64, .arg 60160), true)], ([], []))
theorem c_mapl_f : cfine zWP 65536 c_mapl = true := by decide +kernel
noncomputable def q_mapl : sCut := ((fr 0 9 0 [(0, tr 42), (1, .arg 60064), (2, .arg 60033)] [], [fBot], 5), (fr 0 272 0 [(0, tr 219), (1, .arg 1308), (2, .arg 60096), (3, .arg 60000)] [], [fBot], 5), [((2, .arg 60064, .int 50), false), ((2, .int 105, .arg 60064), false), ((2, .arg 60096, .int 0), false), ((2, .int 65535, .arg 60096), false), ((109, .add (.arg 60096) (.int 1), .add (.arg 60064) (.int 1)), true), ((109, .add (.arg 60096) (.int 2), .add (.arg 60064) (.int 2)), true), ((109, .add (.arg 60096) (.int 3), .add (.arg 60064) (.int 3)), true), ((109, .add (.arg 60096) (.int 4), .add (.arg 60064) (.int 4)), true), ((8, .arg 60033, .long 0), false), ((8, .long 4, .arg 60033), false), ((0, .op1 .l2i (.arg 60033), .arg 60000), true), ((139, .add (.elem (.arg 1761) (.int 0)) (.add (.arg 60064) (.arg 60033)), .int 100925506), true)], [])
noncomputable def q_mapln1o : sCut := ((fr 0 9 0 [(0, tr 42), (1, .arg 60064), (2, .arg 60033)] [], [fBot], 5), (fr 0 272 0 [(0, tr 219), (1, .arg 1308), (2, .arg 60096), (3, .arg 60000)] [], [fBot], 5), [((6, .arg 60033, .long 1), true), ((0, .arg 60000, .int 1), true), ((6, .elem (.arg 1761) (.add (.arg 60064) (.int 1)), .long 0), false), ((8, .long 64, .op2 .land (.elem (.arg 1761) (.add (.arg 60064) (.int 1))) (.long 255)), true), ((2, .op1 .l2i (.op2 .land (.elem (.arg 1761) (.add (.arg 60064) (.int 1))) (.long 255)), .int 0), false), ((2, .int 64, .op1 .l2i (.op2 .land (.elem (.arg 1761) (.add (.arg 60064) (.int 1))) (.long 255))), true), ((2, .arg 60064, .int 50), false), ((2, .int 105, .arg 60064), false), ((2, .arg 60096, .int 0), false), ((2, .int 65535, .arg 60096), false), ((109, .add (.arg 60096) (.int 1), .add (.arg 60064) (.int 1)), true), ((109, .add (.arg 60096) (.int 2), .add (.arg 60064) (.int 2)), true), ((109, .add (.arg 60096) (.int 3), .add (.arg 60064) (.int 3)), true), ((109, .add (.arg 60096) (.int 4), .add (.arg 60064) (.int 4)), true), ((8, .arg 60033, .long 0), false), ((8, .long 4, .arg 60033), false), ((0, .op1 .l2i (.arg 60033), .arg 60000), true), ((139, .add (.elem (.arg 1761) (.int 0)) (.add (.arg 60064) (.arg 60033)), .int 100925506), true)], [])
theorem k_mapln1o : cbody kR [(zWP, c_fndl)] (cpl1 zWP c_mapl []) (cpl2 zWP c_mapl []) (cleaf kR zWP c_mapl []) 300 true true q_mapln1o.2.2.1 q_mapln1o.2.2.2 (cst zWP c_mapl.2.2.1.1 q_mapln1o.1) (cst zWP c_mapl.2.2.1.2 q_mapln1o.2.1) = true := by decide +kernel
theorem t_mapln1o {X : pX} {ρ0 : sR} (hv : vok X ρ0) : CUTOK X kR zWP c_mapl 5 ρ0 q_mapln1o := CUT_run kR_x kR_0 (Cs := [(zWP, c_fndl)]) (fun C hC => by rw [List.mem_singleton.mp hC]; exact s_fndl) c_mapl_f (Q := []) hv (fun q hq => by cases hq) 300 (b1 := true) (b2 := true) k_mapln1o
noncomputable def q_mapln2o : sCut := ((fr 0 9 0 [(0, tr 42), (1, .arg 60064), (2, .arg 60033)] [], [fBot], 5), (fr 0 272 0 [(0, tr 219), (1, .arg 1308), (2, .arg 60096), (3, .arg 60000)] [], [fBot], 5), [((6, .arg 60033, .long 2), true), ((0, .arg 60000, .int 2), true), ((6, .elem (.arg 1761) (.add (.arg 60064) (.int 1)), .long 0), false), ((6, .elem (.arg 1761) (.add (.arg 60064) (.int 2)), .long 0), false), ((8, .long 64, .op2 .ladd (.op2 .land (.elem (.arg 1761) (.add (.arg 60064) (.int 1))) (.long 255)) (.op2 .land (.elem (.arg 1761) (.add (.arg 60064) (.int 2))) (.long 255))), true), ((2, .add (.op1 .l2i (.op2 .land (.elem (.arg 1761) (.add (.arg 60064) (.int 1))) (.long 255))) (.op1 .l2i (.op2 .land (.elem (.arg 1761) (.add (.arg 60064) (.int 2))) (.long 255))), .int 0), false), ((2, .int 64, .add (.op1 .l2i (.op2 .land (.elem (.arg 1761) (.add (.arg 60064) (.int 1))) (.long 255))) (.op1 .l2i (.op2 .land (.elem (.arg 1761) (.add (.arg 60064) (.int 2))) (.long 255)))), true), ((2, .arg 60064, .int 50), false), ((2, .int 105, .arg 60064), false), ((2, .arg 60096, .int 0), false), ((2, .int 65535, .arg 60096), false), ((109, .add (.arg 60096) (.int 1), .add (.arg 60064) (.int 1)), true), ((109, .add (.arg 60096) (.int 2), .add (.arg 60064) (.int 2)), true), ((109, .add (.arg 60096) (.int 3), .add (.arg 60064) (.int 3)), true), ((109, .add (.arg 60096) (.int 4), .add (.arg 60064) (.int 4)), true), ((8, .arg 60033, .long 0), false), ((8, .long 4, .arg 60033), false), ((0, .op1 .l2i (.arg 60033), .arg 60000), true), ((139, .add (.elem (.arg 1761) (.int 0)) (.add (.arg 60064) (.arg 60033)), .int 100925506), true)], [])
theorem k_mapln2o : cbody kR [(zWP, c_fndl)] (cpl1 zWP c_mapl []) (cpl2 zWP c_mapl []) (cleaf kR zWP c_mapl []) 300 true true q_mapln2o.2.2.1 q_mapln2o.2.2.2 (cst zWP c_mapl.2.2.1.1 q_mapln2o.1) (cst zWP c_mapl.2.2.1.2 q_mapln2o.2.1) = true := by decide +kernel
theorem t_mapln2o {X : pX} {ρ0 : sR} (hv : vok X ρ0) : CUTOK X kR zWP c_mapl 5 ρ0 q_mapln2o := CUT_run kR_x kR_0 (Cs := [(zWP, c_fndl)]) (fun C hC => by rw [List.mem_singleton.mp hC]; exact s_fndl) c_mapl_f (Q := []) hv (fun q hq => by cases hq) 300 (b1 := true) (b2 := true) k_mapln2o
noncomputable def q_mapln3o : sCut := ((fr 0 9 0 [(0, tr 42), (1, .arg 60064), (2, .arg 60033)] [], [fBot], 5), (fr 0 272 0 [(0, tr 219), (1, .arg 1308), (2, .arg 60096), (3, .arg 60000)] [], [fBot], 5), [((6, .arg 60033, .long 3), true), ((0, .arg 60000, .int 3), true), ((6, .elem (.arg 1761) (.add (.arg 60064) (.int 1)), .long 0), false), ((6, .elem (.arg 1761) (.add (.arg 60064) (.int 2)), .long 0), false), ((6, .elem (.arg 1761) (.add (.arg 60064) (.int 3)), .long 0), false), ((8, .long 64, .op2 .ladd (.op2 .ladd (.op2 .land (.elem (.arg 1761) (.add (.arg 60064) (.int 1))) (.long 255)) (.op2 .land (.elem (.arg 1761) (.add (.arg 60064) (.int 2))) (.long 255))) (.op2 .land (.elem (.arg 1761) (.add (.arg 60064) (.int 3))) (.long 255))), true), ((2, .add (.add (.op1 .l2i (.op2 .land (.elem (.arg 1761) (.add (.arg 60064) (.int 1))) (.long 255))) (.op1 .l2i (.op2 .land (.elem (.arg 1761) (.add (.arg 60064) (.int 2))) (.long 255)))) (.op1 .l2i (.op2 .land (.elem (.arg 1761) (.add (.arg 60064) (.int 3))) (.long 255))), .int 0), false), ((2, .int 64, .add (.add (.op1 .l2i (.op2 .land (.elem (.arg 1761) (.add (.arg 60064) (.int 1))) (.long 255))) (.op1 .l2i (.op2 .land (.elem (.arg 1761) (.add (.arg 60064) (.int 2))) (.long 255)))) (.op1 .l2i (.op2 .land (.elem (.arg 1761) (.add (.arg 60064) (.int 3))) (.long 255)))), true), ((2, .arg 60064, .int 50), false), ((2, .int 105, .arg 60064), false), ((2, .arg 60096, .int 0), false), ((2, .int 65535, .arg 60096), false), ((109, .add (.arg 60096) (.int 1), .add (.arg 60064) (.int 1)), true), ((109, .add (.arg 60096) (.int 2), .add (.arg 60064) (.int 2)), true), ((109, .add (.arg 60096) (.int 3), .add (.arg 60064) (.int 3)), true), ((109, .add (.arg 60096) (.int 4), .add (.arg 60064) (.int 4)), true), ((8, .arg 60033, .long 0), false), ((8, .long 4, .arg 60033), false), ((0, .op1 .l2i (.arg 60033), .arg 60000), true), ((139, .add (.elem (.arg 1761) (.int 0)) (.add (.arg 60064) (.arg 60033)), .int 100925506), true)], [])
theorem k_mapln3o : cbody kR [(zWP, c_fndl)] (cpl1 zWP c_mapl []) (cpl2 zWP c_mapl []) (cleaf kR zWP c_mapl []) 300 true true q_mapln3o.2.2.1 q_mapln3o.2.2.2 (cst zWP c_mapl.2.2.1.1 q_mapln3o.1) (cst zWP c_mapl.2.2.1.2 q_mapln3o.2.1) = true := by decide +kernel
theorem t_mapln3o {X : pX} {ρ0 : sR} (hv : vok X ρ0) : CUTOK X kR zWP c_mapl 5 ρ0 q_mapln3o := CUT_run kR_x kR_0 (Cs := [(zWP, c_fndl)]) (fun C hC => by rw [List.mem_singleton.mp hC]; exact s_fndl) c_mapl_f (Q := []) hv (fun q hq => by cases hq) 300 (b1 := true) (b2 := true) k_mapln3o
noncomputable def q_mapln4o : sCut := ((fr 0 9 0 [(0, tr 42), (1, .arg 60064), (2, .arg 60033)] [], [fBot], 5), (fr 0 272 0 [(0, tr 219), (1, .arg 1308), (2, .arg 60096), (3, .arg 60000)] [], [fBot], 5), [((6, .arg 60033, .long 4), true), ((0, .arg 60000, .int 4), true), ((6, .elem (.arg 1761) (.add (.arg 60064) (.int 1)), .long 0), false), ((6, .elem (.arg 1761) (.add (.arg 60064) (.int 2)), .long 0), false), ((6, .elem (.arg 1761) (.add (.arg 60064) (.int 3)), .long 0), false), ((6, .elem (.arg 1761) (.add (.arg 60064) (.int 4)), .long 0), false), ((8, .long 64, .op2 .ladd (.op2 .ladd (.op2 .ladd (.op2 .land (.elem (.arg 1761) (.add (.arg 60064) (.int 1))) (.long 255)) (.op2 .land (.elem (.arg 1761) (.add (.arg 60064) (.int 2))) (.long 255))) (.op2 .land (.elem (.arg 1761) (.add (.arg 60064) (.int 3))) (.long 255))) (.op2 .land (.elem (.arg 1761) (.add (.arg 60064) (.int 4))) (.long 255))), true), ((2, .add (.add (.add (.op1 .l2i (.op2 .land (.elem (.arg 1761) (.add (.arg 60064) (.int 1))) (.long 255))) (.op1 .l2i (.op2 .land (.elem (.arg 1761) (.add (.arg 60064) (.int 2))) (.long 255)))) (.op1 .l2i (.op2 .land (.elem (.arg 1761) (.add (.arg 60064) (.int 3))) (.long 255)))) (.op1 .l2i (.op2 .land (.elem (.arg 1761) (.add (.arg 60064) (.int 4))) (.long 255))), .int 0), false), ((2, .int 64, .add (.add (.add (.op1 .l2i (.op2 .land (.elem (.arg 1761) (.add (.arg 60064) (.int 1))) (.long 255))) (.op1 .l2i (.op2 .land (.elem (.arg 1761) (.add (.arg 60064) (.int 2))) (.long 255)))) (.op1 .l2i (.op2 .land (.elem (.arg 1761) (.add (.arg 60064) (.int 3))) (.long 255)))) (.op1 .l2i (.op2 .land (.elem (.arg 1761) (.add (.arg 60064) (.int 4))) (.long 255)))), true), ((2, .arg 60064, .int 50), false), ((2, .int 105, .arg 60064), false), ((2, .arg 60096, .int 0), false), ((2, .int 65535, .arg 60096), false), ((109, .add (.arg 60096) (.int 1), .add (.arg 60064) (.int 1)), true), ((109, .add (.arg 60096) (.int 2), .add (.arg 60064) (.int 2)), true), ((109, .add (.arg 60096) (.int 3), .add (.arg 60064) (.int 3)), true), ((109, .add (.arg 60096) (.int 4), .add (.arg 60064) (.int 4)), true), ((8, .arg 60033, .long 0), false), ((8, .long 4, .arg 60033), false), ((0, .op1 .l2i (.arg 60033), .arg 60000), true), ((139, .add (.elem (.arg 1761) (.int 0)) (.add (.arg 60064) (.arg 60033)), .int 100925506), true)], [])
theorem k_mapln4o : cbody kR [(zWP, c_fndl)] (cpl1 zWP c_mapl []) (cpl2 zWP c_mapl []) (cleaf kR zWP c_mapl []) 300 true true q_mapln4o.2.2.1 q_mapln4o.2.2.2 (cst zWP c_mapl.2.2.1.1 q_mapln4o.1) (cst zWP c_mapl.2.2.1.2 q_mapln4o.2.1) = true := by decide +kernel
theorem t_mapln4o {X : pX} {ρ0 : sR} (hv : vok X ρ0) : CUTOK X kR zWP c_mapl 5 ρ0 q_mapln4o := CUT_run kR_x kR_0 (Cs := [(zWP, c_fndl)]) (fun C hC => by rw [List.mem_singleton.mp hC]; exact s_fndl) c_mapl_f (Q := []) hv (fun q hq => by cases hq) 300 (b1 := true) (b2 := true) k_mapln4o
theorem t_mapl {X : pX} {ρ0 : sR} (hv : vok X ρ0) : CUTOK X kR zWP c_mapl 5 ρ0 q_mapl := fun ρ k1 hF hI k4 => by
  have b0 : (0 : Int) ≤ (ρ.2.1 60033).toInt := rl_lf (x := ρ.2.1 60033) (y := 0) (hF.2 _ (List.mem_cons_of_mem _ (List.mem_cons_of_mem _ (List.mem_cons_of_mem _ (List.mem_cons_of_mem _ (List.mem_cons_of_mem _ (List.mem_cons_of_mem _ (List.mem_cons_of_mem _ (List.mem_cons_of_mem _ (List.mem_cons_self))))))))))
  have b1 : (ρ.2.1 60033).toInt ≤ 4 := rl_lf (x := 4) (y := ρ.2.1 60033) (hF.2 _ (List.mem_cons_of_mem _ (List.mem_cons_of_mem _ (List.mem_cons_of_mem _ (List.mem_cons_of_mem _ (List.mem_cons_of_mem _ (List.mem_cons_of_mem _ (List.mem_cons_of_mem _ (List.mem_cons_of_mem _ (List.mem_cons_of_mem _ (List.mem_cons_self)))))))))))
  have en : (ρ.2.1 60033).toInt32 = ρ.1 60000 := of_decide_eq_true (hF.2 _ (List.mem_cons_of_mem _ (List.mem_cons_of_mem _ (List.mem_cons_of_mem _ (List.mem_cons_of_mem _ (List.mem_cons_of_mem _ (List.mem_cons_of_mem _ (List.mem_cons_of_mem _ (List.mem_cons_of_mem _ (List.mem_cons_of_mem _ (List.mem_cons_of_mem _ (List.mem_cons_self))))))))))))
  have p0 : (50 : Int) ≤ (ρ.1 60064).toInt := ri_lf (x := ρ.1 60064) (y := 50) (hF.2 _ (List.mem_cons_self))
  have p1 : (ρ.1 60064).toInt ≤ 105 := ri_lf (x := 105) (y := ρ.1 60064) (hF.2 _ (List.mem_cons_of_mem _ (List.mem_cons_self)))
  have hc := of_decide_eq_true (hF.2 _ (List.mem_cons_of_mem _ (List.mem_cons_of_mem _ (List.mem_cons_of_mem _ (List.mem_cons_of_mem _ (List.mem_cons_of_mem _ (List.mem_cons_of_mem _ (List.mem_cons_of_mem _ (List.mem_cons_of_mem _ (List.mem_cons_of_mem _ (List.mem_cons_of_mem _ (List.mem_cons_of_mem _ (List.mem_cons_self)))))))))))))
  have hc : (100925506 : Int) = amcode (ρ.2.2.2.1 1761) (ρ.1 60064).toInt.toNat (ρ.2.1 60033).toInt.toNat := hc
  have i1 : (ρ.1 60064 + 1).toNatClampNeg = (ρ.1 60064).toInt.toNat + 1 + 0 := by
    have e : (ρ.1 60064 + 1).toInt = (ρ.1 60064).toInt + 1 := s_add (by have z : (1 : Int32).toInt = 1 := rfl; omega) (by have z : (1 : Int32).toInt = 1 := rfl; omega)
    rw [s_nat, e]
    omega
  have xe1 : (sd X ρ (.elem (.arg 1761) (.add (.arg 60064) (.int 1)))).2 = ρ.2.2.2.1 1761 ((ρ.1 60064).toInt.toNat + 1 + 0) := by rw [← i1]; rfl
  have i2 : (ρ.1 60064 + 2).toNatClampNeg = (ρ.1 60064).toInt.toNat + 1 + 1 := by
    have e : (ρ.1 60064 + 2).toInt = (ρ.1 60064).toInt + 2 := s_add (by have z : (2 : Int32).toInt = 2 := rfl; omega) (by have z : (2 : Int32).toInt = 2 := rfl; omega)
    rw [s_nat, e]
    omega
  have xe2 : (sd X ρ (.elem (.arg 1761) (.add (.arg 60064) (.int 2)))).2 = ρ.2.2.2.1 1761 ((ρ.1 60064).toInt.toNat + 1 + 1) := by rw [← i2]; rfl
  have i3 : (ρ.1 60064 + 3).toNatClampNeg = (ρ.1 60064).toInt.toNat + 1 + 2 := by
    have e : (ρ.1 60064 + 3).toInt = (ρ.1 60064).toInt + 3 := s_add (by have z : (3 : Int32).toInt = 3 := rfl; omega) (by have z : (3 : Int32).toInt = 3 := rfl; omega)
    rw [s_nat, e]
    omega
  have xe3 : (sd X ρ (.elem (.arg 1761) (.add (.arg 60064) (.int 3)))).2 = ρ.2.2.2.1 1761 ((ρ.1 60064).toInt.toNat + 1 + 2) := by rw [← i3]; rfl
  have i4 : (ρ.1 60064 + 4).toNatClampNeg = (ρ.1 60064).toInt.toNat + 1 + 3 := by
    have e : (ρ.1 60064 + 4).toInt = (ρ.1 60064).toInt + 4 := s_add (by have z : (4 : Int32).toInt = 4 := rfl; omega) (by have z : (4 : Int32).toInt = 4 := rfl; omega)
    rw [s_nat, e]
    omega
  have xe4 : (sd X ρ (.elem (.arg 1761) (.add (.arg 60064) (.int 4)))).2 = ρ.2.2.2.1 1761 ((ρ.1 60064).toInt.toNat + 1 + 3) := by rw [← i4]; rfl
  rcases (show (ρ.2.1 60033).toInt = 0 ∨ (ρ.2.1 60033).toInt = 1 ∨ (ρ.2.1 60033).toInt = 2 ∨ (ρ.2.1 60033).toInt = 3 ∨ (ρ.2.1 60033).toInt = 4 by omega) with h | h | h | h | h
  · have hV : ρ.2.1 60033 = 0 := Int64.toInt_inj.mp h
    have hN : ρ.1 60000 = 0 := by rw [← en, hV]; rfl
    rw [h] at hc
    have hc : (100925506 : Int) = amcode (ρ.2.2.2.1 1761) (ρ.1 60064).toInt.toNat 0 := hc
    rw [show amcode (ρ.2.2.2.1 1761) (ρ.1 60064).toInt.toNat 0 = 0 from rfl] at hc
    exact absurd hc (by decide)
  · have hV : ρ.2.1 60033 = 1 := Int64.toInt_inj.mp h
    have hN : ρ.1 60000 = 1 := by rw [← en, hV]; rfl
    rw [h] at hc
    have hc : (100925506 : Int) = amcode (ρ.2.2.2.1 1761) (ρ.1 60064).toInt.toNat 1 := hc
    obtain ⟨nz, su⟩ := am_lo hc.symm
    have z1 : ¬ (sd X ρ (.elem (.arg 1761) (.add (.arg 60064) (.int 1)))).2 = 0 := by rw [xe1]; exact fun q => nz 0 (by decide) (congrArg Int64.toInt q)
    have su : ¬ (ρ.2.2.2.1 1761 ((ρ.1 60064).toInt.toNat + 1 + 0)).toInt % 256 ≤ 64 := by
      have e : ((List.range 1).map (fun i => ((ρ.2.2.2.1 1761) ((ρ.1 60064).toInt.toNat + 1 + i)).toInt % 256)).sum = (ρ.2.2.2.1 1761 ((ρ.1 60064).toInt.toNat + 1 + 0)).toInt % 256 := by
        show (([0] : List Nat).map _).sum = _
        simp only [List.map_cons, List.map_nil, List.sum_cons, List.sum_nil]
        omega
      rw [e] at su
      exact su
    obtain ⟨l1, u1, j1⟩ := mb_r (y := (sd X ρ (.elem (.arg 1761) (.add (.arg 60064) (.int 1)))).2)
    have w1 : ((sd X ρ (.elem (.arg 1761) (.add (.arg 60064) (.int 1)))).2 &&& 255).toInt = (ρ.2.2.2.1 1761 ((ρ.1 60064).toInt.toNat + 1 + 0)).toInt % 256 := by rw [mw_a, xe1]
    have y64 : (64 : Int64).toInt = 64 := rfl
    have z64 : (64 : Int32).toInt = 64 := rfl
    have z0 : (0 : Int32).toInt = 0 := rfl
    have c1 : ((sd X ρ (.elem (.arg 1761) (.add (.arg 60064) (.int 1)))).2 &&& 255).toInt = ((sd X ρ (.elem (.arg 1761) (.add (.arg 60064) (.int 1)))).2 &&& 255).toInt := rfl
    have ov : 64 < ((sd X ρ (.elem (.arg 1761) (.add (.arg 60064) (.int 1)))).2 &&& 255).toInt := by omega
    exact t_mapln1o hv ρ k1 ⟨hF.1, fcn (decide_eq_true hV) (fcn (decide_eq_true hN) (fcn (decide_eq_false z1) (fcn (dl_lt (x := 64) (y := ((sd X ρ (.elem (.arg 1761) (.add (.arg 60064) (.int 1)))).2 &&& 255)) (by rw [y64]; omega)) (fcn (di_lf (x := ((sd X ρ (.elem (.arg 1761) (.add (.arg 60064) (.int 1)))).2 &&& 255).toInt32) (y := 0) (by rw [z0]; omega)) (fcn (di_lt (x := 64) (y := ((sd X ρ (.elem (.arg 1761) (.add (.arg 60064) (.int 1)))).2 &&& 255).toInt32) (by rw [z64]; omega)) (hF.2))))))⟩ hI k4
  · have hV : ρ.2.1 60033 = 2 := Int64.toInt_inj.mp h
    have hN : ρ.1 60000 = 2 := by rw [← en, hV]; rfl
    rw [h] at hc
    have hc : (100925506 : Int) = amcode (ρ.2.2.2.1 1761) (ρ.1 60064).toInt.toNat 2 := hc
    obtain ⟨nz, su⟩ := am_lo hc.symm
    have z1 : ¬ (sd X ρ (.elem (.arg 1761) (.add (.arg 60064) (.int 1)))).2 = 0 := by rw [xe1]; exact fun q => nz 0 (by decide) (congrArg Int64.toInt q)
    have z2 : ¬ (sd X ρ (.elem (.arg 1761) (.add (.arg 60064) (.int 2)))).2 = 0 := by rw [xe2]; exact fun q => nz 1 (by decide) (congrArg Int64.toInt q)
    have su : ¬ (ρ.2.2.2.1 1761 ((ρ.1 60064).toInt.toNat + 1 + 0)).toInt % 256 + (ρ.2.2.2.1 1761 ((ρ.1 60064).toInt.toNat + 1 + 1)).toInt % 256 ≤ 64 := by
      have e : ((List.range 2).map (fun i => ((ρ.2.2.2.1 1761) ((ρ.1 60064).toInt.toNat + 1 + i)).toInt % 256)).sum = (ρ.2.2.2.1 1761 ((ρ.1 60064).toInt.toNat + 1 + 0)).toInt % 256 + (ρ.2.2.2.1 1761 ((ρ.1 60064).toInt.toNat + 1 + 1)).toInt % 256 := by
        show (([0, 1] : List Nat).map _).sum = _
        simp only [List.map_cons, List.map_nil, List.sum_cons, List.sum_nil]
        omega
      rw [e] at su
      exact su
    obtain ⟨l1, u1, j1⟩ := mb_r (y := (sd X ρ (.elem (.arg 1761) (.add (.arg 60064) (.int 1)))).2)
    have w1 : ((sd X ρ (.elem (.arg 1761) (.add (.arg 60064) (.int 1)))).2 &&& 255).toInt = (ρ.2.2.2.1 1761 ((ρ.1 60064).toInt.toNat + 1 + 0)).toInt % 256 := by rw [mw_a, xe1]
    obtain ⟨l2, u2, j2⟩ := mb_r (y := (sd X ρ (.elem (.arg 1761) (.add (.arg 60064) (.int 2)))).2)
    have w2 : ((sd X ρ (.elem (.arg 1761) (.add (.arg 60064) (.int 2)))).2 &&& 255).toInt = (ρ.2.2.2.1 1761 ((ρ.1 60064).toInt.toNat + 1 + 1)).toInt % 256 := by rw [mw_a, xe2]
    have y64 : (64 : Int64).toInt = 64 := rfl
    have z64 : (64 : Int32).toInt = 64 := rfl
    have z0 : (0 : Int32).toInt = 0 := rfl
    have c1 : ((sd X ρ (.elem (.arg 1761) (.add (.arg 60064) (.int 1)))).2 &&& 255).toInt = ((sd X ρ (.elem (.arg 1761) (.add (.arg 60064) (.int 1)))).2 &&& 255).toInt := rfl
    have c2 : (((sd X ρ (.elem (.arg 1761) (.add (.arg 60064) (.int 1)))).2 &&& 255) + ((sd X ρ (.elem (.arg 1761) (.add (.arg 60064) (.int 2)))).2 &&& 255)).toInt = ((sd X ρ (.elem (.arg 1761) (.add (.arg 60064) (.int 1)))).2 &&& 255).toInt + ((sd X ρ (.elem (.arg 1761) (.add (.arg 60064) (.int 2)))).2 &&& 255).toInt := (l_add (by omega) (by omega)).trans (by omega)
    have d2 : (((sd X ρ (.elem (.arg 1761) (.add (.arg 60064) (.int 1)))).2 &&& 255).toInt32 + ((sd X ρ (.elem (.arg 1761) (.add (.arg 60064) (.int 2)))).2 &&& 255).toInt32).toInt = ((sd X ρ (.elem (.arg 1761) (.add (.arg 60064) (.int 1)))).2 &&& 255).toInt + ((sd X ρ (.elem (.arg 1761) (.add (.arg 60064) (.int 2)))).2 &&& 255).toInt := (s_add (by omega) (by omega)).trans (by omega)
    have ov : 64 < ((sd X ρ (.elem (.arg 1761) (.add (.arg 60064) (.int 1)))).2 &&& 255).toInt + ((sd X ρ (.elem (.arg 1761) (.add (.arg 60064) (.int 2)))).2 &&& 255).toInt := by omega
    exact t_mapln2o hv ρ k1 ⟨hF.1, fcn (decide_eq_true hV) (fcn (decide_eq_true hN) (fcn (decide_eq_false z1) (fcn (decide_eq_false z2) (fcn (dl_lt (x := 64) (y := (((sd X ρ (.elem (.arg 1761) (.add (.arg 60064) (.int 1)))).2 &&& 255) + ((sd X ρ (.elem (.arg 1761) (.add (.arg 60064) (.int 2)))).2 &&& 255))) (by rw [y64]; omega)) (fcn (di_lf (x := (((sd X ρ (.elem (.arg 1761) (.add (.arg 60064) (.int 1)))).2 &&& 255).toInt32 + ((sd X ρ (.elem (.arg 1761) (.add (.arg 60064) (.int 2)))).2 &&& 255).toInt32)) (y := 0) (by rw [z0]; omega)) (fcn (di_lt (x := 64) (y := (((sd X ρ (.elem (.arg 1761) (.add (.arg 60064) (.int 1)))).2 &&& 255).toInt32 + ((sd X ρ (.elem (.arg 1761) (.add (.arg 60064) (.int 2)))).2 &&& 255).toInt32)) (by rw [z64]; omega)) (hF.2)))))))⟩ hI k4
  · have hV : ρ.2.1 60033 = 3 := Int64.toInt_inj.mp h
    have hN : ρ.1 60000 = 3 := by rw [← en, hV]; rfl
    rw [h] at hc
    have hc : (100925506 : Int) = amcode (ρ.2.2.2.1 1761) (ρ.1 60064).toInt.toNat 3 := hc
    obtain ⟨nz, su⟩ := am_lo hc.symm
    have z1 : ¬ (sd X ρ (.elem (.arg 1761) (.add (.arg 60064) (.int 1)))).2 = 0 := by rw [xe1]; exact fun q => nz 0 (by decide) (congrArg Int64.toInt q)
    have z2 : ¬ (sd X ρ (.elem (.arg 1761) (.add (.arg 60064) (.int 2)))).2 = 0 := by rw [xe2]; exact fun q => nz 1 (by decide) (congrArg Int64.toInt q)
    have z3 : ¬ (sd X ρ (.elem (.arg 1761) (.add (.arg 60064) (.int 3)))).2 = 0 := by rw [xe3]; exact fun q => nz 2 (by decide) (congrArg Int64.toInt q)
    have su : ¬ (ρ.2.2.2.1 1761 ((ρ.1 60064).toInt.toNat + 1 + 0)).toInt % 256 + (ρ.2.2.2.1 1761 ((ρ.1 60064).toInt.toNat + 1 + 1)).toInt % 256 + (ρ.2.2.2.1 1761 ((ρ.1 60064).toInt.toNat + 1 + 2)).toInt % 256 ≤ 64 := by
      have e : ((List.range 3).map (fun i => ((ρ.2.2.2.1 1761) ((ρ.1 60064).toInt.toNat + 1 + i)).toInt % 256)).sum = (ρ.2.2.2.1 1761 ((ρ.1 60064).toInt.toNat + 1 + 0)).toInt % 256 + (ρ.2.2.2.1 1761 ((ρ.1 60064).toInt.toNat + 1 + 1)).toInt % 256 + (ρ.2.2.2.1 1761 ((ρ.1 60064).toInt.toNat + 1 + 2)).toInt % 256 := by
        show (([0, 1, 2] : List Nat).map _).sum = _
        simp only [List.map_cons, List.map_nil, List.sum_cons, List.sum_nil]
        omega
      rw [e] at su
      exact su
    obtain ⟨l1, u1, j1⟩ := mb_r (y := (sd X ρ (.elem (.arg 1761) (.add (.arg 60064) (.int 1)))).2)
    have w1 : ((sd X ρ (.elem (.arg 1761) (.add (.arg 60064) (.int 1)))).2 &&& 255).toInt = (ρ.2.2.2.1 1761 ((ρ.1 60064).toInt.toNat + 1 + 0)).toInt % 256 := by rw [mw_a, xe1]
    obtain ⟨l2, u2, j2⟩ := mb_r (y := (sd X ρ (.elem (.arg 1761) (.add (.arg 60064) (.int 2)))).2)
    have w2 : ((sd X ρ (.elem (.arg 1761) (.add (.arg 60064) (.int 2)))).2 &&& 255).toInt = (ρ.2.2.2.1 1761 ((ρ.1 60064).toInt.toNat + 1 + 1)).toInt % 256 := by rw [mw_a, xe2]
    obtain ⟨l3, u3, j3⟩ := mb_r (y := (sd X ρ (.elem (.arg 1761) (.add (.arg 60064) (.int 3)))).2)
    have w3 : ((sd X ρ (.elem (.arg 1761) (.add (.arg 60064) (.int 3)))).2 &&& 255).toInt = (ρ.2.2.2.1 1761 ((ρ.1 60064).toInt.toNat + 1 + 2)).toInt % 256 := by rw [mw_a, xe3]
    have y64 : (64 : Int64).toInt = 64 := rfl
    have z64 : (64 : Int32).toInt = 64 := rfl
    have z0 : (0 : Int32).toInt = 0 := rfl
    have c1 : ((sd X ρ (.elem (.arg 1761) (.add (.arg 60064) (.int 1)))).2 &&& 255).toInt = ((sd X ρ (.elem (.arg 1761) (.add (.arg 60064) (.int 1)))).2 &&& 255).toInt := rfl
    have c2 : (((sd X ρ (.elem (.arg 1761) (.add (.arg 60064) (.int 1)))).2 &&& 255) + ((sd X ρ (.elem (.arg 1761) (.add (.arg 60064) (.int 2)))).2 &&& 255)).toInt = ((sd X ρ (.elem (.arg 1761) (.add (.arg 60064) (.int 1)))).2 &&& 255).toInt + ((sd X ρ (.elem (.arg 1761) (.add (.arg 60064) (.int 2)))).2 &&& 255).toInt := (l_add (by omega) (by omega)).trans (by omega)
    have d2 : (((sd X ρ (.elem (.arg 1761) (.add (.arg 60064) (.int 1)))).2 &&& 255).toInt32 + ((sd X ρ (.elem (.arg 1761) (.add (.arg 60064) (.int 2)))).2 &&& 255).toInt32).toInt = ((sd X ρ (.elem (.arg 1761) (.add (.arg 60064) (.int 1)))).2 &&& 255).toInt + ((sd X ρ (.elem (.arg 1761) (.add (.arg 60064) (.int 2)))).2 &&& 255).toInt := (s_add (by omega) (by omega)).trans (by omega)
    have c3 : ((((sd X ρ (.elem (.arg 1761) (.add (.arg 60064) (.int 1)))).2 &&& 255) + ((sd X ρ (.elem (.arg 1761) (.add (.arg 60064) (.int 2)))).2 &&& 255)) + ((sd X ρ (.elem (.arg 1761) (.add (.arg 60064) (.int 3)))).2 &&& 255)).toInt = ((sd X ρ (.elem (.arg 1761) (.add (.arg 60064) (.int 1)))).2 &&& 255).toInt + ((sd X ρ (.elem (.arg 1761) (.add (.arg 60064) (.int 2)))).2 &&& 255).toInt + ((sd X ρ (.elem (.arg 1761) (.add (.arg 60064) (.int 3)))).2 &&& 255).toInt := (l_add (by omega) (by omega)).trans (by omega)
    have d3 : ((((sd X ρ (.elem (.arg 1761) (.add (.arg 60064) (.int 1)))).2 &&& 255).toInt32 + ((sd X ρ (.elem (.arg 1761) (.add (.arg 60064) (.int 2)))).2 &&& 255).toInt32) + ((sd X ρ (.elem (.arg 1761) (.add (.arg 60064) (.int 3)))).2 &&& 255).toInt32).toInt = ((sd X ρ (.elem (.arg 1761) (.add (.arg 60064) (.int 1)))).2 &&& 255).toInt + ((sd X ρ (.elem (.arg 1761) (.add (.arg 60064) (.int 2)))).2 &&& 255).toInt + ((sd X ρ (.elem (.arg 1761) (.add (.arg 60064) (.int 3)))).2 &&& 255).toInt := (s_add (by omega) (by omega)).trans (by omega)
    have ov : 64 < ((sd X ρ (.elem (.arg 1761) (.add (.arg 60064) (.int 1)))).2 &&& 255).toInt + ((sd X ρ (.elem (.arg 1761) (.add (.arg 60064) (.int 2)))).2 &&& 255).toInt + ((sd X ρ (.elem (.arg 1761) (.add (.arg 60064) (.int 3)))).2 &&& 255).toInt := by omega
    exact t_mapln3o hv ρ k1 ⟨hF.1, fcn (decide_eq_true hV) (fcn (decide_eq_true hN) (fcn (decide_eq_false z1) (fcn (decide_eq_false z2) (fcn (decide_eq_false z3) (fcn (dl_lt (x := 64) (y := ((((sd X ρ (.elem (.arg 1761) (.add (.arg 60064) (.int 1)))).2 &&& 255) + ((sd X ρ (.elem (.arg 1761) (.add (.arg 60064) (.int 2)))).2 &&& 255)) + ((sd X ρ (.elem (.arg 1761) (.add (.arg 60064) (.int 3)))).2 &&& 255))) (by rw [y64]; omega)) (fcn (di_lf (x := ((((sd X ρ (.elem (.arg 1761) (.add (.arg 60064) (.int 1)))).2 &&& 255).toInt32 + ((sd X ρ (.elem (.arg 1761) (.add (.arg 60064) (.int 2)))).2 &&& 255).toInt32) + ((sd X ρ (.elem (.arg 1761) (.add (.arg 60064) (.int 3)))).2 &&& 255).toInt32)) (y := 0) (by rw [z0]; omega)) (fcn (di_lt (x := 64) (y := ((((sd X ρ (.elem (.arg 1761) (.add (.arg 60064) (.int 1)))).2 &&& 255).toInt32 + ((sd X ρ (.elem (.arg 1761) (.add (.arg 60064) (.int 2)))).2 &&& 255).toInt32) + ((sd X ρ (.elem (.arg 1761) (.add (.arg 60064) (.int 3)))).2 &&& 255).toInt32)) (by rw [z64]; omega)) (hF.2))))))))⟩ hI k4
  · have hV : ρ.2.1 60033 = 4 := Int64.toInt_inj.mp h
    have hN : ρ.1 60000 = 4 := by rw [← en, hV]; rfl
    rw [h] at hc
    have hc : (100925506 : Int) = amcode (ρ.2.2.2.1 1761) (ρ.1 60064).toInt.toNat 4 := hc
    obtain ⟨nz, su⟩ := am_lo hc.symm
    have z1 : ¬ (sd X ρ (.elem (.arg 1761) (.add (.arg 60064) (.int 1)))).2 = 0 := by rw [xe1]; exact fun q => nz 0 (by decide) (congrArg Int64.toInt q)
    have z2 : ¬ (sd X ρ (.elem (.arg 1761) (.add (.arg 60064) (.int 2)))).2 = 0 := by rw [xe2]; exact fun q => nz 1 (by decide) (congrArg Int64.toInt q)
    have z3 : ¬ (sd X ρ (.elem (.arg 1761) (.add (.arg 60064) (.int 3)))).2 = 0 := by rw [xe3]; exact fun q => nz 2 (by decide) (congrArg Int64.toInt q)
    have z4 : ¬ (sd X ρ (.elem (.arg 1761) (.add (.arg 60064) (.int 4)))).2 = 0 := by rw [xe4]; exact fun q => nz 3 (by decide) (congrArg Int64.toInt q)
    have su : ¬ (ρ.2.2.2.1 1761 ((ρ.1 60064).toInt.toNat + 1 + 0)).toInt % 256 + (ρ.2.2.2.1 1761 ((ρ.1 60064).toInt.toNat + 1 + 1)).toInt % 256 + (ρ.2.2.2.1 1761 ((ρ.1 60064).toInt.toNat + 1 + 2)).toInt % 256 + (ρ.2.2.2.1 1761 ((ρ.1 60064).toInt.toNat + 1 + 3)).toInt % 256 ≤ 64 := by
      have e : ((List.range 4).map (fun i => ((ρ.2.2.2.1 1761) ((ρ.1 60064).toInt.toNat + 1 + i)).toInt % 256)).sum = (ρ.2.2.2.1 1761 ((ρ.1 60064).toInt.toNat + 1 + 0)).toInt % 256 + (ρ.2.2.2.1 1761 ((ρ.1 60064).toInt.toNat + 1 + 1)).toInt % 256 + (ρ.2.2.2.1 1761 ((ρ.1 60064).toInt.toNat + 1 + 2)).toInt % 256 + (ρ.2.2.2.1 1761 ((ρ.1 60064).toInt.toNat + 1 + 3)).toInt % 256 := by
        show (([0, 1, 2, 3] : List Nat).map _).sum = _
        simp only [List.map_cons, List.map_nil, List.sum_cons, List.sum_nil]
        omega
      rw [e] at su
      exact su
    obtain ⟨l1, u1, j1⟩ := mb_r (y := (sd X ρ (.elem (.arg 1761) (.add (.arg 60064) (.int 1)))).2)
    have w1 : ((sd X ρ (.elem (.arg 1761) (.add (.arg 60064) (.int 1)))).2 &&& 255).toInt = (ρ.2.2.2.1 1761 ((ρ.1 60064).toInt.toNat + 1 + 0)).toInt % 256 := by rw [mw_a, xe1]
    obtain ⟨l2, u2, j2⟩ := mb_r (y := (sd X ρ (.elem (.arg 1761) (.add (.arg 60064) (.int 2)))).2)
    have w2 : ((sd X ρ (.elem (.arg 1761) (.add (.arg 60064) (.int 2)))).2 &&& 255).toInt = (ρ.2.2.2.1 1761 ((ρ.1 60064).toInt.toNat + 1 + 1)).toInt % 256 := by rw [mw_a, xe2]
    obtain ⟨l3, u3, j3⟩ := mb_r (y := (sd X ρ (.elem (.arg 1761) (.add (.arg 60064) (.int 3)))).2)
    have w3 : ((sd X ρ (.elem (.arg 1761) (.add (.arg 60064) (.int 3)))).2 &&& 255).toInt = (ρ.2.2.2.1 1761 ((ρ.1 60064).toInt.toNat + 1 + 2)).toInt % 256 := by rw [mw_a, xe3]
    obtain ⟨l4, u4, j4⟩ := mb_r (y := (sd X ρ (.elem (.arg 1761) (.add (.arg 60064) (.int 4)))).2)
    have w4 : ((sd X ρ (.elem (.arg 1761) (.add (.arg 60064) (.int 4)))).2 &&& 255).toInt = (ρ.2.2.2.1 1761 ((ρ.1 60064).toInt.toNat + 1 + 3)).toInt % 256 := by rw [mw_a, xe4]
    have y64 : (64 : Int64).toInt = 64 := rfl
    have z64 : (64 : Int32).toInt = 64 := rfl
    have z0 : (0 : Int32).toInt = 0 := rfl
    have c1 : ((sd X ρ (.elem (.arg 1761) (.add (.arg 60064) (.int 1)))).2 &&& 255).toInt = ((sd X ρ (.elem (.arg 1761) (.add (.arg 60064) (.int 1)))).2 &&& 255).toInt := rfl
    have c2 : (((sd X ρ (.elem (.arg 1761) (.add (.arg 60064) (.int 1)))).2 &&& 255) + ((sd X ρ (.elem (.arg 1761) (.add (.arg 60064) (.int 2)))).2 &&& 255)).toInt = ((sd X ρ (.elem (.arg 1761) (.add (.arg 60064) (.int 1)))).2 &&& 255).toInt + ((sd X ρ (.elem (.arg 1761) (.add (.arg 60064) (.int 2)))).2 &&& 255).toInt := (l_add (by omega) (by omega)).trans (by omega)
    have d2 : (((sd X ρ (.elem (.arg 1761) (.add (.arg 60064) (.int 1)))).2 &&& 255).toInt32 + ((sd X ρ (.elem (.arg 1761) (.add (.arg 60064) (.int 2)))).2 &&& 255).toInt32).toInt = ((sd X ρ (.elem (.arg 1761) (.add (.arg 60064) (.int 1)))).2 &&& 255).toInt + ((sd X ρ (.elem (.arg 1761) (.add (.arg 60064) (.int 2)))).2 &&& 255).toInt := (s_add (by omega) (by omega)).trans (by omega)
    have c3 : ((((sd X ρ (.elem (.arg 1761) (.add (.arg 60064) (.int 1)))).2 &&& 255) + ((sd X ρ (.elem (.arg 1761) (.add (.arg 60064) (.int 2)))).2 &&& 255)) + ((sd X ρ (.elem (.arg 1761) (.add (.arg 60064) (.int 3)))).2 &&& 255)).toInt = ((sd X ρ (.elem (.arg 1761) (.add (.arg 60064) (.int 1)))).2 &&& 255).toInt + ((sd X ρ (.elem (.arg 1761) (.add (.arg 60064) (.int 2)))).2 &&& 255).toInt + ((sd X ρ (.elem (.arg 1761) (.add (.arg 60064) (.int 3)))).2 &&& 255).toInt := (l_add (by omega) (by omega)).trans (by omega)
    have d3 : ((((sd X ρ (.elem (.arg 1761) (.add (.arg 60064) (.int 1)))).2 &&& 255).toInt32 + ((sd X ρ (.elem (.arg 1761) (.add (.arg 60064) (.int 2)))).2 &&& 255).toInt32) + ((sd X ρ (.elem (.arg 1761) (.add (.arg 60064) (.int 3)))).2 &&& 255).toInt32).toInt = ((sd X ρ (.elem (.arg 1761) (.add (.arg 60064) (.int 1)))).2 &&& 255).toInt + ((sd X ρ (.elem (.arg 1761) (.add (.arg 60064) (.int 2)))).2 &&& 255).toInt + ((sd X ρ (.elem (.arg 1761) (.add (.arg 60064) (.int 3)))).2 &&& 255).toInt := (s_add (by omega) (by omega)).trans (by omega)
    have c4 : (((((sd X ρ (.elem (.arg 1761) (.add (.arg 60064) (.int 1)))).2 &&& 255) + ((sd X ρ (.elem (.arg 1761) (.add (.arg 60064) (.int 2)))).2 &&& 255)) + ((sd X ρ (.elem (.arg 1761) (.add (.arg 60064) (.int 3)))).2 &&& 255)) + ((sd X ρ (.elem (.arg 1761) (.add (.arg 60064) (.int 4)))).2 &&& 255)).toInt = ((sd X ρ (.elem (.arg 1761) (.add (.arg 60064) (.int 1)))).2 &&& 255).toInt + ((sd X ρ (.elem (.arg 1761) (.add (.arg 60064) (.int 2)))).2 &&& 255).toInt + ((sd X ρ (.elem (.arg 1761) (.add (.arg 60064) (.int 3)))).2 &&& 255).toInt + ((sd X ρ (.elem (.arg 1761) (.add (.arg 60064) (.int 4)))).2 &&& 255).toInt := (l_add (by omega) (by omega)).trans (by omega)
    have d4 : (((((sd X ρ (.elem (.arg 1761) (.add (.arg 60064) (.int 1)))).2 &&& 255).toInt32 + ((sd X ρ (.elem (.arg 1761) (.add (.arg 60064) (.int 2)))).2 &&& 255).toInt32) + ((sd X ρ (.elem (.arg 1761) (.add (.arg 60064) (.int 3)))).2 &&& 255).toInt32) + ((sd X ρ (.elem (.arg 1761) (.add (.arg 60064) (.int 4)))).2 &&& 255).toInt32).toInt = ((sd X ρ (.elem (.arg 1761) (.add (.arg 60064) (.int 1)))).2 &&& 255).toInt + ((sd X ρ (.elem (.arg 1761) (.add (.arg 60064) (.int 2)))).2 &&& 255).toInt + ((sd X ρ (.elem (.arg 1761) (.add (.arg 60064) (.int 3)))).2 &&& 255).toInt + ((sd X ρ (.elem (.arg 1761) (.add (.arg 60064) (.int 4)))).2 &&& 255).toInt := (s_add (by omega) (by omega)).trans (by omega)
    have ov : 64 < ((sd X ρ (.elem (.arg 1761) (.add (.arg 60064) (.int 1)))).2 &&& 255).toInt + ((sd X ρ (.elem (.arg 1761) (.add (.arg 60064) (.int 2)))).2 &&& 255).toInt + ((sd X ρ (.elem (.arg 1761) (.add (.arg 60064) (.int 3)))).2 &&& 255).toInt + ((sd X ρ (.elem (.arg 1761) (.add (.arg 60064) (.int 4)))).2 &&& 255).toInt := by omega
    exact t_mapln4o hv ρ k1 ⟨hF.1, fcn (decide_eq_true hV) (fcn (decide_eq_true hN) (fcn (decide_eq_false z1) (fcn (decide_eq_false z2) (fcn (decide_eq_false z3) (fcn (decide_eq_false z4) (fcn (dl_lt (x := 64) (y := (((((sd X ρ (.elem (.arg 1761) (.add (.arg 60064) (.int 1)))).2 &&& 255) + ((sd X ρ (.elem (.arg 1761) (.add (.arg 60064) (.int 2)))).2 &&& 255)) + ((sd X ρ (.elem (.arg 1761) (.add (.arg 60064) (.int 3)))).2 &&& 255)) + ((sd X ρ (.elem (.arg 1761) (.add (.arg 60064) (.int 4)))).2 &&& 255))) (by rw [y64]; omega)) (fcn (di_lf (x := (((((sd X ρ (.elem (.arg 1761) (.add (.arg 60064) (.int 1)))).2 &&& 255).toInt32 + ((sd X ρ (.elem (.arg 1761) (.add (.arg 60064) (.int 2)))).2 &&& 255).toInt32) + ((sd X ρ (.elem (.arg 1761) (.add (.arg 60064) (.int 3)))).2 &&& 255).toInt32) + ((sd X ρ (.elem (.arg 1761) (.add (.arg 60064) (.int 4)))).2 &&& 255).toInt32)) (y := 0) (by rw [z0]; omega)) (fcn (di_lt (x := 64) (y := (((((sd X ρ (.elem (.arg 1761) (.add (.arg 60064) (.int 1)))).2 &&& 255).toInt32 + ((sd X ρ (.elem (.arg 1761) (.add (.arg 60064) (.int 2)))).2 &&& 255).toInt32) + ((sd X ρ (.elem (.arg 1761) (.add (.arg 60064) (.int 3)))).2 &&& 255).toInt32) + ((sd X ρ (.elem (.arg 1761) (.add (.arg 60064) (.int 4)))).2 &&& 255).toInt32)) (by rw [z64]; omega)) (hF.2)))))))))⟩ hI k4
theorem e_mapl : frun kR [] (cpl1 zWP c_mapl [q_mapl]) (cpl2 zWP c_mapl [q_mapl]) (cleaf kR zWP c_mapl [q_mapl]) 10 65536 (isatP (c_mapl.2.2.2.1) c_mapl.2.2.2.2.2.2.2.1) c_mapl.2.2.2.2.2.2.2.1 (sin0 mt_all c_mapl.1.1 5 c_mapl.2.1.1 (foot zWP c_mapl.2.2.1.1)) (sin0 mt_all c_mapl.1.2.1 5 c_mapl.2.1.2 (foot zWP c_mapl.2.2.1.2)) = true := by decide +kernel
theorem s_mapl {X : pX} : SREL X pF pdfl mt_all kR zWP c_mapl := SREL_QC kR_x kR_0 (Cs := []) (fun C hC => by cases hC) (d := 5) rfl c_mapl_f (Q := [q_mapl]) (fun ρ0 hv => fun q hq => by
    simp only [List.mem_cons, List.not_mem_nil, or_false] at hq
    rw [hq]; exact t_mapl hv) (QC_run 10 e_mapl)
