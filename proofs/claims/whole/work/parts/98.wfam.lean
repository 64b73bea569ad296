set_option maxRecDepth 20000
theorem wl_0 : awr.all (fun p => !(decide ((pt_BOOK.getD (5 * p + 1) 0 &&& 15).toInt = 0)) || ([2, 30, 36, 40, 44, 48, 50, 55, 60, 65, 72, 77, 82, 87, 90, 95, 100, 105, 113] : List Nat).contains p) = true := by decide +kernel
theorem wk_0 : ([2, 30, 36, 40, 44, 48, 50, 55, 60, 65, 72, 77, 82, 87, 90, 95, 100, 105, 113] : List Nat).all (fun p => decide ((Int32.ofNat p).toInt = p)) = true := by decide +kernel
theorem s_wn0 {X : pX} : SREL X pF pdfl mt_all kR zWP c_wn0 := SREL_fam (D := c_wp0) (L := ([2, 30, 36, 40, 44, 48, 50, 55, 60, 65, 72, 77, 82, 87, 90, 95, 100, 105, 113] : List Nat).map Int32.ofNat) (fun p => ⟨rfl, rfl, rfl, rfl, rfl, rfl⟩) (fun p hp => by
    simp only [List.map_cons, List.map_nil, List.mem_cons, List.not_mem_nil, or_false] at hp
    rcases hp with rfl | rfl | rfl | rfl | rfl | rfl | rfl | rfl | rfl | rfl | rfl | rfl | rfl | rfl | rfl | rfl | rfl | rfl | rfl
    · exact s_wp2
    · exact s_wp30
    · exact s_wp36
    · exact s_wp40
    · exact s_wp44
    · exact s_wp48
    · exact s_wp50
    · exact s_wp55
    · exact s_wp60
    · exact s_wp65
    · exact s_wp72
    · exact s_wp77
    · exact s_wp82
    · exact s_wp87
    · exact s_wp90
    · exact s_wp95
    · exact s_wp100
    · exact s_wp105
    · exact s_wp113)
  (fun ρ hK hF hI => by
    have h : (decide (0 ≤ (ρ.1 60032).toInt) && (awr.contains (ρ.1 60032).toInt.toNat && decide ((pt_BOOK.getD (5 * (ρ.1 60032).toInt.toNat + 1) 0 &&& 15).toInt = 0))) = true := hF.2 _ List.mem_cons_self
    simp only [Bool.and_eq_true, decide_eq_true_eq] at h
    obtain ⟨h0, h1, h2⟩ := h
    have h3 := List.all_eq_true.mp wl_0 _ (List.contains_iff_mem.mp h1)
    simp only [Bool.or_eq_true, Bool.not_eq_true', decide_eq_false_iff_not] at h3
    have h4 := List.contains_iff_mem.mp (h3.resolve_left (fun q => q h2))
    have h5 := of_decide_eq_true (List.all_eq_true.mp wk_0 _ h4)
    have e : ρ.1 60032 = Int32.ofNat (ρ.1 60032).toInt.toNat := Int32.toInt_inj.mp (by rw [h5]; omega)
    have se : sv X ρ (.arg 60032) = sv X ρ (.int (Int32.ofNat (ρ.1 60032).toInt.toNat)) := by
      rw [sv_int rfl, sv_int rfl]
      exact congrArg Value.int e
    refine ⟨Int32.ofNat (ρ.1 60032).toInt.toNat, List.mem_map.mpr ⟨_, h4, rfl⟩, ⟨hF.1, fcn ?_ (fun f hf => hF.2 f (List.mem_cons_of_mem _ (List.mem_cons_of_mem _ (hf))))⟩, hI, ?_, ?_⟩
    · have hx : apred 136 (aits X ρ (.arg 60032)) (sn X ρ (.arg 2816)) = true := hF.2 ((136, .arg 60032, .arg 2816), true) (List.mem_cons_of_mem _ (List.mem_cons_self))
      have hy : (!(axx.contains (ρ.1 60032).toInt.toNat) || !(decide ((ρ.1 2816).toInt = 4))) = true := hx
      show (!(axx.contains (Int32.ofNat (ρ.1 60032).toInt.toNat).toInt.toNat) || !(decide ((ρ.1 2816).toInt = 4))) = true
      rw [← e]
      exact hy
    · show [_, sv X ρ (.arg 60032), _] = [_, sv X ρ (.int _), _]
      rw [se]
    · show [_, _, sv X ρ (.arg 60032)] = [_, _, sv X ρ (.int _)]
      rw [se])
theorem wl_1 : awr.all (fun p => !(decide ((pt_BOOK.getD (5 * p + 1) 0 &&& 15).toInt = 1)) || ([19, 23, 37, 41, 45, 49, 73, 74, 78, 79, 83, 84, 88, 89, 115, 127, 129, 147] : List Nat).contains p) = true := by decide +kernel
theorem wk_1 : ([19, 23, 37, 41, 45, 49, 73, 74, 78, 79, 83, 84, 88, 89, 115, 127, 129, 147] : List Nat).all (fun p => decide ((Int32.ofNat p).toInt = p)) = true := by decide +kernel
theorem s_wn1 {X : pX} : SREL X pF pdfl mt_all kR zWP c_wn1 := SREL_fam (D := c_wp1) (L := ([19, 23, 37, 41, 45, 49, 73, 74, 78, 79, 83, 84, 88, 89, 115, 127, 129, 147] : List Nat).map Int32.ofNat) (fun p => ⟨rfl, rfl, rfl, rfl, rfl, rfl⟩) (fun p hp => by
    simp only [List.map_cons, List.map_nil, List.mem_cons, List.not_mem_nil, or_false] at hp
    rcases hp with rfl | rfl | rfl | rfl | rfl | rfl | rfl | rfl | rfl | rfl | rfl | rfl | rfl | rfl | rfl | rfl | rfl | rfl
    · exact s_wp19
    · exact s_wp23
    · exact s_wp37
    · exact s_wp41
    · exact s_wp45
    · exact s_wp49
    · exact s_wp73
    · exact s_wp74
    · exact s_wp78
    · exact s_wp79
    · exact s_wp83
    · exact s_wp84
    · exact s_wp88
    · exact s_wp89
    · exact s_wp115
    · exact s_wp127
    · exact s_wp129
    · exact s_wp147)
  (fun ρ hK hF hI => by
    have h : (decide (0 ≤ (ρ.1 60032).toInt) && (awr.contains (ρ.1 60032).toInt.toNat && decide ((pt_BOOK.getD (5 * (ρ.1 60032).toInt.toNat + 1) 0 &&& 15).toInt = 1))) = true := hF.2 _ List.mem_cons_self
    simp only [Bool.and_eq_true, decide_eq_true_eq] at h
    obtain ⟨h0, h1, h2⟩ := h
    have h3 := List.all_eq_true.mp wl_1 _ (List.contains_iff_mem.mp h1)
    simp only [Bool.or_eq_true, Bool.not_eq_true', decide_eq_false_iff_not] at h3
    have h4 := List.contains_iff_mem.mp (h3.resolve_left (fun q => q h2))
    have h5 := of_decide_eq_true (List.all_eq_true.mp wk_1 _ h4)
    have e : ρ.1 60032 = Int32.ofNat (ρ.1 60032).toInt.toNat := Int32.toInt_inj.mp (by rw [h5]; omega)
    have se : sv X ρ (.arg 60032) = sv X ρ (.int (Int32.ofNat (ρ.1 60032).toInt.toNat)) := by
      rw [sv_int rfl, sv_int rfl]
      exact congrArg Value.int e
    refine ⟨Int32.ofNat (ρ.1 60032).toInt.toNat, List.mem_map.mpr ⟨_, h4, rfl⟩, ⟨hF.1, fcn ?_ (fun f hf => hF.2 f (List.mem_cons_of_mem _ (List.mem_cons_of_mem _ (hf))))⟩, hI, ?_, ?_⟩
    · have hx : apred 136 (aits X ρ (.arg 60032)) (sn X ρ (.arg 2816)) = true := hF.2 ((136, .arg 60032, .arg 2816), true) (List.mem_cons_of_mem _ (List.mem_cons_self))
      have hy : (!(axx.contains (ρ.1 60032).toInt.toNat) || !(decide ((ρ.1 2816).toInt = 4))) = true := hx
      show (!(axx.contains (Int32.ofNat (ρ.1 60032).toInt.toNat).toInt.toNat) || !(decide ((ρ.1 2816).toInt = 4))) = true
      rw [← e]
      exact hy
    · show [_, sv X ρ (.arg 60032), _] = [_, sv X ρ (.int _), _]
      rw [se]
    · show [_, _, sv X ρ (.arg 60032)] = [_, _, sv X ρ (.int _)]
      rw [se])
theorem wl_2 : awr.all (fun p => !(decide ((pt_BOOK.getD (5 * p + 1) 0 &&& 15).toInt = 2)) || ([11, 12, 17, 21, 22, 35, 39, 43, 47, 51, 52, 53, 54, 56, 57, 58, 59, 61, 62, 63, 64, 66, 67, 68, 69, 71, 76, 81, 86, 91, 92, 93, 94, 96, 97, 98, 99, 101, 102, 103, 104, 106, 107, 108, 109, 126, 128, 137, 138, 139, 140, 141, 144, 145, 146, 153, 15] : List Nat).contains p) = true := by decide +kernel
theorem wk_2 : ([11, 12, 17, 21, 22, 35, 39, 43, 47, 51, 52, 53, 54, 56, 57, 58, 59, 61, 62, 63, 64, 66, 67, 68, 69, 71, 76, 81, 86, 91, 92, 93, 94, 96, 97, 98, 99, 101, 102, 103, 104, 106, 107, 108, 109, 126, 128, 137, 138, 139, 140, 141, 144, 145, 146, 153] : List Nat).all (fun p => decide ((Int32.ofNat p).toInt = p)) = true := by decide +kernel
theorem s_wn2 {X : pX} : SREL X pF pdfl mt_all kR zWP c_wn2 := SREL_fam (D := c_wp2) (L := ([11, 12, 17, 21, 22, 35, 39, 43, 47, 51, 52, 53, 54, 56, 57, 58, 59, 61, 62, 63, 64, 66, 67, 68, 69, 71, 76, 81, 86, 91, 92, 93, 94, 96, 97, 98, 99, 101, 102, 103, 104, 106, 107, 108, 109, 126, 128, 137, 138, 139, 140, 141, 144, 145, 146, 153] : List Nat).map Int32.ofNat) (fun p => ⟨rfl, rfl, rfl, rfl, rfl, rfl⟩) (fun p hp => by
    simp only [List.map_cons, List.map_nil, List.mem_cons, List.not_mem_nil, or_false] at hp
    rcases hp with rfl | rfl | rfl | rfl | rfl | rfl | rfl | rfl | rfl | rfl | rfl | rfl | rfl | rfl | rfl | rfl | rfl | rfl | rfl | rfl | rfl | rfl | rfl | rfl | rfl | rfl | rfl | rfl | rfl | rfl | rfl | rfl | rfl | rfl | rfl | rfl | rfl | rfl | rfl | rfl | rfl | rfl | rfl | rfl | rfl | rfl | rfl | rfl | rfl | rfl | rfl | rfl | rfl | rfl | rfl | rfl
    · exact s_wp11
    · exact s_wp12
    · exact s_wp17
    · exact s_wp21
    · exact s_wp22
    · exact s_wp35
    · exact s_wp39
    · exact s_wp43
    · exact s_wp47
    · exact s_wp51
    · exact s_wp52
    · exact s_wp53
    · exact s_wp54
    · exact s_wp56
    · exact s_wp57
    · exact s_wp58
    · exact s_wp59
    · exact s_wp61
    · exact s_wp62
    · exact s_wp63
    · exact s_wp64
    · exact s_wp66
    · exact s_wp67
    · exact s_wp68
    · exact s_wp69
    · exact s_wp71
    · exact s_wp76
    · exact s_wp81
    · exact s_wp86
    · exact s_wp91
    · exact s_wp92
    · exact s_wp93
    · exact s_wp94
    · exact s_wp96
    · exact s_wp97
    · exact s_wp98
    · exact s_wp99
    · exact s_wp101
    · exact s_wp102
    · exact s_wp103
    · exact s_wp104
    · exact s_wp106
    · exact s_wp107
    · exact s_wp108
    · exact s_wp109
    · exact s_wp126
    · exact s_wp128
    · exact s_wp137
    · exact s_wp138
    · exact s_wp139
    · exact s_wp140
    · exact s_wp141
    · exact s_wp144
    · exact s_wp145
    · exact s_wp146
    · exact s_wp153)
  (fun ρ hK hF hI => by
    have h : (decide (0 ≤ (ρ.1 60032).toInt) && (awr.contains (ρ.1 60032).toInt.toNat && decide ((pt_BOOK.getD (5 * (ρ.1 60032).toInt.toNat + 1) 0 &&& 15).toInt = 2))) = true := hF.2 _ List.mem_cons_self
    simp only [Bool.and_eq_true, decide_eq_true_eq] at h
    obtain ⟨h0, h1, h2⟩ := h
    have h3 := List.all_eq_true.mp wl_2 _ (List.contains_iff_mem.mp h1)
    simp only [Bool.or_eq_true, Bool.not_eq_true', decide_eq_false_iff_not] at h3
    have h4 := List.contains_iff_mem.mp (h3.resolve_left (fun q => q h2))
    have n5 : ¬ ρ.1 60032 = 15 := of_decide_eq_false (hF.2 _ (List.mem_cons_of_mem _ List.mem_cons_self))
    have h4 : (ρ.1 60032).toInt.toNat ∈ ([11, 12, 17, 21, 22, 35, 39, 43, 47, 51, 52, 53, 54, 56, 57, 58, 59, 61, 62, 63, 64, 66, 67, 68, 69, 71, 76, 81, 86, 91, 92, 93, 94, 96, 97, 98, 99, 101, 102, 103, 104, 106, 107, 108, 109, 126, 128, 137, 138, 139, 140, 141, 144, 145, 146, 153] : List Nat) := by
      rcases List.mem_append.mp (show (ρ.1 60032).toInt.toNat ∈ ([11, 12, 17, 21, 22, 35, 39, 43, 47, 51, 52, 53, 54, 56, 57, 58, 59, 61, 62, 63, 64, 66, 67, 68, 69, 71, 76, 81, 86, 91, 92, 93, 94, 96, 97, 98, 99, 101, 102, 103, 104, 106, 107, 108, 109, 126, 128, 137, 138, 139, 140, 141, 144, 145, 146, 153] : List Nat) ++ [15] from h4) with q | q
      · exact q
      · exact absurd (Int32.toInt_inj.mp (show (ρ.1 60032).toInt = (15 : Int32).toInt by have q := List.mem_singleton.mp q; have z : (15 : Int32).toInt = 15 := rfl; omega)) n5
    have h5 := of_decide_eq_true (List.all_eq_true.mp wk_2 _ h4)
    have e : ρ.1 60032 = Int32.ofNat (ρ.1 60032).toInt.toNat := Int32.toInt_inj.mp (by rw [h5]; omega)
    have se : sv X ρ (.arg 60032) = sv X ρ (.int (Int32.ofNat (ρ.1 60032).toInt.toNat)) := by
      rw [sv_int rfl, sv_int rfl]
      exact congrArg Value.int e
    refine ⟨Int32.ofNat (ρ.1 60032).toInt.toNat, List.mem_map.mpr ⟨_, h4, rfl⟩, ⟨hF.1, fcn ?_ (fun f hf => hF.2 f (List.mem_cons_of_mem _ (List.mem_cons_of_mem _ (List.mem_cons_of_mem _ (hf)))))⟩, hI, ?_, ?_⟩
    · have hx : apred 136 (aits X ρ (.arg 60032)) (sn X ρ (.arg 2816)) = true := hF.2 ((136, .arg 60032, .arg 2816), true) (List.mem_cons_of_mem _ (List.mem_cons_of_mem _ (List.mem_cons_self)))
      have hy : (!(axx.contains (ρ.1 60032).toInt.toNat) || !(decide ((ρ.1 2816).toInt = 4))) = true := hx
      show (!(axx.contains (Int32.ofNat (ρ.1 60032).toInt.toNat).toInt.toNat) || !(decide ((ρ.1 2816).toInt = 4))) = true
      rw [← e]
      exact hy
    · show [_, sv X ρ (.arg 60032), _] = [_, sv X ρ (.int _), _]
      rw [se]
    · show [_, _, sv X ρ (.arg 60032)] = [_, _, sv X ρ (.int _)]
      rw [se])
theorem wl_3 : awr.all (fun p => !(decide ((pt_BOOK.getD (5 * p + 1) 0 &&& 15).toInt = 3)) || ([122, 142] : List Nat).contains p) = true := by decide +kernel
theorem wk_3 : ([122, 142] : List Nat).all (fun p => decide ((Int32.ofNat p).toInt = p)) = true := by decide +kernel
theorem s_wn3 {X : pX} : SREL X pF pdfl mt_all kR zWP c_wn3 := SREL_fam (D := c_wp3) (L := ([122, 142] : List Nat).map Int32.ofNat) (fun p => ⟨rfl, rfl, rfl, rfl, rfl, rfl⟩) (fun p hp => by
    simp only [List.map_cons, List.map_nil, List.mem_cons, List.not_mem_nil, or_false] at hp
    rcases hp with rfl | rfl
    · exact s_wp122
    · exact s_wp142)
  (fun ρ hK hF hI => by
    have h : (decide (0 ≤ (ρ.1 60032).toInt) && (awr.contains (ρ.1 60032).toInt.toNat && decide ((pt_BOOK.getD (5 * (ρ.1 60032).toInt.toNat + 1) 0 &&& 15).toInt = 3))) = true := hF.2 _ List.mem_cons_self
    simp only [Bool.and_eq_true, decide_eq_true_eq] at h
    obtain ⟨h0, h1, h2⟩ := h
    have h3 := List.all_eq_true.mp wl_3 _ (List.contains_iff_mem.mp h1)
    simp only [Bool.or_eq_true, Bool.not_eq_true', decide_eq_false_iff_not] at h3
    have h4 := List.contains_iff_mem.mp (h3.resolve_left (fun q => q h2))
    have h5 := of_decide_eq_true (List.all_eq_true.mp wk_3 _ h4)
    have e : ρ.1 60032 = Int32.ofNat (ρ.1 60032).toInt.toNat := Int32.toInt_inj.mp (by rw [h5]; omega)
    have se : sv X ρ (.arg 60032) = sv X ρ (.int (Int32.ofNat (ρ.1 60032).toInt.toNat)) := by
      rw [sv_int rfl, sv_int rfl]
      exact congrArg Value.int e
    refine ⟨Int32.ofNat (ρ.1 60032).toInt.toNat, List.mem_map.mpr ⟨_, h4, rfl⟩, ⟨hF.1, fcn ?_ (fun f hf => hF.2 f (List.mem_cons_of_mem _ (List.mem_cons_of_mem _ (hf))))⟩, hI, ?_, ?_⟩
    · have hx : apred 136 (aits X ρ (.arg 60032)) (sn X ρ (.arg 2816)) = true := hF.2 ((136, .arg 60032, .arg 2816), true) (List.mem_cons_of_mem _ (List.mem_cons_self))
      have hy : (!(axx.contains (ρ.1 60032).toInt.toNat) || !(decide ((ρ.1 2816).toInt = 4))) = true := hx
      show (!(axx.contains (Int32.ofNat (ρ.1 60032).toInt.toNat).toInt.toNat) || !(decide ((ρ.1 2816).toInt = 4))) = true
      rw [← e]
      exact hy
    · show [_, sv X ρ (.arg 60032), _] = [_, sv X ρ (.int _), _]
      rw [se]
    · show [_, _, sv X ρ (.arg 60032)] = [_, _, sv X ρ (.int _)]
      rw [se])
theorem wl_4 : awr.all (fun p => !(decide ((pt_BOOK.getD (5 * p + 1) 0 &&& 15).toInt = 4)) || ([117, 118, 119, 120, 121] : List Nat).contains p) = true := by decide +kernel
theorem wk_4 : ([117, 118, 119, 120, 121] : List Nat).all (fun p => decide ((Int32.ofNat p).toInt = p)) = true := by decide +kernel
theorem s_wn4 {X : pX} : SREL X pF pdfl mt_all kR zWP c_wn4 := SREL_fam (D := c_wp4) (L := ([117, 118, 119, 120, 121] : List Nat).map Int32.ofNat) (fun p => ⟨rfl, rfl, rfl, rfl, rfl, rfl⟩) (fun p hp => by
    simp only [List.map_cons, List.map_nil, List.mem_cons, List.not_mem_nil, or_false] at hp
    rcases hp with rfl | rfl | rfl | rfl | rfl
    · exact s_wp117
    · exact s_wp118
    · exact s_wp119
    · exact s_wp120
    · exact s_wp121)
  (fun ρ hK hF hI => by
    have h : (decide (0 ≤ (ρ.1 60032).toInt) && (awr.contains (ρ.1 60032).toInt.toNat && decide ((pt_BOOK.getD (5 * (ρ.1 60032).toInt.toNat + 1) 0 &&& 15).toInt = 4))) = true := hF.2 _ List.mem_cons_self
    simp only [Bool.and_eq_true, decide_eq_true_eq] at h
    obtain ⟨h0, h1, h2⟩ := h
    have h3 := List.all_eq_true.mp wl_4 _ (List.contains_iff_mem.mp h1)
    simp only [Bool.or_eq_true, Bool.not_eq_true', decide_eq_false_iff_not] at h3
    have h4 := List.contains_iff_mem.mp (h3.resolve_left (fun q => q h2))
    have h5 := of_decide_eq_true (List.all_eq_true.mp wk_4 _ h4)
    have e : ρ.1 60032 = Int32.ofNat (ρ.1 60032).toInt.toNat := Int32.toInt_inj.mp (by rw [h5]; omega)
    have se : sv X ρ (.arg 60032) = sv X ρ (.int (Int32.ofNat (ρ.1 60032).toInt.toNat)) := by
      rw [sv_int rfl, sv_int rfl]
      exact congrArg Value.int e
    refine ⟨Int32.ofNat (ρ.1 60032).toInt.toNat, List.mem_map.mpr ⟨_, h4, rfl⟩, ⟨hF.1, fcn ?_ (fun f hf => hF.2 f (List.mem_cons_of_mem _ (List.mem_cons_of_mem _ (hf))))⟩, hI, ?_, ?_⟩
    · have hx : apred 136 (aits X ρ (.arg 60032)) (sn X ρ (.arg 2816)) = true := hF.2 ((136, .arg 60032, .arg 2816), true) (List.mem_cons_of_mem _ (List.mem_cons_self))
      have hy : (!(axx.contains (ρ.1 60032).toInt.toNat) || !(decide ((ρ.1 2816).toInt = 4))) = true := hx
      show (!(axx.contains (Int32.ofNat (ρ.1 60032).toInt.toNat).toInt.toNat) || !(decide ((ρ.1 2816).toInt = 4))) = true
      rw [← e]
      exact hy
    · show [_, sv X ρ (.arg 60032), _] = [_, sv X ρ (.int _), _]
      rw [se]
    · show [_, _, sv X ρ (.arg 60032)] = [_, _, sv X ρ (.int _)]
      rw [se])
theorem wl_5 : awr.all (fun p => !(decide ((pt_BOOK.getD (5 * p + 1) 0 &&& 15).toInt = 5)) || ([132, 133, 135, 136, 154] : List Nat).contains p) = true := by decide +kernel
theorem wk_5 : ([132, 133, 135, 136, 154] : List Nat).all (fun p => decide ((Int32.ofNat p).toInt = p)) = true := by decide +kernel
theorem s_wn5 {X : pX} : SREL X pF pdfl mt_all kR zWP c_wn5 := SREL_fam (D := c_wp5) (L := ([132, 133, 135, 136, 154] : List Nat).map Int32.ofNat) (fun p => ⟨rfl, rfl, rfl, rfl, rfl, rfl⟩) (fun p hp => by
    simp only [List.map_cons, List.map_nil, List.mem_cons, List.not_mem_nil, or_false] at hp
    rcases hp with rfl | rfl | rfl | rfl | rfl
    · exact s_wp132
    · exact s_wp133
    · exact s_wp135
    · exact s_wp136
    · exact s_wp154)
  (fun ρ hK hF hI => by
    have h : (decide (0 ≤ (ρ.1 60032).toInt) && (awr.contains (ρ.1 60032).toInt.toNat && decide ((pt_BOOK.getD (5 * (ρ.1 60032).toInt.toNat + 1) 0 &&& 15).toInt = 5))) = true := hF.2 _ List.mem_cons_self
    simp only [Bool.and_eq_true, decide_eq_true_eq] at h
    obtain ⟨h0, h1, h2⟩ := h
    have h3 := List.all_eq_true.mp wl_5 _ (List.contains_iff_mem.mp h1)
    simp only [Bool.or_eq_true, Bool.not_eq_true', decide_eq_false_iff_not] at h3
    have h4 := List.contains_iff_mem.mp (h3.resolve_left (fun q => q h2))
    have h5 := of_decide_eq_true (List.all_eq_true.mp wk_5 _ h4)
    have e : ρ.1 60032 = Int32.ofNat (ρ.1 60032).toInt.toNat := Int32.toInt_inj.mp (by rw [h5]; omega)
    have se : sv X ρ (.arg 60032) = sv X ρ (.int (Int32.ofNat (ρ.1 60032).toInt.toNat)) := by
      rw [sv_int rfl, sv_int rfl]
      exact congrArg Value.int e
    refine ⟨Int32.ofNat (ρ.1 60032).toInt.toNat, List.mem_map.mpr ⟨_, h4, rfl⟩, ⟨hF.1, fcn ?_ (fun f hf => hF.2 f (List.mem_cons_of_mem _ (List.mem_cons_of_mem _ (hf))))⟩, hI, ?_, ?_⟩
    · have hx : apred 136 (aits X ρ (.arg 60032)) (sn X ρ (.arg 2816)) = true := hF.2 ((136, .arg 60032, .arg 2816), true) (List.mem_cons_of_mem _ (List.mem_cons_self))
      have hy : (!(axx.contains (ρ.1 60032).toInt.toNat) || !(decide ((ρ.1 2816).toInt = 4))) = true := hx
      show (!(axx.contains (Int32.ofNat (ρ.1 60032).toInt.toNat).toInt.toNat) || !(decide ((ρ.1 2816).toInt = 4))) = true
      rw [← e]
      exact hy
    · show [_, sv X ρ (.arg 60032), _] = [_, sv X ρ (.int _), _]
      rw [se]
    · show [_, _, sv X ρ (.arg 60032)] = [_, _, sv X ρ (.int _)]
      rw [se])
