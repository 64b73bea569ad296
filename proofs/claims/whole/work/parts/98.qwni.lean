set_option maxRecDepth 20000
theorem evm_c {g h : Nat → Int64} {m : Nat} (hm : h m = g m) (hn : (g m).toInt.toNat ≤ 4) (he : ∀ i, i < 4 → h (m + 1 + i) = g (m + 1 + i)) : evm h m = evm g m := by
  unfold evm
  rw [hm]
  have f2 : (List.range (g m).toInt.toNat).map (fun i => (h (m + 1 + i)).toInt % 256) = (List.range (g m).toInt.toNat).map (fun i => (g (m + 1 + i)).toInt % 256) := List.map_congr_left (fun i hi => by rw [he i (by have := List.mem_range.mp hi; omega)])
  have f1 : (List.range (g m).toInt.toNat).all (fun i => !(decide ((h (m + 1 + i)).toInt = 0))) = (List.range (g m).toInt.toNat).all (fun i => !(decide ((g (m + 1 + i)).toInt = 0))) := by
    apply Bool.eq_iff_iff.mpr
    simp only [List.all_eq_true]
    constructor
    · intro H x hx
      have := H x hx
      rw [he x (by have := List.mem_range.mp hx; omega)] at this
      exact this
    · intro H x hx
      have := H x hx
      rw [he x (by have := List.mem_range.mp hx; omega)]
      exact this
  rw [f1, f2]
theorem et_m : ([50, 55, 60, 65, 90, 95, 100, 105] : List Nat).all (fun m => decide (evt[m]? = some (0, 4, 0))) = true := by decide +kernel
/-- an entry that is in no map gets another valid number -/
theorem ev_up {g h : Nat → Int64} (hg : evall g = true) {p : Nat} (hp : 110 ≤ p) {v : Int64} (hv : evk p v.toInt = true) (hh : ∀ j, h j = if p = j then v else g j) : evall h = true := by
  have hg' := hg
  simp only [evall, Bool.and_eq_true, List.all_eq_true] at hg ⊢
  refine ⟨fun k hk => ?_, fun m hm => ?_⟩
  · rw [hh k]
    by_cases e : p = k
    · rw [if_pos e, ← e]; exact hv
    · rw [if_neg e]; exact hg.1 k hk
  · have hm4 : m ≤ 105 := by
      simp only [List.mem_cons, List.not_mem_nil, or_false] at hm
      omega
    have e4 := of_decide_eq_true (List.all_eq_true.mp et_m m hm)
    have b := (se_b hg' m e4 (by omega)).2.1
    rw [evm_c (g := g) (by rw [hh m, if_neg (by omega)]) (by omega) (fun i hi => by rw [hh (m + 1 + i), if_neg (by omega)])]
    exact hg.2 m hm
theorem ad_l {X : pX} {ρ ρ3 : sR} {p : Int32} {t : sT} (ht : sk t = 1) (h : ∀ j, bden X ρ3 (.arg 1761) j = aden X ρ (.arg 1761) [(.int p, t)] j) (j : Nat) : ρ3.2.2.2.1 1761 j = if p.toNatClampNeg = j then (sd X ρ t).2 else ρ.2.2.2.1 1761 j := by
  have e := h j
  simp only [aden] at e
  have b1 : bden X ρ3 (.arg 1761) j = .long (ρ3.2.2.2.1 1761 j) := by unfold bden; rfl
  have b2 : bden X ρ (.arg 1761) j = .long (ρ.2.2.2.1 1761 j) := by unfold bden; rfl
  rw [b1, b2, sv_long ht] at e
  by_cases q : p.toNatClampNeg = j
  · have q' : (sd X ρ (.int p)).1.toNatClampNeg = j := q
    rw [if_pos q'] at e
    rw [if_pos q]
    exact Value.long.inj e
  · have q' : ¬ (sd X ρ (.int p)).1.toNatClampNeg = j := q
    rw [if_neg q'] at e
    rw [if_neg q]
    exact Value.long.inj e
/-! ===== a number for slot 115 ===== -/
noncomputable def c_wi115 : sC := ((5, 277, 8), ([tr 57, .int 115, .arg 60033], [tr 219, .arg 1308, .int 115]), ([57, 42, 43], [219, 223, 222, 227, 225, 226, 334, 260, 229, 220, 221, 228, 297, 302, 288]), [((0, .arg 19328, .int 2), true), ((6, .op2 .lor (.op2 .lor (.op2 .lshl (.op1 .i2l (.elem (.arg 2212) (.int 0))) (.int 0)) (.long 0)) (.op2 .lshl (.op1 .i2l (.elem (.arg 2212) (.int 1))) (.int 8)), .arg 60033), true), ((8, .arg 60033, .long 0), false), ((8, .long 65535, .arg 60033), false), ((101, .elem (.arg 1761) (.int 0), .int 0), true), ((0, .arg 2848, .arg 60192), true)], ([60000, 60033, 2848, 7105], [1761]), (some (.arg 60000), some (.arg 60000)), [((101, .elem (.arg 1761) (.int 0), .int 0), true), ((0, .arg 2848, .arg 60192), true)], ([], []))
theorem c_wi115_f : cfine zWP 65536 c_wi115 = true := by decide +kernel
noncomputable def q_wR115 : sCut := ((fr 0 5 23 [(4, .int 0)] [], [fBot], 7), (fr 0 277 91 [(3, .int 0)] [], [fBot], 7), [((0, .arg 2848, .arg 60192), true)], [])
noncomputable def q_wE115 : sCut := ((fr 0 5 23 [(4, .int 0)] [], [fBot], 7), (fr 0 277 91 [(3, .int 0)] [], [fBot], 7), [((101, .elem (.arg 1761) (.int 0), .int 0), true), ((0, .arg 2848, .arg 60192), true)], [])
theorem k_wE115 : cbody kR [] (cpl1 zWP c_wi115 []) (cpl2 zWP c_wi115 []) (cleaf kR zWP c_wi115 []) 30 true true q_wE115.2.2.1 q_wE115.2.2.2 (cst zWP c_wi115.2.2.1.1 q_wE115.1) (cst zWP c_wi115.2.2.1.2 q_wE115.2.1) = true := by decide +kernel
theorem t_wE115 {X : pX} {ρ0 : sR} (hv : vok X ρ0) : CUTOK X kR zWP c_wi115 7 ρ0 q_wE115 := CUT_run kR_x kR_0 (Cs := []) (fun C hC => by cases hC) c_wi115_f (Q := []) hv (fun q hq => by cases hq) 30 (b1 := true) (b2 := true) k_wE115
theorem et_w115 : evt[115]? = some (0, 65535, 0) := by decide +kernel
noncomputable def q_wv115 : sCut := ((fr 0 5 0 [(0, tr 57), (1, .int 115), (2, .arg 60033)] [], [fBot], 7), (fr 0 277 60 [(0, tr 219), (1, .arg 1308), (2, .int 115), (4, .arg 60033)] [], [fBot], 7), [((8, .arg 60033, .long 0), false), ((8, .long 65535, .arg 60033), false), ((101, .elem (.arg 1761) (.int 0), .int 0), true), ((0, .arg 2848, .arg 60192), true)], [])
noncomputable def q_wv115m : sCut := ((fr 0 5 0 [(0, tr 57), (1, .int 115), (2, .arg 60033)] [], [fBot], 7), (fr 0 277 60 [(0, tr 219), (1, .arg 1308), (2, .int 115), (4, .arg 60033)] [], [fBot], 7), [((0, .op2 .ior (.arg 2848) (.int 0), .arg 60192), true), ((8, .arg 60033, .long 0), false), ((8, .long 65535, .arg 60033), false), ((101, .elem (.arg 1761) (.int 0), .int 0), true), ((0, .arg 2848, .arg 60192), true)], [])
noncomputable def w_wv115m : List (sCut × List (Nat × sT) × List (Nat × sT × List (sT × sT))) := [(q_wR115, [], [(1761, .arg 1761, [(.int 115, .arg 60033)])])]
theorem k_wv115m : cbody kR [] (cpl1 zWP c_wi115 [q_wR115]) (cpl2 zWP c_wi115 [q_wR115]) (cleafB kR zWP c_wi115 w_wv115m) 1000 true true q_wv115m.2.2.1 q_wv115m.2.2.2 (cst zWP c_wi115.2.2.1.1 q_wv115m.1) (cst zWP c_wi115.2.2.1.2 q_wv115m.2.1) = true := by decide +kernel
theorem t_wv115m {X : pX} {ρ0 : sR} (hv : vok X ρ0) : CUTOK X kR zWP c_wi115 7 ρ0 q_wv115m := CUTOK_AT (fun ρ k1 hF hI k4 => AT_of (q := q_wv115m) rfl rfl (SEM_runB kR_x kR_0 (Cs := []) (fun C hC => by cases hC) c_wi115_f (Q := w_wv115m) hv 1000 (b1 := true) (b2 := true) k_wv115m k1 hF hI k4 (fun p hp ρ3 m1 m2 m3 m4 m5 m6 => by
  rw [List.mem_singleton.mp hp] at m2 m3 m5 m6 ⊢
  have b0 := rl_lf (x := ρ.2.1 60033) (y := 0) (hF.2 _ (List.mem_cons_of_mem _ (List.mem_cons_self)))
  have b1 := rl_lf (x := 65535) (y := ρ.2.1 60033) (hF.2 _ (List.mem_cons_of_mem _ (List.mem_cons_of_mem _ (List.mem_cons_self))))
  have y0 : (0 : Int64).toInt = 0 := by decide +kernel
  have y1 : (65535 : Int64).toInt = 65535 := by decide +kernel
  rw [y0] at b0
  rw [y1] at b1
  have hk : evk 115 (ρ.2.1 60033).toInt = true := by
    unfold evk
    rw [et_w115]
    simp only [Bool.and_eq_true, decide_eq_true_eq]
    exact ⟨b0, b1, rfl⟩
  exact t_wE115 hv ρ3 m1 ⟨m2.1, fcn (ev_up (g := ρ.2.2.2.1 1761) (hF.2 _ (List.mem_cons_of_mem _ (List.mem_cons_of_mem _ (List.mem_cons_of_mem _ (List.mem_cons_self))))) (p := 115) (by decide) hk (fun j => ad_l (X := X) (p := 115) (t := .arg 60033) rfl (m6 _ List.mem_cons_self) j)) m2.2⟩ m3 m4)))
theorem t_wv115 {X : pX} {ρ0 : sR} (hv : vok X ρ0) : CUTOK X kR zWP c_wi115 7 ρ0 q_wv115 := CUT_mono (t_wv115m hv) (fun ρ hF hI => ⟨⟨hF.1, by
    exact fcn (decide_eq_true (show ρ.1 2848 ||| 0 = ρ.1 60192 by rw [Int32.or_zero]; exact of_decide_eq_true (hF.2 _ (List.mem_cons_of_mem _ (List.mem_cons_of_mem _ (List.mem_cons_of_mem _ (List.mem_cons_self))))))) hF.2⟩, hI⟩)
theorem e_wi115 : frun kR [] (cpl1 zWP c_wi115 [q_wv115]) (cpl2 zWP c_wi115 [q_wv115]) (cleaf kR zWP c_wi115 [q_wv115]) 300 65536 (isatP (c_wi115.2.2.2.1) c_wi115.2.2.2.2.2.2.2.1) c_wi115.2.2.2.2.2.2.2.1 (sin0 mt_all c_wi115.1.1 7 c_wi115.2.1.1 (foot zWP c_wi115.2.2.1.1)) (sin0 mt_all c_wi115.1.2.1 7 c_wi115.2.1.2 (foot zWP c_wi115.2.2.1.2)) = true := by decide +kernel
theorem s_wi115 {X : pX} : SREL X pF pdfl mt_all kR zWP c_wi115 := SREL_QC kR_x kR_0 (Cs := []) (fun C hC => by cases hC) (d := 7) rfl c_wi115_f (Q := [q_wv115]) (fun ρ0 hv => fun q hq => by
    simp only [List.mem_cons, List.not_mem_nil, or_false] at hq
    rw [hq]; exact t_wv115 hv) (QC_run 300 e_wi115)
/-! ===== a number for slot 122 ===== -/
noncomputable def c_wi122 : sC := ((5, 277, 8), ([tr 57, .int 122, .arg 60033], [tr 219, .arg 1308, .int 122]), ([57, 42, 43], [219, 223, 222, 227, 225, 226, 334, 260, 229, 220, 221, 228, 297, 302, 288]), [((0, .arg 19328, .int 1), true), ((6, .op2 .lshr (.op2 .lshl (.op2 .lor (.op2 .lshl (.op1 .i2l (.elem (.arg 2212) (.int 0))) (.int 0)) (.long 0)) (.int 56)) (.int 56), .arg 60033), true), ((8, .arg 60033, .long (-128)), false), ((8, .long 127, .arg 60033), false), ((101, .elem (.arg 1761) (.int 0), .int 0), true), ((0, .arg 2848, .arg 60192), true)], ([60000, 60033, 2848, 7105], [1761]), (some (.arg 60000), some (.arg 60000)), [((101, .elem (.arg 1761) (.int 0), .int 0), true), ((0, .arg 2848, .arg 60192), true)], ([], []))
theorem c_wi122_f : cfine zWP 65536 c_wi122 = true := by decide +kernel
noncomputable def q_wR122 : sCut := ((fr 0 5 23 [(4, .int 0)] [], [fBot], 7), (fr 0 277 91 [(3, .int 0)] [], [fBot], 7), [((0, .arg 2848, .arg 60192), true)], [])
noncomputable def q_wE122 : sCut := ((fr 0 5 23 [(4, .int 0)] [], [fBot], 7), (fr 0 277 91 [(3, .int 0)] [], [fBot], 7), [((101, .elem (.arg 1761) (.int 0), .int 0), true), ((0, .arg 2848, .arg 60192), true)], [])
theorem k_wE122 : cbody kR [] (cpl1 zWP c_wi122 []) (cpl2 zWP c_wi122 []) (cleaf kR zWP c_wi122 []) 30 true true q_wE122.2.2.1 q_wE122.2.2.2 (cst zWP c_wi122.2.2.1.1 q_wE122.1) (cst zWP c_wi122.2.2.1.2 q_wE122.2.1) = true := by decide +kernel
theorem t_wE122 {X : pX} {ρ0 : sR} (hv : vok X ρ0) : CUTOK X kR zWP c_wi122 7 ρ0 q_wE122 := CUT_run kR_x kR_0 (Cs := []) (fun C hC => by cases hC) c_wi122_f (Q := []) hv (fun q hq => by cases hq) 30 (b1 := true) (b2 := true) k_wE122
theorem et_w122 : evt[122]? = some (-128, 127, 5) := by decide +kernel
noncomputable def q_wv122 : sCut := ((fr 0 5 0 [(0, tr 57), (1, .int 122), (2, .arg 60033)] [], [fBot], 7), (fr 0 277 60 [(0, tr 219), (1, .arg 1308), (2, .int 122), (4, .arg 60033)] [], [fBot], 7), [((8, .arg 60033, .long (-128)), false), ((8, .long 127, .arg 60033), false), ((101, .elem (.arg 1761) (.int 0), .int 0), true), ((0, .arg 2848, .arg 60192), true)], [])
noncomputable def q_wv122m : sCut := ((fr 0 5 0 [(0, tr 57), (1, .int 122), (2, .arg 60033)] [], [fBot], 7), (fr 0 277 60 [(0, tr 219), (1, .arg 1308), (2, .int 122), (4, .arg 60033)] [], [fBot], 7), [((0, .op2 .ior (.arg 2848) (.int 0), .arg 60192), true), ((8, .arg 60033, .long (-128)), false), ((8, .long 127, .arg 60033), false), ((101, .elem (.arg 1761) (.int 0), .int 0), true), ((0, .arg 2848, .arg 60192), true)], [])
noncomputable def q_wv122mm0 : sCut := ((fr 0 5 0 [(0, tr 57), (1, .int 122), (2, .arg 60033)] [], [fBot], 7), (fr 0 277 60 [(0, tr 219), (1, .arg 1308), (2, .int 122), (4, .arg 60033)] [], [fBot], 7), [((6, .arg 60033, .long (-1)), true), ((6, .long (-1), .arg 60033), true), ((6, .arg 60033, .long 0), false), ((6, .long 0, .arg 60033), false), ((6, .arg 60033, .long 1), false), ((6, .long 1, .arg 60033), false), ((6, .arg 60033, .long 3), false), ((6, .long 3, .arg 60033), false), ((6, .arg 60033, .long 6), false), ((6, .long 6, .arg 60033), false), ((6, .arg 60033, .long 8), false), ((6, .long 8, .arg 60033), false), ((0, .op2 .ior (.arg 2848) (.int 0), .arg 60192), true), ((8, .arg 60033, .long (-128)), false), ((8, .long 127, .arg 60033), false), ((101, .elem (.arg 1761) (.int 0), .int 0), true), ((0, .arg 2848, .arg 60192), true)], [])
noncomputable def w_wv122mm0 : List (sCut × List (Nat × sT) × List (Nat × sT × List (sT × sT))) := [(q_wR122, [], [(1761, .arg 1761, [(.int 122, .arg 60033)])])]
theorem k_wv122mm0 : cbody kR [] (cpl1 zWP c_wi122 [q_wR122]) (cpl2 zWP c_wi122 [q_wR122]) (cleafB kR zWP c_wi122 w_wv122mm0) 1000 true true q_wv122mm0.2.2.1 q_wv122mm0.2.2.2 (cst zWP c_wi122.2.2.1.1 q_wv122mm0.1) (cst zWP c_wi122.2.2.1.2 q_wv122mm0.2.1) = true := by decide +kernel
theorem t_wv122mm0 {X : pX} {ρ0 : sR} (hv : vok X ρ0) : CUTOK X kR zWP c_wi122 7 ρ0 q_wv122mm0 := CUTOK_AT (fun ρ k1 hF hI k4 => AT_of (q := q_wv122mm0) rfl rfl (SEM_runB kR_x kR_0 (Cs := []) (fun C hC => by cases hC) c_wi122_f (Q := w_wv122mm0) hv 1000 (b1 := true) (b2 := true) k_wv122mm0 k1 hF hI k4 (fun p hp ρ3 m1 m2 m3 m4 m5 m6 => by
  rw [List.mem_singleton.mp hp] at m2 m3 m5 m6 ⊢
  have b0 := rl_lf (x := ρ.2.1 60033) (y := -128) (hF.2 _ (List.mem_cons_of_mem _ (List.mem_cons_of_mem _ (List.mem_cons_of_mem _ (List.mem_cons_of_mem _ (List.mem_cons_of_mem _ (List.mem_cons_of_mem _ (List.mem_cons_of_mem _ (List.mem_cons_of_mem _ (List.mem_cons_of_mem _ (List.mem_cons_of_mem _ (List.mem_cons_of_mem _ (List.mem_cons_of_mem _ (List.mem_cons_of_mem _ (List.mem_cons_self)))))))))))))))
  have b1 := rl_lf (x := 127) (y := ρ.2.1 60033) (hF.2 _ (List.mem_cons_of_mem _ (List.mem_cons_of_mem _ (List.mem_cons_of_mem _ (List.mem_cons_of_mem _ (List.mem_cons_of_mem _ (List.mem_cons_of_mem _ (List.mem_cons_of_mem _ (List.mem_cons_of_mem _ (List.mem_cons_of_mem _ (List.mem_cons_of_mem _ (List.mem_cons_of_mem _ (List.mem_cons_of_mem _ (List.mem_cons_of_mem _ (List.mem_cons_of_mem _ (List.mem_cons_self))))))))))))))))
  have y0 : (-128 : Int64).toInt = -128 := by decide +kernel
  have y1 : (127 : Int64).toInt = 127 := by decide +kernel
  rw [y0] at b0
  rw [y1] at b1
  have hk : evk 122 (ρ.2.1 60033).toInt = true := by
    unfold evk
    rw [et_w122]
    simp only [Bool.and_eq_true, decide_eq_true_eq]
    refine ⟨b0, b1, ?_⟩
    rw [show ρ.2.1 60033 = -1 from of_decide_eq_true (hF.2 _ (List.mem_cons_self))]
    decide +kernel
  exact t_wE122 hv ρ3 m1 ⟨m2.1, fcn (ev_up (g := ρ.2.2.2.1 1761) (hF.2 _ (List.mem_cons_of_mem _ (List.mem_cons_of_mem _ (List.mem_cons_of_mem _ (List.mem_cons_of_mem _ (List.mem_cons_of_mem _ (List.mem_cons_of_mem _ (List.mem_cons_of_mem _ (List.mem_cons_of_mem _ (List.mem_cons_of_mem _ (List.mem_cons_of_mem _ (List.mem_cons_of_mem _ (List.mem_cons_of_mem _ (List.mem_cons_of_mem _ (List.mem_cons_of_mem _ (List.mem_cons_of_mem _ (List.mem_cons_self))))))))))))))))) (p := 122) (by decide) hk (fun j => ad_l (X := X) (p := 122) (t := .arg 60033) rfl (m6 _ List.mem_cons_self) j)) m2.2⟩ m3 m4)))
noncomputable def q_wv122mm1 : sCut := ((fr 0 5 0 [(0, tr 57), (1, .int 122), (2, .arg 60033)] [], [fBot], 7), (fr 0 277 60 [(0, tr 219), (1, .arg 1308), (2, .int 122), (4, .arg 60033)] [], [fBot], 7), [((6, .arg 60033, .long (-1)), false), ((6, .long (-1), .arg 60033), false), ((6, .arg 60033, .long 0), true), ((6, .long 0, .arg 60033), true), ((6, .arg 60033, .long 1), false), ((6, .long 1, .arg 60033), false), ((6, .arg 60033, .long 3), false), ((6, .long 3, .arg 60033), false), ((6, .arg 60033, .long 6), false), ((6, .long 6, .arg 60033), false), ((6, .arg 60033, .long 8), false), ((6, .long 8, .arg 60033), false), ((0, .op2 .ior (.arg 2848) (.int 0), .arg 60192), true), ((8, .arg 60033, .long (-128)), false), ((8, .long 127, .arg 60033), false), ((101, .elem (.arg 1761) (.int 0), .int 0), true), ((0, .arg 2848, .arg 60192), true)], [])
noncomputable def w_wv122mm1 : List (sCut × List (Nat × sT) × List (Nat × sT × List (sT × sT))) := [(q_wR122, [], [(1761, .arg 1761, [(.int 122, .arg 60033)])])]
theorem k_wv122mm1 : cbody kR [] (cpl1 zWP c_wi122 [q_wR122]) (cpl2 zWP c_wi122 [q_wR122]) (cleafB kR zWP c_wi122 w_wv122mm1) 1000 true true q_wv122mm1.2.2.1 q_wv122mm1.2.2.2 (cst zWP c_wi122.2.2.1.1 q_wv122mm1.1) (cst zWP c_wi122.2.2.1.2 q_wv122mm1.2.1) = true := by decide +kernel
theorem t_wv122mm1 {X : pX} {ρ0 : sR} (hv : vok X ρ0) : CUTOK X kR zWP c_wi122 7 ρ0 q_wv122mm1 := CUTOK_AT (fun ρ k1 hF hI k4 => AT_of (q := q_wv122mm1) rfl rfl (SEM_runB kR_x kR_0 (Cs := []) (fun C hC => by cases hC) c_wi122_f (Q := w_wv122mm1) hv 1000 (b1 := true) (b2 := true) k_wv122mm1 k1 hF hI k4 (fun p hp ρ3 m1 m2 m3 m4 m5 m6 => by
  rw [List.mem_singleton.mp hp] at m2 m3 m5 m6 ⊢
  have b0 := rl_lf (x := ρ.2.1 60033) (y := -128) (hF.2 _ (List.mem_cons_of_mem _ (List.mem_cons_of_mem _ (List.mem_cons_of_mem _ (List.mem_cons_of_mem _ (List.mem_cons_of_mem _ (List.mem_cons_of_mem _ (List.mem_cons_of_mem _ (List.mem_cons_of_mem _ (List.mem_cons_of_mem _ (List.mem_cons_of_mem _ (List.mem_cons_of_mem _ (List.mem_cons_of_mem _ (List.mem_cons_of_mem _ (List.mem_cons_self)))))))))))))))
  have b1 := rl_lf (x := 127) (y := ρ.2.1 60033) (hF.2 _ (List.mem_cons_of_mem _ (List.mem_cons_of_mem _ (List.mem_cons_of_mem _ (List.mem_cons_of_mem _ (List.mem_cons_of_mem _ (List.mem_cons_of_mem _ (List.mem_cons_of_mem _ (List.mem_cons_of_mem _ (List.mem_cons_of_mem _ (List.mem_cons_of_mem _ (List.mem_cons_of_mem _ (List.mem_cons_of_mem _ (List.mem_cons_of_mem _ (List.mem_cons_of_mem _ (List.mem_cons_self))))))))))))))))
  have y0 : (-128 : Int64).toInt = -128 := by decide +kernel
  have y1 : (127 : Int64).toInt = 127 := by decide +kernel
  rw [y0] at b0
  rw [y1] at b1
  have hk : evk 122 (ρ.2.1 60033).toInt = true := by
    unfold evk
    rw [et_w122]
    simp only [Bool.and_eq_true, decide_eq_true_eq]
    refine ⟨b0, b1, ?_⟩
    rw [show ρ.2.1 60033 = 0 from of_decide_eq_true (hF.2 _ (List.mem_cons_of_mem _ (List.mem_cons_of_mem _ (List.mem_cons_self))))]
    decide +kernel
  exact t_wE122 hv ρ3 m1 ⟨m2.1, fcn (ev_up (g := ρ.2.2.2.1 1761) (hF.2 _ (List.mem_cons_of_mem _ (List.mem_cons_of_mem _ (List.mem_cons_of_mem _ (List.mem_cons_of_mem _ (List.mem_cons_of_mem _ (List.mem_cons_of_mem _ (List.mem_cons_of_mem _ (List.mem_cons_of_mem _ (List.mem_cons_of_mem _ (List.mem_cons_of_mem _ (List.mem_cons_of_mem _ (List.mem_cons_of_mem _ (List.mem_cons_of_mem _ (List.mem_cons_of_mem _ (List.mem_cons_of_mem _ (List.mem_cons_self))))))))))))))))) (p := 122) (by decide) hk (fun j => ad_l (X := X) (p := 122) (t := .arg 60033) rfl (m6 _ List.mem_cons_self) j)) m2.2⟩ m3 m4)))
noncomputable def q_wv122mm2 : sCut := ((fr 0 5 0 [(0, tr 57), (1, .int 122), (2, .arg 60033)] [], [fBot], 7), (fr 0 277 60 [(0, tr 219), (1, .arg 1308), (2, .int 122), (4, .arg 60033)] [], [fBot], 7), [((6, .arg 60033, .long (-1)), false), ((6, .long (-1), .arg 60033), false), ((6, .arg 60033, .long 0), false), ((6, .long 0, .arg 60033), false), ((6, .arg 60033, .long 1), true), ((6, .long 1, .arg 60033), true), ((6, .arg 60033, .long 3), false), ((6, .long 3, .arg 60033), false), ((6, .arg 60033, .long 6), false), ((6, .long 6, .arg 60033), false), ((6, .arg 60033, .long 8), false), ((6, .long 8, .arg 60033), false), ((0, .op2 .ior (.arg 2848) (.int 0), .arg 60192), true), ((8, .arg 60033, .long (-128)), false), ((8, .long 127, .arg 60033), false), ((101, .elem (.arg 1761) (.int 0), .int 0), true), ((0, .arg 2848, .arg 60192), true)], [])
noncomputable def w_wv122mm2 : List (sCut × List (Nat × sT) × List (Nat × sT × List (sT × sT))) := [(q_wR122, [], [(1761, .arg 1761, [(.int 122, .arg 60033)])])]
theorem k_wv122mm2 : cbody kR [] (cpl1 zWP c_wi122 [q_wR122]) (cpl2 zWP c_wi122 [q_wR122]) (cleafB kR zWP c_wi122 w_wv122mm2) 1000 true true q_wv122mm2.2.2.1 q_wv122mm2.2.2.2 (cst zWP c_wi122.2.2.1.1 q_wv122mm2.1) (cst zWP c_wi122.2.2.1.2 q_wv122mm2.2.1) = true := by decide +kernel
theorem t_wv122mm2 {X : pX} {ρ0 : sR} (hv : vok X ρ0) : CUTOK X kR zWP c_wi122 7 ρ0 q_wv122mm2 := CUTOK_AT (fun ρ k1 hF hI k4 => AT_of (q := q_wv122mm2) rfl rfl (SEM_runB kR_x kR_0 (Cs := []) (fun C hC => by cases hC) c_wi122_f (Q := w_wv122mm2) hv 1000 (b1 := true) (b2 := true) k_wv122mm2 k1 hF hI k4 (fun p hp ρ3 m1 m2 m3 m4 m5 m6 => by
  rw [List.mem_singleton.mp hp] at m2 m3 m5 m6 ⊢
  have b0 := rl_lf (x := ρ.2.1 60033) (y := -128) (hF.2 _ (List.mem_cons_of_mem _ (List.mem_cons_of_mem _ (List.mem_cons_of_mem _ (List.mem_cons_of_mem _ (List.mem_cons_of_mem _ (List.mem_cons_of_mem _ (List.mem_cons_of_mem _ (List.mem_cons_of_mem _ (List.mem_cons_of_mem _ (List.mem_cons_of_mem _ (List.mem_cons_of_mem _ (List.mem_cons_of_mem _ (List.mem_cons_of_mem _ (List.mem_cons_self)))))))))))))))
  have b1 := rl_lf (x := 127) (y := ρ.2.1 60033) (hF.2 _ (List.mem_cons_of_mem _ (List.mem_cons_of_mem _ (List.mem_cons_of_mem _ (List.mem_cons_of_mem _ (List.mem_cons_of_mem _ (List.mem_cons_of_mem _ (List.mem_cons_of_mem _ (List.mem_cons_of_mem _ (List.mem_cons_of_mem _ (List.mem_cons_of_mem _ (List.mem_cons_of_mem _ (List.mem_cons_of_mem _ (List.mem_cons_of_mem _ (List.mem_cons_of_mem _ (List.mem_cons_self))))))))))))))))
  have y0 : (-128 : Int64).toInt = -128 := by decide +kernel
  have y1 : (127 : Int64).toInt = 127 := by decide +kernel
  rw [y0] at b0
  rw [y1] at b1
  have hk : evk 122 (ρ.2.1 60033).toInt = true := by
    unfold evk
    rw [et_w122]
    simp only [Bool.and_eq_true, decide_eq_true_eq]
    refine ⟨b0, b1, ?_⟩
    rw [show ρ.2.1 60033 = 1 from of_decide_eq_true (hF.2 _ (List.mem_cons_of_mem _ (List.mem_cons_of_mem _ (List.mem_cons_of_mem _ (List.mem_cons_of_mem _ (List.mem_cons_self))))))]
    decide +kernel
  exact t_wE122 hv ρ3 m1 ⟨m2.1, fcn (ev_up (g := ρ.2.2.2.1 1761) (hF.2 _ (List.mem_cons_of_mem _ (List.mem_cons_of_mem _ (List.mem_cons_of_mem _ (List.mem_cons_of_mem _ (List.mem_cons_of_mem _ (List.mem_cons_of_mem _ (List.mem_cons_of_mem _ (List.mem_cons_of_mem _ (List.mem_cons_of_mem _ (List.mem_cons_of_mem _ (List.mem_cons_of_mem _ (List.mem_cons_of_mem _ (List.mem_cons_of_mem _ (List.mem_cons_of_mem _ (List.mem_cons_of_mem _ (List.mem_cons_self))))))))))))))))) (p := 122) (by decide) hk (fun j => ad_l (X := X) (p := 122) (t := .arg 60033) rfl (m6 _ List.mem_cons_self) j)) m2.2⟩ m3 m4)))
noncomputable def q_wv122mm3 : sCut := ((fr 0 5 0 [(0, tr 57), (1, .int 122), (2, .arg 60033)] [], [fBot], 7), (fr 0 277 60 [(0, tr 219), (1, .arg 1308), (2, .int 122), (4, .arg 60033)] [], [fBot], 7), [((6, .arg 60033, .long (-1)), false), ((6, .long (-1), .arg 60033), false), ((6, .arg 60033, .long 0), false), ((6, .long 0, .arg 60033), false), ((6, .arg 60033, .long 1), false), ((6, .long 1, .arg 60033), false), ((6, .arg 60033, .long 3), true), ((6, .long 3, .arg 60033), true), ((6, .arg 60033, .long 6), false), ((6, .long 6, .arg 60033), false), ((6, .arg 60033, .long 8), false), ((6, .long 8, .arg 60033), false), ((0, .op2 .ior (.arg 2848) (.int 0), .arg 60192), true), ((8, .arg 60033, .long (-128)), false), ((8, .long 127, .arg 60033), false), ((101, .elem (.arg 1761) (.int 0), .int 0), true), ((0, .arg 2848, .arg 60192), true)], [])
noncomputable def w_wv122mm3 : List (sCut × List (Nat × sT) × List (Nat × sT × List (sT × sT))) := [(q_wR122, [], [(1761, .arg 1761, [(.int 122, .arg 60033)])])]
theorem k_wv122mm3 : cbody kR [] (cpl1 zWP c_wi122 [q_wR122]) (cpl2 zWP c_wi122 [q_wR122]) (cleafB kR zWP c_wi122 w_wv122mm3) 1000 true true q_wv122mm3.2.2.1 q_wv122mm3.2.2.2 (cst zWP c_wi122.2.2.1.1 q_wv122mm3.1) (cst zWP c_wi122.2.2.1.2 q_wv122mm3.2.1) = true := by decide +kernel
theorem t_wv122mm3 {X : pX} {ρ0 : sR} (hv : vok X ρ0) : CUTOK X kR zWP c_wi122 7 ρ0 q_wv122mm3 := CUTOK_AT (fun ρ k1 hF hI k4 => AT_of (q := q_wv122mm3) rfl rfl (SEM_runB kR_x kR_0 (Cs := []) (fun C hC => by cases hC) c_wi122_f (Q := w_wv122mm3) hv 1000 (b1 := true) (b2 := true) k_wv122mm3 k1 hF hI k4 (fun p hp ρ3 m1 m2 m3 m4 m5 m6 => by
  rw [List.mem_singleton.mp hp] at m2 m3 m5 m6 ⊢
  have b0 := rl_lf (x := ρ.2.1 60033) (y := -128) (hF.2 _ (List.mem_cons_of_mem _ (List.mem_cons_of_mem _ (List.mem_cons_of_mem _ (List.mem_cons_of_mem _ (List.mem_cons_of_mem _ (List.mem_cons_of_mem _ (List.mem_cons_of_mem _ (List.mem_cons_of_mem _ (List.mem_cons_of_mem _ (List.mem_cons_of_mem _ (List.mem_cons_of_mem _ (List.mem_cons_of_mem _ (List.mem_cons_of_mem _ (List.mem_cons_self)))))))))))))))
  have b1 := rl_lf (x := 127) (y := ρ.2.1 60033) (hF.2 _ (List.mem_cons_of_mem _ (List.mem_cons_of_mem _ (List.mem_cons_of_mem _ (List.mem_cons_of_mem _ (List.mem_cons_of_mem _ (List.mem_cons_of_mem _ (List.mem_cons_of_mem _ (List.mem_cons_of_mem _ (List.mem_cons_of_mem _ (List.mem_cons_of_mem _ (List.mem_cons_of_mem _ (List.mem_cons_of_mem _ (List.mem_cons_of_mem _ (List.mem_cons_of_mem _ (List.mem_cons_self))))))))))))))))
  have y0 : (-128 : Int64).toInt = -128 := by decide +kernel
  have y1 : (127 : Int64).toInt = 127 := by decide +kernel
  rw [y0] at b0
  rw [y1] at b1
  have hk : evk 122 (ρ.2.1 60033).toInt = true := by
    unfold evk
    rw [et_w122]
    simp only [Bool.and_eq_true, decide_eq_true_eq]
    refine ⟨b0, b1, ?_⟩
    rw [show ρ.2.1 60033 = 3 from of_decide_eq_true (hF.2 _ (List.mem_cons_of_mem _ (List.mem_cons_of_mem _ (List.mem_cons_of_mem _ (List.mem_cons_of_mem _ (List.mem_cons_of_mem _ (List.mem_cons_of_mem _ (List.mem_cons_self))))))))]
    decide +kernel
  exact t_wE122 hv ρ3 m1 ⟨m2.1, fcn (ev_up (g := ρ.2.2.2.1 1761) (hF.2 _ (List.mem_cons_of_mem _ (List.mem_cons_of_mem _ (List.mem_cons_of_mem _ (List.mem_cons_of_mem _ (List.mem_cons_of_mem _ (List.mem_cons_of_mem _ (List.mem_cons_of_mem _ (List.mem_cons_of_mem _ (List.mem_cons_of_mem _ (List.mem_cons_of_mem _ (List.mem_cons_of_mem _ (List.mem_cons_of_mem _ (List.mem_cons_of_mem _ (List.mem_cons_of_mem _ (List.mem_cons_of_mem _ (List.mem_cons_self))))))))))))))))) (p := 122) (by decide) hk (fun j => ad_l (X := X) (p := 122) (t := .arg 60033) rfl (m6 _ List.mem_cons_self) j)) m2.2⟩ m3 m4)))
noncomputable def q_wv122mm4 : sCut := ((fr 0 5 0 [(0, tr 57), (1, .int 122), (2, .arg 60033)] [], [fBot], 7), (fr 0 277 60 [(0, tr 219), (1, .arg 1308), (2, .int 122), (4, .arg 60033)] [], [fBot], 7), [((6, .arg 60033, .long (-1)), false), ((6, .long (-1), .arg 60033), false), ((6, .arg 60033, .long 0), false), ((6, .long 0, .arg 60033), false), ((6, .arg 60033, .long 1), false), ((6, .long 1, .arg 60033), false), ((6, .arg 60033, .long 3), false), ((6, .long 3, .arg 60033), false), ((6, .arg 60033, .long 6), true), ((6, .long 6, .arg 60033), true), ((6, .arg 60033, .long 8), false), ((6, .long 8, .arg 60033), false), ((0, .op2 .ior (.arg 2848) (.int 0), .arg 60192), true), ((8, .arg 60033, .long (-128)), false), ((8, .long 127, .arg 60033), false), ((101, .elem (.arg 1761) (.int 0), .int 0), true), ((0, .arg 2848, .arg 60192), true)], [])
noncomputable def w_wv122mm4 : List (sCut × List (Nat × sT) × List (Nat × sT × List (sT × sT))) := [(q_wR122, [], [(1761, .arg 1761, [(.int 122, .arg 60033)])])]
theorem k_wv122mm4 : cbody kR [] (cpl1 zWP c_wi122 [q_wR122]) (cpl2 zWP c_wi122 [q_wR122]) (cleafB kR zWP c_wi122 w_wv122mm4) 1000 true true q_wv122mm4.2.2.1 q_wv122mm4.2.2.2 (cst zWP c_wi122.2.2.1.1 q_wv122mm4.1) (cst zWP c_wi122.2.2.1.2 q_wv122mm4.2.1) = true := by decide +kernel
theorem t_wv122mm4 {X : pX} {ρ0 : sR} (hv : vok X ρ0) : CUTOK X kR zWP c_wi122 7 ρ0 q_wv122mm4 := CUTOK_AT (fun ρ k1 hF hI k4 => AT_of (q := q_wv122mm4) rfl rfl (SEM_runB kR_x kR_0 (Cs := []) (fun C hC => by cases hC) c_wi122_f (Q := w_wv122mm4) hv 1000 (b1 := true) (b2 := true) k_wv122mm4 k1 hF hI k4 (fun p hp ρ3 m1 m2 m3 m4 m5 m6 => by
  rw [List.mem_singleton.mp hp] at m2 m3 m5 m6 ⊢
  have b0 := rl_lf (x := ρ.2.1 60033) (y := -128) (hF.2 _ (List.mem_cons_of_mem _ (List.mem_cons_of_mem _ (List.mem_cons_of_mem _ (List.mem_cons_of_mem _ (List.mem_cons_of_mem _ (List.mem_cons_of_mem _ (List.mem_cons_of_mem _ (List.mem_cons_of_mem _ (List.mem_cons_of_mem _ (List.mem_cons_of_mem _ (List.mem_cons_of_mem _ (List.mem_cons_of_mem _ (List.mem_cons_of_mem _ (List.mem_cons_self)))))))))))))))
  have b1 := rl_lf (x := 127) (y := ρ.2.1 60033) (hF.2 _ (List.mem_cons_of_mem _ (List.mem_cons_of_mem _ (List.mem_cons_of_mem _ (List.mem_cons_of_mem _ (List.mem_cons_of_mem _ (List.mem_cons_of_mem _ (List.mem_cons_of_mem _ (List.mem_cons_of_mem _ (List.mem_cons_of_mem _ (List.mem_cons_of_mem _ (List.mem_cons_of_mem _ (List.mem_cons_of_mem _ (List.mem_cons_of_mem _ (List.mem_cons_of_mem _ (List.mem_cons_self))))))))))))))))
  have y0 : (-128 : Int64).toInt = -128 := by decide +kernel
  have y1 : (127 : Int64).toInt = 127 := by decide +kernel
  rw [y0] at b0
  rw [y1] at b1
  have hk : evk 122 (ρ.2.1 60033).toInt = true := by
    unfold evk
    rw [et_w122]
    simp only [Bool.and_eq_true, decide_eq_true_eq]
    refine ⟨b0, b1, ?_⟩
    rw [show ρ.2.1 60033 = 6 from of_decide_eq_true (hF.2 _ (List.mem_cons_of_mem _ (List.mem_cons_of_mem _ (List.mem_cons_of_mem _ (List.mem_cons_of_mem _ (List.mem_cons_of_mem _ (List.mem_cons_of_mem _ (List.mem_cons_of_mem _ (List.mem_cons_of_mem _ (List.mem_cons_self))))))))))]
    decide +kernel
  exact t_wE122 hv ρ3 m1 ⟨m2.1, fcn (ev_up (g := ρ.2.2.2.1 1761) (hF.2 _ (List.mem_cons_of_mem _ (List.mem_cons_of_mem _ (List.mem_cons_of_mem _ (List.mem_cons_of_mem _ (List.mem_cons_of_mem _ (List.mem_cons_of_mem _ (List.mem_cons_of_mem _ (List.mem_cons_of_mem _ (List.mem_cons_of_mem _ (List.mem_cons_of_mem _ (List.mem_cons_of_mem _ (List.mem_cons_of_mem _ (List.mem_cons_of_mem _ (List.mem_cons_of_mem _ (List.mem_cons_of_mem _ (List.mem_cons_self))))))))))))))))) (p := 122) (by decide) hk (fun j => ad_l (X := X) (p := 122) (t := .arg 60033) rfl (m6 _ List.mem_cons_self) j)) m2.2⟩ m3 m4)))
noncomputable def q_wv122mm5 : sCut := ((fr 0 5 0 [(0, tr 57), (1, .int 122), (2, .arg 60033)] [], [fBot], 7), (fr 0 277 60 [(0, tr 219), (1, .arg 1308), (2, .int 122), (4, .arg 60033)] [], [fBot], 7), [((6, .arg 60033, .long (-1)), false), ((6, .long (-1), .arg 60033), false), ((6, .arg 60033, .long 0), false), ((6, .long 0, .arg 60033), false), ((6, .arg 60033, .long 1), false), ((6, .long 1, .arg 60033), false), ((6, .arg 60033, .long 3), false), ((6, .long 3, .arg 60033), false), ((6, .arg 60033, .long 6), false), ((6, .long 6, .arg 60033), false), ((6, .arg 60033, .long 8), true), ((6, .long 8, .arg 60033), true), ((0, .op2 .ior (.arg 2848) (.int 0), .arg 60192), true), ((8, .arg 60033, .long (-128)), false), ((8, .long 127, .arg 60033), false), ((101, .elem (.arg 1761) (.int 0), .int 0), true), ((0, .arg 2848, .arg 60192), true)], [])
noncomputable def w_wv122mm5 : List (sCut × List (Nat × sT) × List (Nat × sT × List (sT × sT))) := [(q_wR122, [], [(1761, .arg 1761, [(.int 122, .arg 60033)])])]
theorem k_wv122mm5 : cbody kR [] (cpl1 zWP c_wi122 [q_wR122]) (cpl2 zWP c_wi122 [q_wR122]) (cleafB kR zWP c_wi122 w_wv122mm5) 1000 true true q_wv122mm5.2.2.1 q_wv122mm5.2.2.2 (cst zWP c_wi122.2.2.1.1 q_wv122mm5.1) (cst zWP c_wi122.2.2.1.2 q_wv122mm5.2.1) = true := by decide +kernel
theorem t_wv122mm5 {X : pX} {ρ0 : sR} (hv : vok X ρ0) : CUTOK X kR zWP c_wi122 7 ρ0 q_wv122mm5 := CUTOK_AT (fun ρ k1 hF hI k4 => AT_of (q := q_wv122mm5) rfl rfl (SEM_runB kR_x kR_0 (Cs := []) (fun C hC => by cases hC) c_wi122_f (Q := w_wv122mm5) hv 1000 (b1 := true) (b2 := true) k_wv122mm5 k1 hF hI k4 (fun p hp ρ3 m1 m2 m3 m4 m5 m6 => by
  rw [List.mem_singleton.mp hp] at m2 m3 m5 m6 ⊢
  have b0 := rl_lf (x := ρ.2.1 60033) (y := -128) (hF.2 _ (List.mem_cons_of_mem _ (List.mem_cons_of_mem _ (List.mem_cons_of_mem _ (List.mem_cons_of_mem _ (List.mem_cons_of_mem _ (List.mem_cons_of_mem _ (List.mem_cons_of_mem _ (List.mem_cons_of_mem _ (List.mem_cons_of_mem _ (List.mem_cons_of_mem _ (List.mem_cons_of_mem _ (List.mem_cons_of_mem _ (List.mem_cons_of_mem _ (List.mem_cons_self)))))))))))))))
  have b1 := rl_lf (x := 127) (y := ρ.2.1 60033) (hF.2 _ (List.mem_cons_of_mem _ (List.mem_cons_of_mem _ (List.mem_cons_of_mem _ (List.mem_cons_of_mem _ (List.mem_cons_of_mem _ (List.mem_cons_of_mem _ (List.mem_cons_of_mem _ (List.mem_cons_of_mem _ (List.mem_cons_of_mem _ (List.mem_cons_of_mem _ (List.mem_cons_of_mem _ (List.mem_cons_of_mem _ (List.mem_cons_of_mem _ (List.mem_cons_of_mem _ (List.mem_cons_self))))))))))))))))
  have y0 : (-128 : Int64).toInt = -128 := by decide +kernel
  have y1 : (127 : Int64).toInt = 127 := by decide +kernel
  rw [y0] at b0
  rw [y1] at b1
  have hk : evk 122 (ρ.2.1 60033).toInt = true := by
    unfold evk
    rw [et_w122]
    simp only [Bool.and_eq_true, decide_eq_true_eq]
    refine ⟨b0, b1, ?_⟩
    rw [show ρ.2.1 60033 = 8 from of_decide_eq_true (hF.2 _ (List.mem_cons_of_mem _ (List.mem_cons_of_mem _ (List.mem_cons_of_mem _ (List.mem_cons_of_mem _ (List.mem_cons_of_mem _ (List.mem_cons_of_mem _ (List.mem_cons_of_mem _ (List.mem_cons_of_mem _ (List.mem_cons_of_mem _ (List.mem_cons_of_mem _ (List.mem_cons_self))))))))))))]
    decide +kernel
  exact t_wE122 hv ρ3 m1 ⟨m2.1, fcn (ev_up (g := ρ.2.2.2.1 1761) (hF.2 _ (List.mem_cons_of_mem _ (List.mem_cons_of_mem _ (List.mem_cons_of_mem _ (List.mem_cons_of_mem _ (List.mem_cons_of_mem _ (List.mem_cons_of_mem _ (List.mem_cons_of_mem _ (List.mem_cons_of_mem _ (List.mem_cons_of_mem _ (List.mem_cons_of_mem _ (List.mem_cons_of_mem _ (List.mem_cons_of_mem _ (List.mem_cons_of_mem _ (List.mem_cons_of_mem _ (List.mem_cons_of_mem _ (List.mem_cons_self))))))))))))))))) (p := 122) (by decide) hk (fun j => ad_l (X := X) (p := 122) (t := .arg 60033) rfl (m6 _ List.mem_cons_self) j)) m2.2⟩ m3 m4)))
noncomputable def q_wv122mn : sCut := ((fr 0 5 0 [(0, tr 57), (1, .int 122), (2, .arg 60033)] [], [fBot], 7), (fr 0 277 60 [(0, tr 219), (1, .arg 1308), (2, .int 122), (4, .arg 60033)] [], [fBot], 7), [((6, .arg 60033, .long (-1)), false), ((6, .long (-1), .arg 60033), false), ((6, .arg 60033, .long 0), false), ((6, .long 0, .arg 60033), false), ((6, .arg 60033, .long 1), false), ((6, .long 1, .arg 60033), false), ((6, .arg 60033, .long 3), false), ((6, .long 3, .arg 60033), false), ((6, .arg 60033, .long 6), false), ((6, .long 6, .arg 60033), false), ((6, .arg 60033, .long 8), false), ((6, .long 8, .arg 60033), false), ((0, .op2 .ior (.arg 2848) (.int 0), .arg 60192), true), ((8, .arg 60033, .long (-128)), false), ((8, .long 127, .arg 60033), false), ((101, .elem (.arg 1761) (.int 0), .int 0), true), ((0, .arg 2848, .arg 60192), true)], [])
theorem k_wv122mn : cbody kR [] (cpl1 zWP c_wi122 []) (cpl2 zWP c_wi122 []) (cleaf kR zWP c_wi122 []) 1000 true true q_wv122mn.2.2.1 q_wv122mn.2.2.2 (cst zWP c_wi122.2.2.1.1 q_wv122mn.1) (cst zWP c_wi122.2.2.1.2 q_wv122mn.2.1) = true := by decide +kernel
theorem t_wv122mn {X : pX} {ρ0 : sR} (hv : vok X ρ0) : CUTOK X kR zWP c_wi122 7 ρ0 q_wv122mn := CUT_run kR_x kR_0 (Cs := []) (fun C hC => by cases hC) c_wi122_f (Q := []) hv (fun q hq => by cases hq) 1000 (b1 := true) (b2 := true) k_wv122mn
theorem t_wv122m {X : pX} {ρ0 : sR} (hv : vok X ρ0) : CUTOK X kR zWP c_wi122 7 ρ0 q_wv122m := fun ρ k1 hF hI k4 => by
  by_cases h : ρ.2.1 60033 = -1
  · exact t_wv122mm0 hv ρ k1 ⟨hF.1, fcn (decide_eq_true h) (fcn (decide_eq_true h.symm) (fcn (decide_eq_false (show ¬ ρ.2.1 60033 = 0 by rw [h]; decide)) (fcn (decide_eq_false (show ¬ (0 : Int64) = ρ.2.1 60033 by rw [h]; decide)) (fcn (decide_eq_false (show ¬ ρ.2.1 60033 = 1 by rw [h]; decide)) (fcn (decide_eq_false (show ¬ (1 : Int64) = ρ.2.1 60033 by rw [h]; decide)) (fcn (decide_eq_false (show ¬ ρ.2.1 60033 = 3 by rw [h]; decide)) (fcn (decide_eq_false (show ¬ (3 : Int64) = ρ.2.1 60033 by rw [h]; decide)) (fcn (decide_eq_false (show ¬ ρ.2.1 60033 = 6 by rw [h]; decide)) (fcn (decide_eq_false (show ¬ (6 : Int64) = ρ.2.1 60033 by rw [h]; decide)) (fcn (decide_eq_false (show ¬ ρ.2.1 60033 = 8 by rw [h]; decide)) (fcn (decide_eq_false (show ¬ (8 : Int64) = ρ.2.1 60033 by rw [h]; decide)) (hF.2))))))))))))⟩ hI k4
  have n0 := h
  clear h
  by_cases h : ρ.2.1 60033 = 0
  · exact t_wv122mm1 hv ρ k1 ⟨hF.1, fcn (decide_eq_false (show ¬ ρ.2.1 60033 = -1 by rw [h]; decide)) (fcn (decide_eq_false (show ¬ (-1 : Int64) = ρ.2.1 60033 by rw [h]; decide)) (fcn (decide_eq_true h) (fcn (decide_eq_true h.symm) (fcn (decide_eq_false (show ¬ ρ.2.1 60033 = 1 by rw [h]; decide)) (fcn (decide_eq_false (show ¬ (1 : Int64) = ρ.2.1 60033 by rw [h]; decide)) (fcn (decide_eq_false (show ¬ ρ.2.1 60033 = 3 by rw [h]; decide)) (fcn (decide_eq_false (show ¬ (3 : Int64) = ρ.2.1 60033 by rw [h]; decide)) (fcn (decide_eq_false (show ¬ ρ.2.1 60033 = 6 by rw [h]; decide)) (fcn (decide_eq_false (show ¬ (6 : Int64) = ρ.2.1 60033 by rw [h]; decide)) (fcn (decide_eq_false (show ¬ ρ.2.1 60033 = 8 by rw [h]; decide)) (fcn (decide_eq_false (show ¬ (8 : Int64) = ρ.2.1 60033 by rw [h]; decide)) (hF.2))))))))))))⟩ hI k4
  have n1 := h
  clear h
  by_cases h : ρ.2.1 60033 = 1
  · exact t_wv122mm2 hv ρ k1 ⟨hF.1, fcn (decide_eq_false (show ¬ ρ.2.1 60033 = -1 by rw [h]; decide)) (fcn (decide_eq_false (show ¬ (-1 : Int64) = ρ.2.1 60033 by rw [h]; decide)) (fcn (decide_eq_false (show ¬ ρ.2.1 60033 = 0 by rw [h]; decide)) (fcn (decide_eq_false (show ¬ (0 : Int64) = ρ.2.1 60033 by rw [h]; decide)) (fcn (decide_eq_true h) (fcn (decide_eq_true h.symm) (fcn (decide_eq_false (show ¬ ρ.2.1 60033 = 3 by rw [h]; decide)) (fcn (decide_eq_false (show ¬ (3 : Int64) = ρ.2.1 60033 by rw [h]; decide)) (fcn (decide_eq_false (show ¬ ρ.2.1 60033 = 6 by rw [h]; decide)) (fcn (decide_eq_false (show ¬ (6 : Int64) = ρ.2.1 60033 by rw [h]; decide)) (fcn (decide_eq_false (show ¬ ρ.2.1 60033 = 8 by rw [h]; decide)) (fcn (decide_eq_false (show ¬ (8 : Int64) = ρ.2.1 60033 by rw [h]; decide)) (hF.2))))))))))))⟩ hI k4
  have n2 := h
  clear h
  by_cases h : ρ.2.1 60033 = 3
  · exact t_wv122mm3 hv ρ k1 ⟨hF.1, fcn (decide_eq_false (show ¬ ρ.2.1 60033 = -1 by rw [h]; decide)) (fcn (decide_eq_false (show ¬ (-1 : Int64) = ρ.2.1 60033 by rw [h]; decide)) (fcn (decide_eq_false (show ¬ ρ.2.1 60033 = 0 by rw [h]; decide)) (fcn (decide_eq_false (show ¬ (0 : Int64) = ρ.2.1 60033 by rw [h]; decide)) (fcn (decide_eq_false (show ¬ ρ.2.1 60033 = 1 by rw [h]; decide)) (fcn (decide_eq_false (show ¬ (1 : Int64) = ρ.2.1 60033 by rw [h]; decide)) (fcn (decide_eq_true h) (fcn (decide_eq_true h.symm) (fcn (decide_eq_false (show ¬ ρ.2.1 60033 = 6 by rw [h]; decide)) (fcn (decide_eq_false (show ¬ (6 : Int64) = ρ.2.1 60033 by rw [h]; decide)) (fcn (decide_eq_false (show ¬ ρ.2.1 60033 = 8 by rw [h]; decide)) (fcn (decide_eq_false (show ¬ (8 : Int64) = ρ.2.1 60033 by rw [h]; decide)) (hF.2))))))))))))⟩ hI k4
  have n3 := h
  clear h
  by_cases h : ρ.2.1 60033 = 6
  · exact t_wv122mm4 hv ρ k1 ⟨hF.1, fcn (decide_eq_false (show ¬ ρ.2.1 60033 = -1 by rw [h]; decide)) (fcn (decide_eq_false (show ¬ (-1 : Int64) = ρ.2.1 60033 by rw [h]; decide)) (fcn (decide_eq_false (show ¬ ρ.2.1 60033 = 0 by rw [h]; decide)) (fcn (decide_eq_false (show ¬ (0 : Int64) = ρ.2.1 60033 by rw [h]; decide)) (fcn (decide_eq_false (show ¬ ρ.2.1 60033 = 1 by rw [h]; decide)) (fcn (decide_eq_false (show ¬ (1 : Int64) = ρ.2.1 60033 by rw [h]; decide)) (fcn (decide_eq_false (show ¬ ρ.2.1 60033 = 3 by rw [h]; decide)) (fcn (decide_eq_false (show ¬ (3 : Int64) = ρ.2.1 60033 by rw [h]; decide)) (fcn (decide_eq_true h) (fcn (decide_eq_true h.symm) (fcn (decide_eq_false (show ¬ ρ.2.1 60033 = 8 by rw [h]; decide)) (fcn (decide_eq_false (show ¬ (8 : Int64) = ρ.2.1 60033 by rw [h]; decide)) (hF.2))))))))))))⟩ hI k4
  have n4 := h
  clear h
  by_cases h : ρ.2.1 60033 = 8
  · exact t_wv122mm5 hv ρ k1 ⟨hF.1, fcn (decide_eq_false (show ¬ ρ.2.1 60033 = -1 by rw [h]; decide)) (fcn (decide_eq_false (show ¬ (-1 : Int64) = ρ.2.1 60033 by rw [h]; decide)) (fcn (decide_eq_false (show ¬ ρ.2.1 60033 = 0 by rw [h]; decide)) (fcn (decide_eq_false (show ¬ (0 : Int64) = ρ.2.1 60033 by rw [h]; decide)) (fcn (decide_eq_false (show ¬ ρ.2.1 60033 = 1 by rw [h]; decide)) (fcn (decide_eq_false (show ¬ (1 : Int64) = ρ.2.1 60033 by rw [h]; decide)) (fcn (decide_eq_false (show ¬ ρ.2.1 60033 = 3 by rw [h]; decide)) (fcn (decide_eq_false (show ¬ (3 : Int64) = ρ.2.1 60033 by rw [h]; decide)) (fcn (decide_eq_false (show ¬ ρ.2.1 60033 = 6 by rw [h]; decide)) (fcn (decide_eq_false (show ¬ (6 : Int64) = ρ.2.1 60033 by rw [h]; decide)) (fcn (decide_eq_true h) (fcn (decide_eq_true h.symm) (hF.2))))))))))))⟩ hI k4
  have n5 := h
  clear h
  exact t_wv122mn hv ρ k1 ⟨hF.1, fcn (decide_eq_false n0) (fcn (decide_eq_false (fun q => n0 q.symm)) (fcn (decide_eq_false n1) (fcn (decide_eq_false (fun q => n1 q.symm)) (fcn (decide_eq_false n2) (fcn (decide_eq_false (fun q => n2 q.symm)) (fcn (decide_eq_false n3) (fcn (decide_eq_false (fun q => n3 q.symm)) (fcn (decide_eq_false n4) (fcn (decide_eq_false (fun q => n4 q.symm)) (fcn (decide_eq_false n5) (fcn (decide_eq_false (fun q => n5 q.symm)) (hF.2))))))))))))⟩ hI k4
theorem t_wv122 {X : pX} {ρ0 : sR} (hv : vok X ρ0) : CUTOK X kR zWP c_wi122 7 ρ0 q_wv122 := CUT_mono (t_wv122m hv) (fun ρ hF hI => ⟨⟨hF.1, by
    exact fcn (decide_eq_true (show ρ.1 2848 ||| 0 = ρ.1 60192 by rw [Int32.or_zero]; exact of_decide_eq_true (hF.2 _ (List.mem_cons_of_mem _ (List.mem_cons_of_mem _ (List.mem_cons_of_mem _ (List.mem_cons_self))))))) hF.2⟩, hI⟩)
theorem e_wi122 : frun kR [] (cpl1 zWP c_wi122 [q_wv122]) (cpl2 zWP c_wi122 [q_wv122]) (cleaf kR zWP c_wi122 [q_wv122]) 300 65536 (isatP (c_wi122.2.2.2.1) c_wi122.2.2.2.2.2.2.2.1) c_wi122.2.2.2.2.2.2.2.1 (sin0 mt_all c_wi122.1.1 7 c_wi122.2.1.1 (foot zWP c_wi122.2.2.1.1)) (sin0 mt_all c_wi122.1.2.1 7 c_wi122.2.1.2 (foot zWP c_wi122.2.2.1.2)) = true := by decide +kernel
theorem s_wi122 {X : pX} : SREL X pF pdfl mt_all kR zWP c_wi122 := SREL_QC kR_x kR_0 (Cs := []) (fun C hC => by cases hC) (d := 7) rfl c_wi122_f (Q := [q_wv122]) (fun ρ0 hv => fun q hq => by
    simp only [List.mem_cons, List.not_mem_nil, or_false] at hq
    rw [hq]; exact t_wv122 hv) (QC_run 300 e_wi122)
/-! ===== a number for slot 132 ===== -/
noncomputable def c_wi132 : sC := ((5, 277, 8), ([tr 57, .int 132, .arg 60033], [tr 219, .arg 1308, .int 132]), ([57, 42, 43], [219, 223, 222, 227, 225, 226, 334, 260, 229, 220, 221, 228, 297, 302, 288]), [((0, .arg 19328, .int 4), true), ((6, .op2 .lshr (.op2 .lshl (.op2 .lor (.op2 .lor (.op2 .lor (.op2 .lor (.op2 .lshl (.op1 .i2l (.elem (.arg 2212) (.int 0))) (.int 0)) (.long 0)) (.op2 .lshl (.op1 .i2l (.elem (.arg 2212) (.int 1))) (.int 8))) (.op2 .lshl (.op1 .i2l (.elem (.arg 2212) (.int 2))) (.int 16))) (.op2 .lshl (.op1 .i2l (.elem (.arg 2212) (.int 3))) (.int 24))) (.int 32)) (.int 32), .arg 60033), true), ((8, .arg 60033, .long (-2147483648)), false), ((8, .long 2147483647, .arg 60033), false), ((101, .elem (.arg 1761) (.int 0), .int 0), true), ((0, .arg 2848, .arg 60192), true)], ([60000, 60033, 2848, 7105], [1761]), (some (.arg 60000), some (.arg 60000)), [((101, .elem (.arg 1761) (.int 0), .int 0), true), ((0, .arg 2848, .arg 60192), true)], ([], []))
theorem c_wi132_f : cfine zWP 65536 c_wi132 = true := by decide +kernel
noncomputable def q_wR132 : sCut := ((fr 0 5 23 [(4, .int 0)] [], [fBot], 7), (fr 0 277 91 [(3, .int 0)] [], [fBot], 7), [((0, .arg 2848, .arg 60192), true)], [])
noncomputable def q_wE132 : sCut := ((fr 0 5 23 [(4, .int 0)] [], [fBot], 7), (fr 0 277 91 [(3, .int 0)] [], [fBot], 7), [((101, .elem (.arg 1761) (.int 0), .int 0), true), ((0, .arg 2848, .arg 60192), true)], [])
theorem k_wE132 : cbody kR [] (cpl1 zWP c_wi132 []) (cpl2 zWP c_wi132 []) (cleaf kR zWP c_wi132 []) 30 true true q_wE132.2.2.1 q_wE132.2.2.2 (cst zWP c_wi132.2.2.1.1 q_wE132.1) (cst zWP c_wi132.2.2.1.2 q_wE132.2.1) = true := by decide +kernel
theorem t_wE132 {X : pX} {ρ0 : sR} (hv : vok X ρ0) : CUTOK X kR zWP c_wi132 7 ρ0 q_wE132 := CUT_run kR_x kR_0 (Cs := []) (fun C hC => by cases hC) c_wi132_f (Q := []) hv (fun q hq => by cases hq) 30 (b1 := true) (b2 := true) k_wE132
theorem et_w132 : evt[132]? = some (-1000000000, 1000000000, 0) := by decide +kernel
noncomputable def q_wv132 : sCut := ((fr 0 5 0 [(0, tr 57), (1, .int 132), (2, .arg 60033)] [], [fBot], 7), (fr 0 277 60 [(0, tr 219), (1, .arg 1308), (2, .int 132), (4, .arg 60033)] [], [fBot], 7), [((8, .arg 60033, .long (-2147483648)), false), ((8, .long 2147483647, .arg 60033), false), ((101, .elem (.arg 1761) (.int 0), .int 0), true), ((0, .arg 2848, .arg 60192), true)], [])
noncomputable def q_wv132m : sCut := ((fr 0 5 0 [(0, tr 57), (1, .int 132), (2, .arg 60033)] [], [fBot], 7), (fr 0 277 60 [(0, tr 219), (1, .arg 1308), (2, .int 132), (4, .arg 60033)] [], [fBot], 7), [((0, .op2 .ior (.arg 2848) (.int 0), .arg 60192), true), ((8, .arg 60033, .long (-2147483648)), false), ((8, .long 2147483647, .arg 60033), false), ((101, .elem (.arg 1761) (.int 0), .int 0), true), ((0, .arg 2848, .arg 60192), true)], [])
noncomputable def q_wv132my : sCut := ((fr 0 5 0 [(0, tr 57), (1, .int 132), (2, .arg 60033)] [], [fBot], 7), (fr 0 277 60 [(0, tr 219), (1, .arg 1308), (2, .int 132), (4, .arg 60033)] [], [fBot], 7), [((8, .arg 60033, .long (-1000000000)), true), ((0, .op2 .ior (.arg 2848) (.int 0), .arg 60192), true), ((8, .arg 60033, .long (-2147483648)), false), ((8, .long 2147483647, .arg 60033), false), ((101, .elem (.arg 1761) (.int 0), .int 0), true), ((0, .arg 2848, .arg 60192), true)], [])
theorem k_wv132my : cbody kR [] (cpl1 zWP c_wi132 []) (cpl2 zWP c_wi132 []) (cleaf kR zWP c_wi132 []) 1000 true true q_wv132my.2.2.1 q_wv132my.2.2.2 (cst zWP c_wi132.2.2.1.1 q_wv132my.1) (cst zWP c_wi132.2.2.1.2 q_wv132my.2.1) = true := by decide +kernel
theorem t_wv132my {X : pX} {ρ0 : sR} (hv : vok X ρ0) : CUTOK X kR zWP c_wi132 7 ρ0 q_wv132my := CUT_run kR_x kR_0 (Cs := []) (fun C hC => by cases hC) c_wi132_f (Q := []) hv (fun q hq => by cases hq) 1000 (b1 := true) (b2 := true) k_wv132my
noncomputable def q_wv132mn : sCut := ((fr 0 5 0 [(0, tr 57), (1, .int 132), (2, .arg 60033)] [], [fBot], 7), (fr 0 277 60 [(0, tr 219), (1, .arg 1308), (2, .int 132), (4, .arg 60033)] [], [fBot], 7), [((8, .arg 60033, .long (-1000000000)), false), ((0, .op2 .ior (.arg 2848) (.int 0), .arg 60192), true), ((8, .arg 60033, .long (-2147483648)), false), ((8, .long 2147483647, .arg 60033), false), ((101, .elem (.arg 1761) (.int 0), .int 0), true), ((0, .arg 2848, .arg 60192), true)], [])
noncomputable def q_wv132mny : sCut := ((fr 0 5 0 [(0, tr 57), (1, .int 132), (2, .arg 60033)] [], [fBot], 7), (fr 0 277 60 [(0, tr 219), (1, .arg 1308), (2, .int 132), (4, .arg 60033)] [], [fBot], 7), [((8, .long 1000000000, .arg 60033), true), ((8, .arg 60033, .long (-1000000000)), false), ((0, .op2 .ior (.arg 2848) (.int 0), .arg 60192), true), ((8, .arg 60033, .long (-2147483648)), false), ((8, .long 2147483647, .arg 60033), false), ((101, .elem (.arg 1761) (.int 0), .int 0), true), ((0, .arg 2848, .arg 60192), true)], [])
theorem k_wv132mny : cbody kR [] (cpl1 zWP c_wi132 []) (cpl2 zWP c_wi132 []) (cleaf kR zWP c_wi132 []) 1000 true true q_wv132mny.2.2.1 q_wv132mny.2.2.2 (cst zWP c_wi132.2.2.1.1 q_wv132mny.1) (cst zWP c_wi132.2.2.1.2 q_wv132mny.2.1) = true := by decide +kernel
theorem t_wv132mny {X : pX} {ρ0 : sR} (hv : vok X ρ0) : CUTOK X kR zWP c_wi132 7 ρ0 q_wv132mny := CUT_run kR_x kR_0 (Cs := []) (fun C hC => by cases hC) c_wi132_f (Q := []) hv (fun q hq => by cases hq) 1000 (b1 := true) (b2 := true) k_wv132mny
noncomputable def q_wv132mnn : sCut := ((fr 0 5 0 [(0, tr 57), (1, .int 132), (2, .arg 60033)] [], [fBot], 7), (fr 0 277 60 [(0, tr 219), (1, .arg 1308), (2, .int 132), (4, .arg 60033)] [], [fBot], 7), [((8, .long 1000000000, .arg 60033), false), ((8, .arg 60033, .long (-1000000000)), false), ((0, .op2 .ior (.arg 2848) (.int 0), .arg 60192), true), ((8, .arg 60033, .long (-2147483648)), false), ((8, .long 2147483647, .arg 60033), false), ((101, .elem (.arg 1761) (.int 0), .int 0), true), ((0, .arg 2848, .arg 60192), true)], [])
noncomputable def w_wv132mnn : List (sCut × List (Nat × sT) × List (Nat × sT × List (sT × sT))) := [(q_wR132, [], [(1761, .arg 1761, [(.int 132, .arg 60033)])])]
theorem k_wv132mnn : cbody kR [] (cpl1 zWP c_wi132 [q_wR132]) (cpl2 zWP c_wi132 [q_wR132]) (cleafB kR zWP c_wi132 w_wv132mnn) 1000 true true q_wv132mnn.2.2.1 q_wv132mnn.2.2.2 (cst zWP c_wi132.2.2.1.1 q_wv132mnn.1) (cst zWP c_wi132.2.2.1.2 q_wv132mnn.2.1) = true := by decide +kernel
theorem t_wv132mnn {X : pX} {ρ0 : sR} (hv : vok X ρ0) : CUTOK X kR zWP c_wi132 7 ρ0 q_wv132mnn := CUTOK_AT (fun ρ k1 hF hI k4 => AT_of (q := q_wv132mnn) rfl rfl (SEM_runB kR_x kR_0 (Cs := []) (fun C hC => by cases hC) c_wi132_f (Q := w_wv132mnn) hv 1000 (b1 := true) (b2 := true) k_wv132mnn k1 hF hI k4 (fun p hp ρ3 m1 m2 m3 m4 m5 m6 => by
  rw [List.mem_singleton.mp hp] at m2 m3 m5 m6 ⊢
  have b0 := rl_lf (x := ρ.2.1 60033) (y := -1000000000) (hF.2 _ (List.mem_cons_of_mem _ (List.mem_cons_self)))
  have b1 := rl_lf (x := 1000000000) (y := ρ.2.1 60033) (hF.2 _ (List.mem_cons_self))
  have y0 : (-1000000000 : Int64).toInt = -1000000000 := by decide +kernel
  have y1 : (1000000000 : Int64).toInt = 1000000000 := by decide +kernel
  rw [y0] at b0
  rw [y1] at b1
  have hk : evk 132 (ρ.2.1 60033).toInt = true := by
    unfold evk
    rw [et_w132]
    simp only [Bool.and_eq_true, decide_eq_true_eq]
    exact ⟨b0, b1, rfl⟩
  exact t_wE132 hv ρ3 m1 ⟨m2.1, fcn (ev_up (g := ρ.2.2.2.1 1761) (hF.2 _ (List.mem_cons_of_mem _ (List.mem_cons_of_mem _ (List.mem_cons_of_mem _ (List.mem_cons_of_mem _ (List.mem_cons_of_mem _ (List.mem_cons_self))))))) (p := 132) (by decide) hk (fun j => ad_l (X := X) (p := 132) (t := .arg 60033) rfl (m6 _ List.mem_cons_self) j)) m2.2⟩ m3 m4)))
theorem t_wv132mn {X : pX} {ρ0 : sR} (hv : vok X ρ0) : CUTOK X kR zWP c_wi132 7 ρ0 q_wv132mn := CUT_split (8, .long 1000000000, .arg 60033) (t_wv132mny hv) (t_wv132mnn hv)
theorem t_wv132m {X : pX} {ρ0 : sR} (hv : vok X ρ0) : CUTOK X kR zWP c_wi132 7 ρ0 q_wv132m := CUT_split (8, .arg 60033, .long (-1000000000)) (t_wv132my hv) (t_wv132mn hv)
theorem t_wv132 {X : pX} {ρ0 : sR} (hv : vok X ρ0) : CUTOK X kR zWP c_wi132 7 ρ0 q_wv132 := CUT_mono (t_wv132m hv) (fun ρ hF hI => ⟨⟨hF.1, by
    exact fcn (decide_eq_true (show ρ.1 2848 ||| 0 = ρ.1 60192 by rw [Int32.or_zero]; exact of_decide_eq_true (hF.2 _ (List.mem_cons_of_mem _ (List.mem_cons_of_mem _ (List.mem_cons_of_mem _ (List.mem_cons_self))))))) hF.2⟩, hI⟩)
theorem e_wi132 : frun kR [] (cpl1 zWP c_wi132 [q_wv132]) (cpl2 zWP c_wi132 [q_wv132]) (cleaf kR zWP c_wi132 [q_wv132]) 300 65536 (isatP (c_wi132.2.2.2.1) c_wi132.2.2.2.2.2.2.2.1) c_wi132.2.2.2.2.2.2.2.1 (sin0 mt_all c_wi132.1.1 7 c_wi132.2.1.1 (foot zWP c_wi132.2.2.1.1)) (sin0 mt_all c_wi132.1.2.1 7 c_wi132.2.1.2 (foot zWP c_wi132.2.2.1.2)) = true := by decide +kernel
theorem s_wi132 {X : pX} : SREL X pF pdfl mt_all kR zWP c_wi132 := SREL_QC kR_x kR_0 (Cs := []) (fun C hC => by cases hC) (d := 7) rfl c_wi132_f (Q := [q_wv132]) (fun ρ0 hv => fun q hq => by
    simp only [List.mem_cons, List.not_mem_nil, or_false] at hq
    rw [hq]; exact t_wv132 hv) (QC_run 300 e_wi132)
/-! ===== a number for slot 138 ===== -/
noncomputable def c_wi138 : sC := ((5, 277, 8), ([tr 57, .int 138, .arg 60033], [tr 219, .arg 1308, .int 138]), ([57, 42, 43], [219, 223, 222, 227, 225, 226, 334, 260, 229, 220, 221, 228, 297, 302, 288]), [((0, .arg 19328, .int 4), true), ((6, .op2 .lor (.op2 .lor (.op2 .lor (.op2 .lor (.op2 .lshl (.op1 .i2l (.elem (.arg 2212) (.int 0))) (.int 0)) (.long 0)) (.op2 .lshl (.op1 .i2l (.elem (.arg 2212) (.int 1))) (.int 8))) (.op2 .lshl (.op1 .i2l (.elem (.arg 2212) (.int 2))) (.int 16))) (.op2 .lshl (.op1 .i2l (.elem (.arg 2212) (.int 3))) (.int 24)), .arg 60033), true), ((8, .arg 60033, .long 0), false), ((8, .long 4294967295, .arg 60033), false), ((101, .elem (.arg 1761) (.int 0), .int 0), true), ((0, .arg 2848, .arg 60192), true)], ([60000, 60033, 2848, 7105], [1761]), (some (.arg 60000), some (.arg 60000)), [((101, .elem (.arg 1761) (.int 0), .int 0), true), ((0, .arg 2848, .arg 60192), true)], ([], []))
theorem c_wi138_f : cfine zWP 65536 c_wi138 = true := by decide +kernel
noncomputable def q_wR138 : sCut := ((fr 0 5 23 [(4, .int 0)] [], [fBot], 7), (fr 0 277 91 [(3, .int 0)] [], [fBot], 7), [((0, .arg 2848, .arg 60192), true)], [])
noncomputable def q_wE138 : sCut := ((fr 0 5 23 [(4, .int 0)] [], [fBot], 7), (fr 0 277 91 [(3, .int 0)] [], [fBot], 7), [((101, .elem (.arg 1761) (.int 0), .int 0), true), ((0, .arg 2848, .arg 60192), true)], [])
theorem k_wE138 : cbody kR [] (cpl1 zWP c_wi138 []) (cpl2 zWP c_wi138 []) (cleaf kR zWP c_wi138 []) 30 true true q_wE138.2.2.1 q_wE138.2.2.2 (cst zWP c_wi138.2.2.1.1 q_wE138.1) (cst zWP c_wi138.2.2.1.2 q_wE138.2.1) = true := by decide +kernel
theorem t_wE138 {X : pX} {ρ0 : sR} (hv : vok X ρ0) : CUTOK X kR zWP c_wi138 7 ρ0 q_wE138 := CUT_run kR_x kR_0 (Cs := []) (fun C hC => by cases hC) c_wi138_f (Q := []) hv (fun q hq => by cases hq) 30 (b1 := true) (b2 := true) k_wE138
theorem et_w138 : evt[138]? = some (1, 2000000, 0) := by decide +kernel
noncomputable def q_wv138 : sCut := ((fr 0 5 0 [(0, tr 57), (1, .int 138), (2, .arg 60033)] [], [fBot], 7), (fr 0 277 60 [(0, tr 219), (1, .arg 1308), (2, .int 138), (4, .arg 60033)] [], [fBot], 7), [((8, .arg 60033, .long 0), false), ((8, .long 4294967295, .arg 60033), false), ((101, .elem (.arg 1761) (.int 0), .int 0), true), ((0, .arg 2848, .arg 60192), true)], [])
noncomputable def q_wv138m : sCut := ((fr 0 5 0 [(0, tr 57), (1, .int 138), (2, .arg 60033)] [], [fBot], 7), (fr 0 277 60 [(0, tr 219), (1, .arg 1308), (2, .int 138), (4, .arg 60033)] [], [fBot], 7), [((0, .op2 .ior (.arg 2848) (.int 0), .arg 60192), true), ((8, .arg 60033, .long 0), false), ((8, .long 4294967295, .arg 60033), false), ((101, .elem (.arg 1761) (.int 0), .int 0), true), ((0, .arg 2848, .arg 60192), true)], [])
noncomputable def q_wv138my : sCut := ((fr 0 5 0 [(0, tr 57), (1, .int 138), (2, .arg 60033)] [], [fBot], 7), (fr 0 277 60 [(0, tr 219), (1, .arg 1308), (2, .int 138), (4, .arg 60033)] [], [fBot], 7), [((8, .arg 60033, .long 1), true), ((0, .op2 .ior (.arg 2848) (.int 0), .arg 60192), true), ((8, .arg 60033, .long 0), false), ((8, .long 4294967295, .arg 60033), false), ((101, .elem (.arg 1761) (.int 0), .int 0), true), ((0, .arg 2848, .arg 60192), true)], [])
theorem k_wv138my : cbody kR [] (cpl1 zWP c_wi138 []) (cpl2 zWP c_wi138 []) (cleaf kR zWP c_wi138 []) 1000 true true q_wv138my.2.2.1 q_wv138my.2.2.2 (cst zWP c_wi138.2.2.1.1 q_wv138my.1) (cst zWP c_wi138.2.2.1.2 q_wv138my.2.1) = true := by decide +kernel
theorem t_wv138my {X : pX} {ρ0 : sR} (hv : vok X ρ0) : CUTOK X kR zWP c_wi138 7 ρ0 q_wv138my := CUT_run kR_x kR_0 (Cs := []) (fun C hC => by cases hC) c_wi138_f (Q := []) hv (fun q hq => by cases hq) 1000 (b1 := true) (b2 := true) k_wv138my
noncomputable def q_wv138mn : sCut := ((fr 0 5 0 [(0, tr 57), (1, .int 138), (2, .arg 60033)] [], [fBot], 7), (fr 0 277 60 [(0, tr 219), (1, .arg 1308), (2, .int 138), (4, .arg 60033)] [], [fBot], 7), [((8, .arg 60033, .long 1), false), ((0, .op2 .ior (.arg 2848) (.int 0), .arg 60192), true), ((8, .arg 60033, .long 0), false), ((8, .long 4294967295, .arg 60033), false), ((101, .elem (.arg 1761) (.int 0), .int 0), true), ((0, .arg 2848, .arg 60192), true)], [])
noncomputable def q_wv138mny : sCut := ((fr 0 5 0 [(0, tr 57), (1, .int 138), (2, .arg 60033)] [], [fBot], 7), (fr 0 277 60 [(0, tr 219), (1, .arg 1308), (2, .int 138), (4, .arg 60033)] [], [fBot], 7), [((8, .long 2000000, .arg 60033), true), ((8, .arg 60033, .long 1), false), ((0, .op2 .ior (.arg 2848) (.int 0), .arg 60192), true), ((8, .arg 60033, .long 0), false), ((8, .long 4294967295, .arg 60033), false), ((101, .elem (.arg 1761) (.int 0), .int 0), true), ((0, .arg 2848, .arg 60192), true)], [])
theorem k_wv138mny : cbody kR [] (cpl1 zWP c_wi138 []) (cpl2 zWP c_wi138 []) (cleaf kR zWP c_wi138 []) 1000 true true q_wv138mny.2.2.1 q_wv138mny.2.2.2 (cst zWP c_wi138.2.2.1.1 q_wv138mny.1) (cst zWP c_wi138.2.2.1.2 q_wv138mny.2.1) = true := by decide +kernel
theorem t_wv138mny {X : pX} {ρ0 : sR} (hv : vok X ρ0) : CUTOK X kR zWP c_wi138 7 ρ0 q_wv138mny := CUT_run kR_x kR_0 (Cs := []) (fun C hC => by cases hC) c_wi138_f (Q := []) hv (fun q hq => by cases hq) 1000 (b1 := true) (b2 := true) k_wv138mny
noncomputable def q_wv138mnn : sCut := ((fr 0 5 0 [(0, tr 57), (1, .int 138), (2, .arg 60033)] [], [fBot], 7), (fr 0 277 60 [(0, tr 219), (1, .arg 1308), (2, .int 138), (4, .arg 60033)] [], [fBot], 7), [((8, .long 2000000, .arg 60033), false), ((8, .arg 60033, .long 1), false), ((0, .op2 .ior (.arg 2848) (.int 0), .arg 60192), true), ((8, .arg 60033, .long 0), false), ((8, .long 4294967295, .arg 60033), false), ((101, .elem (.arg 1761) (.int 0), .int 0), true), ((0, .arg 2848, .arg 60192), true)], [])
noncomputable def w_wv138mnn : List (sCut × List (Nat × sT) × List (Nat × sT × List (sT × sT))) := [(q_wR138, [], [(1761, .arg 1761, [(.int 138, .arg 60033)])])]
theorem k_wv138mnn : cbody kR [] (cpl1 zWP c_wi138 [q_wR138]) (cpl2 zWP c_wi138 [q_wR138]) (cleafB kR zWP c_wi138 w_wv138mnn) 1000 true true q_wv138mnn.2.2.1 q_wv138mnn.2.2.2 (cst zWP c_wi138.2.2.1.1 q_wv138mnn.1) (cst zWP c_wi138.2.2.1.2 q_wv138mnn.2.1) = true := by decide +kernel
theorem t_wv138mnn {X : pX} {ρ0 : sR} (hv : vok X ρ0) : CUTOK X kR zWP c_wi138 7 ρ0 q_wv138mnn := CUTOK_AT (fun ρ k1 hF hI k4 => AT_of (q := q_wv138mnn) rfl rfl (SEM_runB kR_x kR_0 (Cs := []) (fun C hC => by cases hC) c_wi138_f (Q := w_wv138mnn) hv 1000 (b1 := true) (b2 := true) k_wv138mnn k1 hF hI k4 (fun p hp ρ3 m1 m2 m3 m4 m5 m6 => by
  rw [List.mem_singleton.mp hp] at m2 m3 m5 m6 ⊢
  have b0 := rl_lf (x := ρ.2.1 60033) (y := 1) (hF.2 _ (List.mem_cons_of_mem _ (List.mem_cons_self)))
  have b1 := rl_lf (x := 2000000) (y := ρ.2.1 60033) (hF.2 _ (List.mem_cons_self))
  have y0 : (1 : Int64).toInt = 1 := by decide +kernel
  have y1 : (2000000 : Int64).toInt = 2000000 := by decide +kernel
  rw [y0] at b0
  rw [y1] at b1
  have hk : evk 138 (ρ.2.1 60033).toInt = true := by
    unfold evk
    rw [et_w138]
    simp only [Bool.and_eq_true, decide_eq_true_eq]
    exact ⟨b0, b1, rfl⟩
  exact t_wE138 hv ρ3 m1 ⟨m2.1, fcn (ev_up (g := ρ.2.2.2.1 1761) (hF.2 _ (List.mem_cons_of_mem _ (List.mem_cons_of_mem _ (List.mem_cons_of_mem _ (List.mem_cons_of_mem _ (List.mem_cons_of_mem _ (List.mem_cons_self))))))) (p := 138) (by decide) hk (fun j => ad_l (X := X) (p := 138) (t := .arg 60033) rfl (m6 _ List.mem_cons_self) j)) m2.2⟩ m3 m4)))
theorem t_wv138mn {X : pX} {ρ0 : sR} (hv : vok X ρ0) : CUTOK X kR zWP c_wi138 7 ρ0 q_wv138mn := CUT_split (8, .long 2000000, .arg 60033) (t_wv138mny hv) (t_wv138mnn hv)
theorem t_wv138m {X : pX} {ρ0 : sR} (hv : vok X ρ0) : CUTOK X kR zWP c_wi138 7 ρ0 q_wv138m := CUT_split (8, .arg 60033, .long 1) (t_wv138my hv) (t_wv138mn hv)
theorem t_wv138 {X : pX} {ρ0 : sR} (hv : vok X ρ0) : CUTOK X kR zWP c_wi138 7 ρ0 q_wv138 := CUT_mono (t_wv138m hv) (fun ρ hF hI => ⟨⟨hF.1, by
    exact fcn (decide_eq_true (show ρ.1 2848 ||| 0 = ρ.1 60192 by rw [Int32.or_zero]; exact of_decide_eq_true (hF.2 _ (List.mem_cons_of_mem _ (List.mem_cons_of_mem _ (List.mem_cons_of_mem _ (List.mem_cons_self))))))) hF.2⟩, hI⟩)
theorem e_wi138 : frun kR [] (cpl1 zWP c_wi138 [q_wv138]) (cpl2 zWP c_wi138 [q_wv138]) (cleaf kR zWP c_wi138 [q_wv138]) 300 65536 (isatP (c_wi138.2.2.2.1) c_wi138.2.2.2.2.2.2.2.1) c_wi138.2.2.2.2.2.2.2.1 (sin0 mt_all c_wi138.1.1 7 c_wi138.2.1.1 (foot zWP c_wi138.2.2.1.1)) (sin0 mt_all c_wi138.1.2.1 7 c_wi138.2.1.2 (foot zWP c_wi138.2.2.1.2)) = true := by decide +kernel
theorem s_wi138 {X : pX} : SREL X pF pdfl mt_all kR zWP c_wi138 := SREL_QC kR_x kR_0 (Cs := []) (fun C hC => by cases hC) (d := 7) rfl c_wi138_f (Q := [q_wv138]) (fun ρ0 hv => fun q hq => by
    simp only [List.mem_cons, List.not_mem_nil, or_false] at hq
    rw [hq]; exact t_wv138 hv) (QC_run 300 e_wi138)
/-! ===== a number for slot 139 ===== -/
noncomputable def c_wi139 : sC := ((5, 277, 8), ([tr 57, .int 139, .arg 60033], [tr 219, .arg 1308, .int 139]), ([57, 42, 43], [219, 223, 222, 227, 225, 226, 334, 260, 229, 220, 221, 228, 297, 302, 288]), [((0, .arg 19328, .int 4), true), ((6, .op2 .lor (.op2 .lor (.op2 .lor (.op2 .lor (.op2 .lshl (.op1 .i2l (.elem (.arg 2212) (.int 0))) (.int 0)) (.long 0)) (.op2 .lshl (.op1 .i2l (.elem (.arg 2212) (.int 1))) (.int 8))) (.op2 .lshl (.op1 .i2l (.elem (.arg 2212) (.int 2))) (.int 16))) (.op2 .lshl (.op1 .i2l (.elem (.arg 2212) (.int 3))) (.int 24)), .arg 60033), true), ((8, .arg 60033, .long 0), false), ((8, .long 4294967295, .arg 60033), false), ((101, .elem (.arg 1761) (.int 0), .int 0), true), ((0, .arg 2848, .arg 60192), true)], ([60000, 60033, 2848, 7105], [1761]), (some (.arg 60000), some (.arg 60000)), [((101, .elem (.arg 1761) (.int 0), .int 0), true), ((0, .arg 2848, .arg 60192), true)], ([], []))
theorem c_wi139_f : cfine zWP 65536 c_wi139 = true := by decide +kernel
noncomputable def q_wR139 : sCut := ((fr 0 5 23 [(4, .int 0)] [], [fBot], 7), (fr 0 277 91 [(3, .int 0)] [], [fBot], 7), [((0, .arg 2848, .arg 60192), true)], [])
noncomputable def q_wE139 : sCut := ((fr 0 5 23 [(4, .int 0)] [], [fBot], 7), (fr 0 277 91 [(3, .int 0)] [], [fBot], 7), [((101, .elem (.arg 1761) (.int 0), .int 0), true), ((0, .arg 2848, .arg 60192), true)], [])
theorem k_wE139 : cbody kR [] (cpl1 zWP c_wi139 []) (cpl2 zWP c_wi139 []) (cleaf kR zWP c_wi139 []) 30 true true q_wE139.2.2.1 q_wE139.2.2.2 (cst zWP c_wi139.2.2.1.1 q_wE139.1) (cst zWP c_wi139.2.2.1.2 q_wE139.2.1) = true := by decide +kernel
theorem t_wE139 {X : pX} {ρ0 : sR} (hv : vok X ρ0) : CUTOK X kR zWP c_wi139 7 ρ0 q_wE139 := CUT_run kR_x kR_0 (Cs := []) (fun C hC => by cases hC) c_wi139_f (Q := []) hv (fun q hq => by cases hq) 30 (b1 := true) (b2 := true) k_wE139
theorem et_w139 : evt[139]? = some (1, 100000000, 0) := by decide +kernel
noncomputable def q_wv139 : sCut := ((fr 0 5 0 [(0, tr 57), (1, .int 139), (2, .arg 60033)] [], [fBot], 7), (fr 0 277 60 [(0, tr 219), (1, .arg 1308), (2, .int 139), (4, .arg 60033)] [], [fBot], 7), [((8, .arg 60033, .long 0), false), ((8, .long 4294967295, .arg 60033), false), ((101, .elem (.arg 1761) (.int 0), .int 0), true), ((0, .arg 2848, .arg 60192), true)], [])
noncomputable def q_wv139m : sCut := ((fr 0 5 0 [(0, tr 57), (1, .int 139), (2, .arg 60033)] [], [fBot], 7), (fr 0 277 60 [(0, tr 219), (1, .arg 1308), (2, .int 139), (4, .arg 60033)] [], [fBot], 7), [((0, .op2 .ior (.arg 2848) (.int 0), .arg 60192), true), ((8, .arg 60033, .long 0), false), ((8, .long 4294967295, .arg 60033), false), ((101, .elem (.arg 1761) (.int 0), .int 0), true), ((0, .arg 2848, .arg 60192), true)], [])
noncomputable def q_wv139my : sCut := ((fr 0 5 0 [(0, tr 57), (1, .int 139), (2, .arg 60033)] [], [fBot], 7), (fr 0 277 60 [(0, tr 219), (1, .arg 1308), (2, .int 139), (4, .arg 60033)] [], [fBot], 7), [((8, .arg 60033, .long 1), true), ((0, .op2 .ior (.arg 2848) (.int 0), .arg 60192), true), ((8, .arg 60033, .long 0), false), ((8, .long 4294967295, .arg 60033), false), ((101, .elem (.arg 1761) (.int 0), .int 0), true), ((0, .arg 2848, .arg 60192), true)], [])
theorem k_wv139my : cbody kR [] (cpl1 zWP c_wi139 []) (cpl2 zWP c_wi139 []) (cleaf kR zWP c_wi139 []) 1000 true true q_wv139my.2.2.1 q_wv139my.2.2.2 (cst zWP c_wi139.2.2.1.1 q_wv139my.1) (cst zWP c_wi139.2.2.1.2 q_wv139my.2.1) = true := by decide +kernel
theorem t_wv139my {X : pX} {ρ0 : sR} (hv : vok X ρ0) : CUTOK X kR zWP c_wi139 7 ρ0 q_wv139my := CUT_run kR_x kR_0 (Cs := []) (fun C hC => by cases hC) c_wi139_f (Q := []) hv (fun q hq => by cases hq) 1000 (b1 := true) (b2 := true) k_wv139my
noncomputable def q_wv139mn : sCut := ((fr 0 5 0 [(0, tr 57), (1, .int 139), (2, .arg 60033)] [], [fBot], 7), (fr 0 277 60 [(0, tr 219), (1, .arg 1308), (2, .int 139), (4, .arg 60033)] [], [fBot], 7), [((8, .arg 60033, .long 1), false), ((0, .op2 .ior (.arg 2848) (.int 0), .arg 60192), true), ((8, .arg 60033, .long 0), false), ((8, .long 4294967295, .arg 60033), false), ((101, .elem (.arg 1761) (.int 0), .int 0), true), ((0, .arg 2848, .arg 60192), true)], [])
noncomputable def q_wv139mny : sCut := ((fr 0 5 0 [(0, tr 57), (1, .int 139), (2, .arg 60033)] [], [fBot], 7), (fr 0 277 60 [(0, tr 219), (1, .arg 1308), (2, .int 139), (4, .arg 60033)] [], [fBot], 7), [((8, .long 100000000, .arg 60033), true), ((8, .arg 60033, .long 1), false), ((0, .op2 .ior (.arg 2848) (.int 0), .arg 60192), true), ((8, .arg 60033, .long 0), false), ((8, .long 4294967295, .arg 60033), false), ((101, .elem (.arg 1761) (.int 0), .int 0), true), ((0, .arg 2848, .arg 60192), true)], [])
theorem k_wv139mny : cbody kR [] (cpl1 zWP c_wi139 []) (cpl2 zWP c_wi139 []) (cleaf kR zWP c_wi139 []) 1000 true true q_wv139mny.2.2.1 q_wv139mny.2.2.2 (cst zWP c_wi139.2.2.1.1 q_wv139mny.1) (cst zWP c_wi139.2.2.1.2 q_wv139mny.2.1) = true := by decide +kernel
theorem t_wv139mny {X : pX} {ρ0 : sR} (hv : vok X ρ0) : CUTOK X kR zWP c_wi139 7 ρ0 q_wv139mny := CUT_run kR_x kR_0 (Cs := []) (fun C hC => by cases hC) c_wi139_f (Q := []) hv (fun q hq => by cases hq) 1000 (b1 := true) (b2 := true) k_wv139mny
noncomputable def q_wv139mnn : sCut := ((fr 0 5 0 [(0, tr 57), (1, .int 139), (2, .arg 60033)] [], [fBot], 7), (fr 0 277 60 [(0, tr 219), (1, .arg 1308), (2, .int 139), (4, .arg 60033)] [], [fBot], 7), [((8, .long 100000000, .arg 60033), false), ((8, .arg 60033, .long 1), false), ((0, .op2 .ior (.arg 2848) (.int 0), .arg 60192), true), ((8, .arg 60033, .long 0), false), ((8, .long 4294967295, .arg 60033), false), ((101, .elem (.arg 1761) (.int 0), .int 0), true), ((0, .arg 2848, .arg 60192), true)], [])
noncomputable def w_wv139mnn : List (sCut × List (Nat × sT) × List (Nat × sT × List (sT × sT))) := [(q_wR139, [], [(1761, .arg 1761, [(.int 139, .arg 60033)])])]
theorem k_wv139mnn : cbody kR [] (cpl1 zWP c_wi139 [q_wR139]) (cpl2 zWP c_wi139 [q_wR139]) (cleafB kR zWP c_wi139 w_wv139mnn) 1000 true true q_wv139mnn.2.2.1 q_wv139mnn.2.2.2 (cst zWP c_wi139.2.2.1.1 q_wv139mnn.1) (cst zWP c_wi139.2.2.1.2 q_wv139mnn.2.1) = true := by decide +kernel
theorem t_wv139mnn {X : pX} {ρ0 : sR} (hv : vok X ρ0) : CUTOK X kR zWP c_wi139 7 ρ0 q_wv139mnn := CUTOK_AT (fun ρ k1 hF hI k4 => AT_of (q := q_wv139mnn) rfl rfl (SEM_runB kR_x kR_0 (Cs := []) (fun C hC => by cases hC) c_wi139_f (Q := w_wv139mnn) hv 1000 (b1 := true) (b2 := true) k_wv139mnn k1 hF hI k4 (fun p hp ρ3 m1 m2 m3 m4 m5 m6 => by
  rw [List.mem_singleton.mp hp] at m2 m3 m5 m6 ⊢
  have b0 := rl_lf (x := ρ.2.1 60033) (y := 1) (hF.2 _ (List.mem_cons_of_mem _ (List.mem_cons_self)))
  have b1 := rl_lf (x := 100000000) (y := ρ.2.1 60033) (hF.2 _ (List.mem_cons_self))
  have y0 : (1 : Int64).toInt = 1 := by decide +kernel
  have y1 : (100000000 : Int64).toInt = 100000000 := by decide +kernel
  rw [y0] at b0
  rw [y1] at b1
  have hk : evk 139 (ρ.2.1 60033).toInt = true := by
    unfold evk
    rw [et_w139]
    simp only [Bool.and_eq_true, decide_eq_true_eq]
    exact ⟨b0, b1, rfl⟩
  exact t_wE139 hv ρ3 m1 ⟨m2.1, fcn (ev_up (g := ρ.2.2.2.1 1761) (hF.2 _ (List.mem_cons_of_mem _ (List.mem_cons_of_mem _ (List.mem_cons_of_mem _ (List.mem_cons_of_mem _ (List.mem_cons_of_mem _ (List.mem_cons_self))))))) (p := 139) (by decide) hk (fun j => ad_l (X := X) (p := 139) (t := .arg 60033) rfl (m6 _ List.mem_cons_self) j)) m2.2⟩ m3 m4)))
theorem t_wv139mn {X : pX} {ρ0 : sR} (hv : vok X ρ0) : CUTOK X kR zWP c_wi139 7 ρ0 q_wv139mn := CUT_split (8, .long 100000000, .arg 60033) (t_wv139mny hv) (t_wv139mnn hv)
theorem t_wv139m {X : pX} {ρ0 : sR} (hv : vok X ρ0) : CUTOK X kR zWP c_wi139 7 ρ0 q_wv139m := CUT_split (8, .arg 60033, .long 1) (t_wv139my hv) (t_wv139mn hv)
theorem t_wv139 {X : pX} {ρ0 : sR} (hv : vok X ρ0) : CUTOK X kR zWP c_wi139 7 ρ0 q_wv139 := CUT_mono (t_wv139m hv) (fun ρ hF hI => ⟨⟨hF.1, by
    exact fcn (decide_eq_true (show ρ.1 2848 ||| 0 = ρ.1 60192 by rw [Int32.or_zero]; exact of_decide_eq_true (hF.2 _ (List.mem_cons_of_mem _ (List.mem_cons_of_mem _ (List.mem_cons_of_mem _ (List.mem_cons_self))))))) hF.2⟩, hI⟩)
theorem e_wi139 : frun kR [] (cpl1 zWP c_wi139 [q_wv139]) (cpl2 zWP c_wi139 [q_wv139]) (cleaf kR zWP c_wi139 [q_wv139]) 300 65536 (isatP (c_wi139.2.2.2.1) c_wi139.2.2.2.2.2.2.2.1) c_wi139.2.2.2.2.2.2.2.1 (sin0 mt_all c_wi139.1.1 7 c_wi139.2.1.1 (foot zWP c_wi139.2.2.1.1)) (sin0 mt_all c_wi139.1.2.1 7 c_wi139.2.1.2 (foot zWP c_wi139.2.2.1.2)) = true := by decide +kernel
theorem s_wi139 {X : pX} : SREL X pF pdfl mt_all kR zWP c_wi139 := SREL_QC kR_x kR_0 (Cs := []) (fun C hC => by cases hC) (d := 7) rfl c_wi139_f (Q := [q_wv139]) (fun ρ0 hv => fun q hq => by
    simp only [List.mem_cons, List.not_mem_nil, or_false] at hq
    rw [hq]; exact t_wv139 hv) (QC_run 300 e_wi139)
/-! ===== a number for slot 140 ===== -/
noncomputable def c_wi140 : sC := ((5, 277, 8), ([tr 57, .int 140, .arg 60033], [tr 219, .arg 1308, .int 140]), ([57, 42, 43], [219, 223, 222, 227, 225, 226, 334, 260, 229, 220, 221, 228, 297, 302, 288]), [((0, .arg 19328, .int 4), true), ((6, .op2 .lor (.op2 .lor (.op2 .lor (.op2 .lor (.op2 .lshl (.op1 .i2l (.elem (.arg 2212) (.int 0))) (.int 0)) (.long 0)) (.op2 .lshl (.op1 .i2l (.elem (.arg 2212) (.int 1))) (.int 8))) (.op2 .lshl (.op1 .i2l (.elem (.arg 2212) (.int 2))) (.int 16))) (.op2 .lshl (.op1 .i2l (.elem (.arg 2212) (.int 3))) (.int 24)), .arg 60033), true), ((8, .arg 60033, .long 0), false), ((8, .long 4294967295, .arg 60033), false), ((101, .elem (.arg 1761) (.int 0), .int 0), true), ((0, .arg 2848, .arg 60192), true)], ([60000, 60033, 2848, 7105], [1761]), (some (.arg 60000), some (.arg 60000)), [((101, .elem (.arg 1761) (.int 0), .int 0), true), ((0, .arg 2848, .arg 60192), true)], ([], []))
theorem c_wi140_f : cfine zWP 65536 c_wi140 = true := by decide +kernel
noncomputable def q_wR140 : sCut := ((fr 0 5 23 [(4, .int 0)] [], [fBot], 7), (fr 0 277 91 [(3, .int 0)] [], [fBot], 7), [((0, .arg 2848, .arg 60192), true)], [])
noncomputable def q_wE140 : sCut := ((fr 0 5 23 [(4, .int 0)] [], [fBot], 7), (fr 0 277 91 [(3, .int 0)] [], [fBot], 7), [((101, .elem (.arg 1761) (.int 0), .int 0), true), ((0, .arg 2848, .arg 60192), true)], [])
theorem k_wE140 : cbody kR [] (cpl1 zWP c_wi140 []) (cpl2 zWP c_wi140 []) (cleaf kR zWP c_wi140 []) 30 true true q_wE140.2.2.1 q_wE140.2.2.2 (cst zWP c_wi140.2.2.1.1 q_wE140.1) (cst zWP c_wi140.2.2.1.2 q_wE140.2.1) = true := by decide +kernel
theorem t_wE140 {X : pX} {ρ0 : sR} (hv : vok X ρ0) : CUTOK X kR zWP c_wi140 7 ρ0 q_wE140 := CUT_run kR_x kR_0 (Cs := []) (fun C hC => by cases hC) c_wi140_f (Q := []) hv (fun q hq => by cases hq) 30 (b1 := true) (b2 := true) k_wE140
theorem et_w140 : evt[140]? = some (1, 100000000, 0) := by decide +kernel
noncomputable def q_wv140 : sCut := ((fr 0 5 0 [(0, tr 57), (1, .int 140), (2, .arg 60033)] [], [fBot], 7), (fr 0 277 60 [(0, tr 219), (1, .arg 1308), (2, .int 140), (4, .arg 60033)] [], [fBot], 7), [((8, .arg 60033, .long 0), false), ((8, .long 4294967295, .arg 60033), false), ((101, .elem (.arg 1761) (.int 0), .int 0), true), ((0, .arg 2848, .arg 60192), true)], [])
noncomputable def q_wv140m : sCut := ((fr 0 5 0 [(0, tr 57), (1, .int 140), (2, .arg 60033)] [], [fBot], 7), (fr 0 277 60 [(0, tr 219), (1, .arg 1308), (2, .int 140), (4, .arg 60033)] [], [fBot], 7), [((0, .op2 .ior (.arg 2848) (.int 0), .arg 60192), true), ((8, .arg 60033, .long 0), false), ((8, .long 4294967295, .arg 60033), false), ((101, .elem (.arg 1761) (.int 0), .int 0), true), ((0, .arg 2848, .arg 60192), true)], [])
noncomputable def q_wv140my : sCut := ((fr 0 5 0 [(0, tr 57), (1, .int 140), (2, .arg 60033)] [], [fBot], 7), (fr 0 277 60 [(0, tr 219), (1, .arg 1308), (2, .int 140), (4, .arg 60033)] [], [fBot], 7), [((8, .arg 60033, .long 1), true), ((0, .op2 .ior (.arg 2848) (.int 0), .arg 60192), true), ((8, .arg 60033, .long 0), false), ((8, .long 4294967295, .arg 60033), false), ((101, .elem (.arg 1761) (.int 0), .int 0), true), ((0, .arg 2848, .arg 60192), true)], [])
theorem k_wv140my : cbody kR [] (cpl1 zWP c_wi140 []) (cpl2 zWP c_wi140 []) (cleaf kR zWP c_wi140 []) 1000 true true q_wv140my.2.2.1 q_wv140my.2.2.2 (cst zWP c_wi140.2.2.1.1 q_wv140my.1) (cst zWP c_wi140.2.2.1.2 q_wv140my.2.1) = true := by decide +kernel
theorem t_wv140my {X : pX} {ρ0 : sR} (hv : vok X ρ0) : CUTOK X kR zWP c_wi140 7 ρ0 q_wv140my := CUT_run kR_x kR_0 (Cs := []) (fun C hC => by cases hC) c_wi140_f (Q := []) hv (fun q hq => by cases hq) 1000 (b1 := true) (b2 := true) k_wv140my
noncomputable def q_wv140mn : sCut := ((fr 0 5 0 [(0, tr 57), (1, .int 140), (2, .arg 60033)] [], [fBot], 7), (fr 0 277 60 [(0, tr 219), (1, .arg 1308), (2, .int 140), (4, .arg 60033)] [], [fBot], 7), [((8, .arg 60033, .long 1), false), ((0, .op2 .ior (.arg 2848) (.int 0), .arg 60192), true), ((8, .arg 60033, .long 0), false), ((8, .long 4294967295, .arg 60033), false), ((101, .elem (.arg 1761) (.int 0), .int 0), true), ((0, .arg 2848, .arg 60192), true)], [])
noncomputable def q_wv140mny : sCut := ((fr 0 5 0 [(0, tr 57), (1, .int 140), (2, .arg 60033)] [], [fBot], 7), (fr 0 277 60 [(0, tr 219), (1, .arg 1308), (2, .int 140), (4, .arg 60033)] [], [fBot], 7), [((8, .long 100000000, .arg 60033), true), ((8, .arg 60033, .long 1), false), ((0, .op2 .ior (.arg 2848) (.int 0), .arg 60192), true), ((8, .arg 60033, .long 0), false), ((8, .long 4294967295, .arg 60033), false), ((101, .elem (.arg 1761) (.int 0), .int 0), true), ((0, .arg 2848, .arg 60192), true)], [])
theorem k_wv140mny : cbody kR [] (cpl1 zWP c_wi140 []) (cpl2 zWP c_wi140 []) (cleaf kR zWP c_wi140 []) 1000 true true q_wv140mny.2.2.1 q_wv140mny.2.2.2 (cst zWP c_wi140.2.2.1.1 q_wv140mny.1) (cst zWP c_wi140.2.2.1.2 q_wv140mny.2.1) = true := by decide +kernel
theorem t_wv140mny {X : pX} {ρ0 : sR} (hv : vok X ρ0) : CUTOK X kR zWP c_wi140 7 ρ0 q_wv140mny := CUT_run kR_x kR_0 (Cs := []) (fun C hC => by cases hC) c_wi140_f (Q := []) hv (fun q hq => by cases hq) 1000 (b1 := true) (b2 := true) k_wv140mny
noncomputable def q_wv140mnn : sCut := ((fr 0 5 0 [(0, tr 57), (1, .int 140), (2, .arg 60033)] [], [fBot], 7), (fr 0 277 60 [(0, tr 219), (1, .arg 1308), (2, .int 140), (4, .arg 60033)] [], [fBot], 7), [((8, .long 100000000, .arg 60033), false), ((8, .arg 60033, .long 1), false), ((0, .op2 .ior (.arg 2848) (.int 0), .arg 60192), true), ((8, .arg 60033, .long 0), false), ((8, .long 4294967295, .arg 60033), false), ((101, .elem (.arg 1761) (.int 0), .int 0), true), ((0, .arg 2848, .arg 60192), true)], [])
noncomputable def w_wv140mnn : List (sCut × List (Nat × sT) × List (Nat × sT × List (sT × sT))) := [(q_wR140, [], [(1761, .arg 1761, [(.int 140, .arg 60033)])])]
theorem k_wv140mnn : cbody kR [] (cpl1 zWP c_wi140 [q_wR140]) (cpl2 zWP c_wi140 [q_wR140]) (cleafB kR zWP c_wi140 w_wv140mnn) 1000 true true q_wv140mnn.2.2.1 q_wv140mnn.2.2.2 (cst zWP c_wi140.2.2.1.1 q_wv140mnn.1) (cst zWP c_wi140.2.2.1.2 q_wv140mnn.2.1) = true := by decide +kernel
theorem t_wv140mnn {X : pX} {ρ0 : sR} (hv : vok X ρ0) : CUTOK X kR zWP c_wi140 7 ρ0 q_wv140mnn := CUTOK_AT (fun ρ k1 hF hI k4 => AT_of (q := q_wv140mnn) rfl rfl (SEM_runB kR_x kR_0 (Cs := []) (fun C hC => by cases hC) c_wi140_f (Q := w_wv140mnn) hv 1000 (b1 := true) (b2 := true) k_wv140mnn k1 hF hI k4 (fun p hp ρ3 m1 m2 m3 m4 m5 m6 => by
  rw [List.mem_singleton.mp hp] at m2 m3 m5 m6 ⊢
  have b0 := rl_lf (x := ρ.2.1 60033) (y := 1) (hF.2 _ (List.mem_cons_of_mem _ (List.mem_cons_self)))
  have b1 := rl_lf (x := 100000000) (y := ρ.2.1 60033) (hF.2 _ (List.mem_cons_self))
  have y0 : (1 : Int64).toInt = 1 := by decide +kernel
  have y1 : (100000000 : Int64).toInt = 100000000 := by decide +kernel
  rw [y0] at b0
  rw [y1] at b1
  have hk : evk 140 (ρ.2.1 60033).toInt = true := by
    unfold evk
    rw [et_w140]
    simp only [Bool.and_eq_true, decide_eq_true_eq]
    exact ⟨b0, b1, rfl⟩
  exact t_wE140 hv ρ3 m1 ⟨m2.1, fcn (ev_up (g := ρ.2.2.2.1 1761) (hF.2 _ (List.mem_cons_of_mem _ (List.mem_cons_of_mem _ (List.mem_cons_of_mem _ (List.mem_cons_of_mem _ (List.mem_cons_of_mem _ (List.mem_cons_self))))))) (p := 140) (by decide) hk (fun j => ad_l (X := X) (p := 140) (t := .arg 60033) rfl (m6 _ List.mem_cons_self) j)) m2.2⟩ m3 m4)))
theorem t_wv140mn {X : pX} {ρ0 : sR} (hv : vok X ρ0) : CUTOK X kR zWP c_wi140 7 ρ0 q_wv140mn := CUT_split (8, .long 100000000, .arg 60033) (t_wv140mny hv) (t_wv140mnn hv)
theorem t_wv140m {X : pX} {ρ0 : sR} (hv : vok X ρ0) : CUTOK X kR zWP c_wi140 7 ρ0 q_wv140m := CUT_split (8, .arg 60033, .long 1) (t_wv140my hv) (t_wv140mn hv)
theorem t_wv140 {X : pX} {ρ0 : sR} (hv : vok X ρ0) : CUTOK X kR zWP c_wi140 7 ρ0 q_wv140 := CUT_mono (t_wv140m hv) (fun ρ hF hI => ⟨⟨hF.1, by
    exact fcn (decide_eq_true (show ρ.1 2848 ||| 0 = ρ.1 60192 by rw [Int32.or_zero]; exact of_decide_eq_true (hF.2 _ (List.mem_cons_of_mem _ (List.mem_cons_of_mem _ (List.mem_cons_of_mem _ (List.mem_cons_self))))))) hF.2⟩, hI⟩)
theorem e_wi140 : frun kR [] (cpl1 zWP c_wi140 [q_wv140]) (cpl2 zWP c_wi140 [q_wv140]) (cleaf kR zWP c_wi140 [q_wv140]) 300 65536 (isatP (c_wi140.2.2.2.1) c_wi140.2.2.2.2.2.2.2.1) c_wi140.2.2.2.2.2.2.2.1 (sin0 mt_all c_wi140.1.1 7 c_wi140.2.1.1 (foot zWP c_wi140.2.2.1.1)) (sin0 mt_all c_wi140.1.2.1 7 c_wi140.2.1.2 (foot zWP c_wi140.2.2.1.2)) = true := by decide +kernel
theorem s_wi140 {X : pX} : SREL X pF pdfl mt_all kR zWP c_wi140 := SREL_QC kR_x kR_0 (Cs := []) (fun C hC => by cases hC) (d := 7) rfl c_wi140_f (Q := [q_wv140]) (fun ρ0 hv => fun q hq => by
    simp only [List.mem_cons, List.not_mem_nil, or_false] at hq
    rw [hq]; exact t_wv140 hv) (QC_run 300 e_wi140)
/-! ===== a number for slot 147 ===== -/
noncomputable def c_wi147 : sC := ((5, 277, 8), ([tr 57, .int 147, .arg 60033], [tr 219, .arg 1308, .int 147]), ([57, 42, 43], [219, 223, 222, 227, 225, 226, 334, 260, 229, 220, 221, 228, 297, 302, 288]), [((0, .arg 19328, .int 2), true), ((6, .op2 .lor (.op2 .lor (.op2 .lshl (.op1 .i2l (.elem (.arg 2212) (.int 0))) (.int 0)) (.long 0)) (.op2 .lshl (.op1 .i2l (.elem (.arg 2212) (.int 1))) (.int 8)), .arg 60033), true), ((8, .arg 60033, .long 0), false), ((8, .long 65535, .arg 60033), false), ((101, .elem (.arg 1761) (.int 0), .int 0), true), ((0, .arg 2848, .arg 60192), true)], ([60000, 60033, 2848, 7105], [1761]), (some (.arg 60000), some (.arg 60000)), [((101, .elem (.arg 1761) (.int 0), .int 0), true), ((0, .arg 2848, .arg 60192), true)], ([], []))
theorem c_wi147_f : cfine zWP 65536 c_wi147 = true := by decide +kernel
noncomputable def q_wR147 : sCut := ((fr 0 5 23 [(4, .int 0)] [], [fBot], 7), (fr 0 277 91 [(3, .int 0)] [], [fBot], 7), [((0, .arg 2848, .arg 60192), true)], [])
noncomputable def q_wE147 : sCut := ((fr 0 5 23 [(4, .int 0)] [], [fBot], 7), (fr 0 277 91 [(3, .int 0)] [], [fBot], 7), [((101, .elem (.arg 1761) (.int 0), .int 0), true), ((0, .arg 2848, .arg 60192), true)], [])
theorem k_wE147 : cbody kR [] (cpl1 zWP c_wi147 []) (cpl2 zWP c_wi147 []) (cleaf kR zWP c_wi147 []) 30 true true q_wE147.2.2.1 q_wE147.2.2.2 (cst zWP c_wi147.2.2.1.1 q_wE147.1) (cst zWP c_wi147.2.2.1.2 q_wE147.2.1) = true := by decide +kernel
theorem t_wE147 {X : pX} {ρ0 : sR} (hv : vok X ρ0) : CUTOK X kR zWP c_wi147 7 ρ0 q_wE147 := CUT_run kR_x kR_0 (Cs := []) (fun C hC => by cases hC) c_wi147_f (Q := []) hv (fun q hq => by cases hq) 30 (b1 := true) (b2 := true) k_wE147
theorem et_w147 : evt[147]? = some (0, 65535, 0) := by decide +kernel
noncomputable def q_wv147 : sCut := ((fr 0 5 0 [(0, tr 57), (1, .int 147), (2, .arg 60033)] [], [fBot], 7), (fr 0 277 60 [(0, tr 219), (1, .arg 1308), (2, .int 147), (4, .arg 60033)] [], [fBot], 7), [((8, .arg 60033, .long 0), false), ((8, .long 65535, .arg 60033), false), ((101, .elem (.arg 1761) (.int 0), .int 0), true), ((0, .arg 2848, .arg 60192), true)], [])
noncomputable def q_wv147m : sCut := ((fr 0 5 0 [(0, tr 57), (1, .int 147), (2, .arg 60033)] [], [fBot], 7), (fr 0 277 60 [(0, tr 219), (1, .arg 1308), (2, .int 147), (4, .arg 60033)] [], [fBot], 7), [((0, .op2 .ior (.arg 2848) (.int 0), .arg 60192), true), ((8, .arg 60033, .long 0), false), ((8, .long 65535, .arg 60033), false), ((101, .elem (.arg 1761) (.int 0), .int 0), true), ((0, .arg 2848, .arg 60192), true)], [])
noncomputable def w_wv147m : List (sCut × List (Nat × sT) × List (Nat × sT × List (sT × sT))) := [(q_wR147, [], [(1761, .arg 1761, [(.int 147, .arg 60033)])])]
theorem k_wv147m : cbody kR [] (cpl1 zWP c_wi147 [q_wR147]) (cpl2 zWP c_wi147 [q_wR147]) (cleafB kR zWP c_wi147 w_wv147m) 1000 true true q_wv147m.2.2.1 q_wv147m.2.2.2 (cst zWP c_wi147.2.2.1.1 q_wv147m.1) (cst zWP c_wi147.2.2.1.2 q_wv147m.2.1) = true := by decide +kernel
theorem t_wv147m {X : pX} {ρ0 : sR} (hv : vok X ρ0) : CUTOK X kR zWP c_wi147 7 ρ0 q_wv147m := CUTOK_AT (fun ρ k1 hF hI k4 => AT_of (q := q_wv147m) rfl rfl (SEM_runB kR_x kR_0 (Cs := []) (fun C hC => by cases hC) c_wi147_f (Q := w_wv147m) hv 1000 (b1 := true) (b2 := true) k_wv147m k1 hF hI k4 (fun p hp ρ3 m1 m2 m3 m4 m5 m6 => by
  rw [List.mem_singleton.mp hp] at m2 m3 m5 m6 ⊢
  have b0 := rl_lf (x := ρ.2.1 60033) (y := 0) (hF.2 _ (List.mem_cons_of_mem _ (List.mem_cons_self)))
  have b1 := rl_lf (x := 65535) (y := ρ.2.1 60033) (hF.2 _ (List.mem_cons_of_mem _ (List.mem_cons_of_mem _ (List.mem_cons_self))))
  have y0 : (0 : Int64).toInt = 0 := by decide +kernel
  have y1 : (65535 : Int64).toInt = 65535 := by decide +kernel
  rw [y0] at b0
  rw [y1] at b1
  have hk : evk 147 (ρ.2.1 60033).toInt = true := by
    unfold evk
    rw [et_w147]
    simp only [Bool.and_eq_true, decide_eq_true_eq]
    exact ⟨b0, b1, rfl⟩
  exact t_wE147 hv ρ3 m1 ⟨m2.1, fcn (ev_up (g := ρ.2.2.2.1 1761) (hF.2 _ (List.mem_cons_of_mem _ (List.mem_cons_of_mem _ (List.mem_cons_of_mem _ (List.mem_cons_self))))) (p := 147) (by decide) hk (fun j => ad_l (X := X) (p := 147) (t := .arg 60033) rfl (m6 _ List.mem_cons_self) j)) m2.2⟩ m3 m4)))
theorem t_wv147 {X : pX} {ρ0 : sR} (hv : vok X ρ0) : CUTOK X kR zWP c_wi147 7 ρ0 q_wv147 := CUT_mono (t_wv147m hv) (fun ρ hF hI => ⟨⟨hF.1, by
    exact fcn (decide_eq_true (show ρ.1 2848 ||| 0 = ρ.1 60192 by rw [Int32.or_zero]; exact of_decide_eq_true (hF.2 _ (List.mem_cons_of_mem _ (List.mem_cons_of_mem _ (List.mem_cons_of_mem _ (List.mem_cons_self))))))) hF.2⟩, hI⟩)
theorem e_wi147 : frun kR [] (cpl1 zWP c_wi147 [q_wv147]) (cpl2 zWP c_wi147 [q_wv147]) (cleaf kR zWP c_wi147 [q_wv147]) 300 65536 (isatP (c_wi147.2.2.2.1) c_wi147.2.2.2.2.2.2.2.1) c_wi147.2.2.2.2.2.2.2.1 (sin0 mt_all c_wi147.1.1 7 c_wi147.2.1.1 (foot zWP c_wi147.2.2.1.1)) (sin0 mt_all c_wi147.1.2.1 7 c_wi147.2.1.2 (foot zWP c_wi147.2.2.1.2)) = true := by decide +kernel
theorem s_wi147 {X : pX} : SREL X pF pdfl mt_all kR zWP c_wi147 := SREL_QC kR_x kR_0 (Cs := []) (fun C hC => by cases hC) (d := 7) rfl c_wi147_f (Q := [q_wv147]) (fun ρ0 hv => fun q hq => by
    simp only [List.mem_cons, List.not_mem_nil, or_false] at hq
    rw [hq]; exact t_wv147 hv) (QC_run 300 e_wi147)
/-! ===== a number for slot 153 ===== -/
noncomputable def c_wi153 : sC := ((5, 277, 8), ([tr 57, .int 153, .arg 60033], [tr 219, .arg 1308, .int 153]), ([57, 42, 43], [219, 223, 222, 227, 225, 226, 334, 260, 229, 220, 221, 228, 297, 302, 288]), [((0, .arg 19328, .int 4), true), ((6, .op2 .lor (.op2 .lor (.op2 .lor (.op2 .lor (.op2 .lshl (.op1 .i2l (.elem (.arg 2212) (.int 0))) (.int 0)) (.long 0)) (.op2 .lshl (.op1 .i2l (.elem (.arg 2212) (.int 1))) (.int 8))) (.op2 .lshl (.op1 .i2l (.elem (.arg 2212) (.int 2))) (.int 16))) (.op2 .lshl (.op1 .i2l (.elem (.arg 2212) (.int 3))) (.int 24)), .arg 60033), true), ((8, .arg 60033, .long 0), false), ((8, .long 4294967295, .arg 60033), false), ((101, .elem (.arg 1761) (.int 0), .int 0), true), ((0, .arg 2848, .arg 60192), true)], ([60000, 60033, 2848, 7105], [1761]), (some (.arg 60000), some (.arg 60000)), [((101, .elem (.arg 1761) (.int 0), .int 0), true), ((0, .arg 2848, .arg 60192), true)], ([], []))
theorem c_wi153_f : cfine zWP 65536 c_wi153 = true := by decide +kernel
noncomputable def q_wR153 : sCut := ((fr 0 5 23 [(4, .int 0)] [], [fBot], 7), (fr 0 277 91 [(3, .int 0)] [], [fBot], 7), [((0, .arg 2848, .arg 60192), true)], [])
noncomputable def q_wE153 : sCut := ((fr 0 5 23 [(4, .int 0)] [], [fBot], 7), (fr 0 277 91 [(3, .int 0)] [], [fBot], 7), [((101, .elem (.arg 1761) (.int 0), .int 0), true), ((0, .arg 2848, .arg 60192), true)], [])
theorem k_wE153 : cbody kR [] (cpl1 zWP c_wi153 []) (cpl2 zWP c_wi153 []) (cleaf kR zWP c_wi153 []) 30 true true q_wE153.2.2.1 q_wE153.2.2.2 (cst zWP c_wi153.2.2.1.1 q_wE153.1) (cst zWP c_wi153.2.2.1.2 q_wE153.2.1) = true := by decide +kernel
theorem t_wE153 {X : pX} {ρ0 : sR} (hv : vok X ρ0) : CUTOK X kR zWP c_wi153 7 ρ0 q_wE153 := CUT_run kR_x kR_0 (Cs := []) (fun C hC => by cases hC) c_wi153_f (Q := []) hv (fun q hq => by cases hq) 30 (b1 := true) (b2 := true) k_wE153
theorem et_w153 : evt[153]? = some (0, 4294967295, 0) := by decide +kernel
noncomputable def q_wv153 : sCut := ((fr 0 5 0 [(0, tr 57), (1, .int 153), (2, .arg 60033)] [], [fBot], 7), (fr 0 277 60 [(0, tr 219), (1, .arg 1308), (2, .int 153), (4, .arg 60033)] [], [fBot], 7), [((8, .arg 60033, .long 0), false), ((8, .long 4294967295, .arg 60033), false), ((101, .elem (.arg 1761) (.int 0), .int 0), true), ((0, .arg 2848, .arg 60192), true)], [])
noncomputable def q_wv153m : sCut := ((fr 0 5 0 [(0, tr 57), (1, .int 153), (2, .arg 60033)] [], [fBot], 7), (fr 0 277 60 [(0, tr 219), (1, .arg 1308), (2, .int 153), (4, .arg 60033)] [], [fBot], 7), [((0, .op2 .ior (.arg 2848) (.int 0), .arg 60192), true), ((8, .arg 60033, .long 0), false), ((8, .long 4294967295, .arg 60033), false), ((101, .elem (.arg 1761) (.int 0), .int 0), true), ((0, .arg 2848, .arg 60192), true)], [])
noncomputable def w_wv153m : List (sCut × List (Nat × sT) × List (Nat × sT × List (sT × sT))) := [(q_wR153, [], [(1761, .arg 1761, [(.int 153, .arg 60033)])])]
theorem k_wv153m : cbody kR [] (cpl1 zWP c_wi153 [q_wR153]) (cpl2 zWP c_wi153 [q_wR153]) (cleafB kR zWP c_wi153 w_wv153m) 1000 true true q_wv153m.2.2.1 q_wv153m.2.2.2 (cst zWP c_wi153.2.2.1.1 q_wv153m.1) (cst zWP c_wi153.2.2.1.2 q_wv153m.2.1) = true := by decide +kernel
theorem t_wv153m {X : pX} {ρ0 : sR} (hv : vok X ρ0) : CUTOK X kR zWP c_wi153 7 ρ0 q_wv153m := CUTOK_AT (fun ρ k1 hF hI k4 => AT_of (q := q_wv153m) rfl rfl (SEM_runB kR_x kR_0 (Cs := []) (fun C hC => by cases hC) c_wi153_f (Q := w_wv153m) hv 1000 (b1 := true) (b2 := true) k_wv153m k1 hF hI k4 (fun p hp ρ3 m1 m2 m3 m4 m5 m6 => by
  rw [List.mem_singleton.mp hp] at m2 m3 m5 m6 ⊢
  have b0 := rl_lf (x := ρ.2.1 60033) (y := 0) (hF.2 _ (List.mem_cons_of_mem _ (List.mem_cons_self)))
  have b1 := rl_lf (x := 4294967295) (y := ρ.2.1 60033) (hF.2 _ (List.mem_cons_of_mem _ (List.mem_cons_of_mem _ (List.mem_cons_self))))
  have y0 : (0 : Int64).toInt = 0 := by decide +kernel
  have y1 : (4294967295 : Int64).toInt = 4294967295 := by decide +kernel
  rw [y0] at b0
  rw [y1] at b1
  have hk : evk 153 (ρ.2.1 60033).toInt = true := by
    unfold evk
    rw [et_w153]
    simp only [Bool.and_eq_true, decide_eq_true_eq]
    exact ⟨b0, b1, rfl⟩
  exact t_wE153 hv ρ3 m1 ⟨m2.1, fcn (ev_up (g := ρ.2.2.2.1 1761) (hF.2 _ (List.mem_cons_of_mem _ (List.mem_cons_of_mem _ (List.mem_cons_of_mem _ (List.mem_cons_self))))) (p := 153) (by decide) hk (fun j => ad_l (X := X) (p := 153) (t := .arg 60033) rfl (m6 _ List.mem_cons_self) j)) m2.2⟩ m3 m4)))
theorem t_wv153 {X : pX} {ρ0 : sR} (hv : vok X ρ0) : CUTOK X kR zWP c_wi153 7 ρ0 q_wv153 := CUT_mono (t_wv153m hv) (fun ρ hF hI => ⟨⟨hF.1, by
    exact fcn (decide_eq_true (show ρ.1 2848 ||| 0 = ρ.1 60192 by rw [Int32.or_zero]; exact of_decide_eq_true (hF.2 _ (List.mem_cons_of_mem _ (List.mem_cons_of_mem _ (List.mem_cons_of_mem _ (List.mem_cons_self))))))) hF.2⟩, hI⟩)
theorem e_wi153 : frun kR [] (cpl1 zWP c_wi153 [q_wv153]) (cpl2 zWP c_wi153 [q_wv153]) (cleaf kR zWP c_wi153 [q_wv153]) 300 65536 (isatP (c_wi153.2.2.2.1) c_wi153.2.2.2.2.2.2.2.1) c_wi153.2.2.2.2.2.2.2.1 (sin0 mt_all c_wi153.1.1 7 c_wi153.2.1.1 (foot zWP c_wi153.2.2.1.1)) (sin0 mt_all c_wi153.1.2.1 7 c_wi153.2.1.2 (foot zWP c_wi153.2.2.1.2)) = true := by decide +kernel
theorem s_wi153 {X : pX} : SREL X pF pdfl mt_all kR zWP c_wi153 := SREL_QC kR_x kR_0 (Cs := []) (fun C hC => by cases hC) (d := 7) rfl c_wi153_f (Q := [q_wv153]) (fun ρ0 hv => fun q hq => by
    simp only [List.mem_cons, List.not_mem_nil, or_false] at hq
    rw [hq]; exact t_wv153 hv) (QC_run 300 e_wi153)
/-! ===== a number for slot 154 ===== -/
noncomputable def c_wi154 : sC := ((5, 277, 8), ([tr 57, .int 154, .arg 60033], [tr 219, .arg 1308, .int 154]), ([57, 42, 43], [219, 223, 222, 227, 225, 226, 334, 260, 229, 220, 221, 228, 297, 302, 288]), [((0, .arg 19328, .int 4), true), ((6, .op2 .lshr (.op2 .lshl (.op2 .lor (.op2 .lor (.op2 .lor (.op2 .lor (.op2 .lshl (.op1 .i2l (.elem (.arg 2212) (.int 0))) (.int 0)) (.long 0)) (.op2 .lshl (.op1 .i2l (.elem (.arg 2212) (.int 1))) (.int 8))) (.op2 .lshl (.op1 .i2l (.elem (.arg 2212) (.int 2))) (.int 16))) (.op2 .lshl (.op1 .i2l (.elem (.arg 2212) (.int 3))) (.int 24))) (.int 32)) (.int 32), .arg 60033), true), ((8, .arg 60033, .long (-2147483648)), false), ((8, .long 2147483647, .arg 60033), false), ((101, .elem (.arg 1761) (.int 0), .int 0), true), ((0, .arg 2848, .arg 60192), true)], ([60000, 60033, 2848, 7105], [1761]), (some (.arg 60000), some (.arg 60000)), [((101, .elem (.arg 1761) (.int 0), .int 0), true), ((0, .arg 2848, .arg 60192), true)], ([], []))
theorem c_wi154_f : cfine zWP 65536 c_wi154 = true := by decide +kernel
noncomputable def q_wR154 : sCut := ((fr 0 5 23 [(4, .int 0)] [], [fBot], 7), (fr 0 277 91 [(3, .int 0)] [], [fBot], 7), [((0, .arg 2848, .arg 60192), true)], [])
noncomputable def q_wE154 : sCut := ((fr 0 5 23 [(4, .int 0)] [], [fBot], 7), (fr 0 277 91 [(3, .int 0)] [], [fBot], 7), [((101, .elem (.arg 1761) (.int 0), .int 0), true), ((0, .arg 2848, .arg 60192), true)], [])
theorem k_wE154 : cbody kR [] (cpl1 zWP c_wi154 []) (cpl2 zWP c_wi154 []) (cleaf kR zWP c_wi154 []) 30 true true q_wE154.2.2.1 q_wE154.2.2.2 (cst zWP c_wi154.2.2.1.1 q_wE154.1) (cst zWP c_wi154.2.2.1.2 q_wE154.2.1) = true := by decide +kernel
theorem t_wE154 {X : pX} {ρ0 : sR} (hv : vok X ρ0) : CUTOK X kR zWP c_wi154 7 ρ0 q_wE154 := CUT_run kR_x kR_0 (Cs := []) (fun C hC => by cases hC) c_wi154_f (Q := []) hv (fun q hq => by cases hq) 30 (b1 := true) (b2 := true) k_wE154
theorem et_w154 : evt[154]? = some (-2000000, 2000000, 0) := by decide +kernel
noncomputable def q_wv154 : sCut := ((fr 0 5 0 [(0, tr 57), (1, .int 154), (2, .arg 60033)] [], [fBot], 7), (fr 0 277 60 [(0, tr 219), (1, .arg 1308), (2, .int 154), (4, .arg 60033)] [], [fBot], 7), [((8, .arg 60033, .long (-2147483648)), false), ((8, .long 2147483647, .arg 60033), false), ((101, .elem (.arg 1761) (.int 0), .int 0), true), ((0, .arg 2848, .arg 60192), true)], [])
noncomputable def q_wv154m : sCut := ((fr 0 5 0 [(0, tr 57), (1, .int 154), (2, .arg 60033)] [], [fBot], 7), (fr 0 277 60 [(0, tr 219), (1, .arg 1308), (2, .int 154), (4, .arg 60033)] [], [fBot], 7), [((0, .op2 .ior (.arg 2848) (.int 0), .arg 60192), true), ((8, .arg 60033, .long (-2147483648)), false), ((8, .long 2147483647, .arg 60033), false), ((101, .elem (.arg 1761) (.int 0), .int 0), true), ((0, .arg 2848, .arg 60192), true)], [])
noncomputable def q_wv154my : sCut := ((fr 0 5 0 [(0, tr 57), (1, .int 154), (2, .arg 60033)] [], [fBot], 7), (fr 0 277 60 [(0, tr 219), (1, .arg 1308), (2, .int 154), (4, .arg 60033)] [], [fBot], 7), [((8, .arg 60033, .long (-2000000)), true), ((0, .op2 .ior (.arg 2848) (.int 0), .arg 60192), true), ((8, .arg 60033, .long (-2147483648)), false), ((8, .long 2147483647, .arg 60033), false), ((101, .elem (.arg 1761) (.int 0), .int 0), true), ((0, .arg 2848, .arg 60192), true)], [])
theorem k_wv154my : cbody kR [] (cpl1 zWP c_wi154 []) (cpl2 zWP c_wi154 []) (cleaf kR zWP c_wi154 []) 1000 true true q_wv154my.2.2.1 q_wv154my.2.2.2 (cst zWP c_wi154.2.2.1.1 q_wv154my.1) (cst zWP c_wi154.2.2.1.2 q_wv154my.2.1) = true := by decide +kernel
theorem t_wv154my {X : pX} {ρ0 : sR} (hv : vok X ρ0) : CUTOK X kR zWP c_wi154 7 ρ0 q_wv154my := CUT_run kR_x kR_0 (Cs := []) (fun C hC => by cases hC) c_wi154_f (Q := []) hv (fun q hq => by cases hq) 1000 (b1 := true) (b2 := true) k_wv154my
noncomputable def q_wv154mn : sCut := ((fr 0 5 0 [(0, tr 57), (1, .int 154), (2, .arg 60033)] [], [fBot], 7), (fr 0 277 60 [(0, tr 219), (1, .arg 1308), (2, .int 154), (4, .arg 60033)] [], [fBot], 7), [((8, .arg 60033, .long (-2000000)), false), ((0, .op2 .ior (.arg 2848) (.int 0), .arg 60192), true), ((8, .arg 60033, .long (-2147483648)), false), ((8, .long 2147483647, .arg 60033), false), ((101, .elem (.arg 1761) (.int 0), .int 0), true), ((0, .arg 2848, .arg 60192), true)], [])
noncomputable def q_wv154mny : sCut := ((fr 0 5 0 [(0, tr 57), (1, .int 154), (2, .arg 60033)] [], [fBot], 7), (fr 0 277 60 [(0, tr 219), (1, .arg 1308), (2, .int 154), (4, .arg 60033)] [], [fBot], 7), [((8, .long 2000000, .arg 60033), true), ((8, .arg 60033, .long (-2000000)), false), ((0, .op2 .ior (.arg 2848) (.int 0), .arg 60192), true), ((8, .arg 60033, .long (-2147483648)), false), ((8, .long 2147483647, .arg 60033), false), ((101, .elem (.arg 1761) (.int 0), .int 0), true), ((0, .arg 2848, .arg 60192), true)], [])
theorem k_wv154mny : cbody kR [] (cpl1 zWP c_wi154 []) (cpl2 zWP c_wi154 []) (cleaf kR zWP c_wi154 []) 1000 true true q_wv154mny.2.2.1 q_wv154mny.2.2.2 (cst zWP c_wi154.2.2.1.1 q_wv154mny.1) (cst zWP c_wi154.2.2.1.2 q_wv154mny.2.1) = true := by decide +kernel
theorem t_wv154mny {X : pX} {ρ0 : sR} (hv : vok X ρ0) : CUTOK X kR zWP c_wi154 7 ρ0 q_wv154mny := CUT_run kR_x kR_0 (Cs := []) (fun C hC => by cases hC) c_wi154_f (Q := []) hv (fun q hq => by cases hq) 1000 (b1 := true) (b2 := true) k_wv154mny
noncomputable def q_wv154mnn : sCut := ((fr 0 5 0 [(0, tr 57), (1, .int 154), (2, .arg 60033)] [], [fBot], 7), (fr 0 277 60 [(0, tr 219), (1, .arg 1308), (2, .int 154), (4, .arg 60033)] [], [fBot], 7), [((8, .long 2000000, .arg 60033), false), ((8, .arg 60033, .long (-2000000)), false), ((0, .op2 .ior (.arg 2848) (.int 0), .arg 60192), true), ((8, .arg 60033, .long (-2147483648)), false), ((8, .long 2147483647, .arg 60033), false), ((101, .elem (.arg 1761) (.int 0), .int 0), true), ((0, .arg 2848, .arg 60192), true)], [])
noncomputable def w_wv154mnn : List (sCut × List (Nat × sT) × List (Nat × sT × List (sT × sT))) := [(q_wR154, [], [(1761, .arg 1761, [(.int 154, .arg 60033)])])]
theorem k_wv154mnn : cbody kR [] (cpl1 zWP c_wi154 [q_wR154]) (cpl2 zWP c_wi154 [q_wR154]) (cleafB kR zWP c_wi154 w_wv154mnn) 1000 true true q_wv154mnn.2.2.1 q_wv154mnn.2.2.2 (cst zWP c_wi154.2.2.1.1 q_wv154mnn.1) (cst zWP c_wi154.2.2.1.2 q_wv154mnn.2.1) = true := by decide +kernel
theorem t_wv154mnn {X : pX} {ρ0 : sR} (hv : vok X ρ0) : CUTOK X kR zWP c_wi154 7 ρ0 q_wv154mnn := CUTOK_AT (fun ρ k1 hF hI k4 => AT_of (q := q_wv154mnn) rfl rfl (SEM_runB kR_x kR_0 (Cs := []) (fun C hC => by cases hC) c_wi154_f (Q := w_wv154mnn) hv 1000 (b1 := true) (b2 := true) k_wv154mnn k1 hF hI k4 (fun p hp ρ3 m1 m2 m3 m4 m5 m6 => by
  rw [List.mem_singleton.mp hp] at m2 m3 m5 m6 ⊢
  have b0 := rl_lf (x := ρ.2.1 60033) (y := -2000000) (hF.2 _ (List.mem_cons_of_mem _ (List.mem_cons_self)))
  have b1 := rl_lf (x := 2000000) (y := ρ.2.1 60033) (hF.2 _ (List.mem_cons_self))
  have y0 : (-2000000 : Int64).toInt = -2000000 := by decide +kernel
  have y1 : (2000000 : Int64).toInt = 2000000 := by decide +kernel
  rw [y0] at b0
  rw [y1] at b1
  have hk : evk 154 (ρ.2.1 60033).toInt = true := by
    unfold evk
    rw [et_w154]
    simp only [Bool.and_eq_true, decide_eq_true_eq]
    exact ⟨b0, b1, rfl⟩
  exact t_wE154 hv ρ3 m1 ⟨m2.1, fcn (ev_up (g := ρ.2.2.2.1 1761) (hF.2 _ (List.mem_cons_of_mem _ (List.mem_cons_of_mem _ (List.mem_cons_of_mem _ (List.mem_cons_of_mem _ (List.mem_cons_of_mem _ (List.mem_cons_self))))))) (p := 154) (by decide) hk (fun j => ad_l (X := X) (p := 154) (t := .arg 60033) rfl (m6 _ List.mem_cons_self) j)) m2.2⟩ m3 m4)))
theorem t_wv154mn {X : pX} {ρ0 : sR} (hv : vok X ρ0) : CUTOK X kR zWP c_wi154 7 ρ0 q_wv154mn := CUT_split (8, .long 2000000, .arg 60033) (t_wv154mny hv) (t_wv154mnn hv)
theorem t_wv154m {X : pX} {ρ0 : sR} (hv : vok X ρ0) : CUTOK X kR zWP c_wi154 7 ρ0 q_wv154m := CUT_split (8, .arg 60033, .long (-2000000)) (t_wv154my hv) (t_wv154mn hv)
theorem t_wv154 {X : pX} {ρ0 : sR} (hv : vok X ρ0) : CUTOK X kR zWP c_wi154 7 ρ0 q_wv154 := CUT_mono (t_wv154m hv) (fun ρ hF hI => ⟨⟨hF.1, by
    exact fcn (decide_eq_true (show ρ.1 2848 ||| 0 = ρ.1 60192 by rw [Int32.or_zero]; exact of_decide_eq_true (hF.2 _ (List.mem_cons_of_mem _ (List.mem_cons_of_mem _ (List.mem_cons_of_mem _ (List.mem_cons_self))))))) hF.2⟩, hI⟩)
theorem e_wi154 : frun kR [] (cpl1 zWP c_wi154 [q_wv154]) (cpl2 zWP c_wi154 [q_wv154]) (cleaf kR zWP c_wi154 [q_wv154]) 300 65536 (isatP (c_wi154.2.2.2.1) c_wi154.2.2.2.2.2.2.2.1) c_wi154.2.2.2.2.2.2.2.1 (sin0 mt_all c_wi154.1.1 7 c_wi154.2.1.1 (foot zWP c_wi154.2.2.1.1)) (sin0 mt_all c_wi154.1.2.1 7 c_wi154.2.1.2 (foot zWP c_wi154.2.2.1.2)) = true := by decide +kernel
theorem s_wi154 {X : pX} : SREL X pF pdfl mt_all kR zWP c_wi154 := SREL_QC kR_x kR_0 (Cs := []) (fun C hC => by cases hC) (d := 7) rfl c_wi154_f (Q := [q_wv154]) (fun ρ0 hv => fun q hq => by
    simp only [List.mem_cons, List.not_mem_nil, or_false] at hq
    rw [hq]; exact t_wv154 hv) (QC_run 300 e_wi154)
