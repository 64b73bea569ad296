set_option maxRecDepth 20000
/-! ===== the tick: cuts ===== -/
noncomputable def fT1 : List Nat := [0, 1, 2, 3, 4, 5, 6, 7, 8, 9, 10, 11, 12, 13, 14, 15, 16, 17, 18, 19, 20, 21, 22, 23, 24, 25, 26, 27, 28, 29, 30, 31, 32, 33, 34, 35, 36, 37, 38, 39, 40, 41, 42, 43, 44, 45, 46, 47, 48, 49, 50, 51, 52, 53, 54, 55, 56, 57, 58, 59, 60, 61, 62, 63, 64, 65, 66, 67, 68, 69, 70, 71, 72, 73, 74, 75, 76, 77, 78, 79, 80, 81, 82, 83, 84, 85, 86, 87, 88, 89, 90, 91, 92, 93, 94, 95, 96, 97, 98, 99, 100, 101, 102, 103, 104, 105, 106, 107, 108, 109, 110, 111, 112, 113, 114, 115, 116, 117, 118, 119, 120, 121, 122, 123, 124, 125, 126, 127, 128, 129, 130, 131, 132, 133, 134, 135, 136, 137, 138, 139, 140, 141, 142, 143, 144, 145, 146, 147, 148, 149, 150, 151, 152, 153, 154, 155, 156, 157, 158, 159, 160, 161, 162, 163, 164, 165, 166, 167, 168, 169, 170, 171, 172, 173, 174, 175, 176, 177, 178, 179, 180, 181, 182, 183, 184, 185, 186, 187, 188, 189, 190, 191, 192, 193, 194, 195, 196, 197, 198, 199, 200, 201, 202, 203, 204, 205, 206, 207, 208, 209, 210, 211, 212, 213, 214, 215, 216, 217, 218]
noncomputable def fT2 : List Nat := [219, 220, 221, 222, 223, 224, 225, 226, 227, 228, 229, 230, 231, 232, 233, 234, 235, 236, 237, 238, 239, 240, 241, 242, 243, 244, 245, 246, 247, 248, 249, 250, 251, 252, 253, 254, 255, 256, 257, 258, 259, 260, 261, 262, 263, 264, 265, 266, 267, 268, 269, 270, 271, 272, 273, 274, 275, 276, 277, 278, 279, 280, 281, 282, 283, 284, 285, 286, 287, 288, 289, 290, 291, 292, 293, 294, 295, 296, 297, 298, 299, 300, 301, 302, 303, 304, 305, 306, 307, 308, 309, 310, 311, 312, 313, 314, 315, 316, 317, 318, 319, 320, 321, 322, 323, 324, 325, 326, 327, 328, 329, 330, 331, 332, 333, 334, 335, 336, 337, 338, 339, 340, 341, 342, 343, 344, 345, 346, 347]
noncomputable def RPt (X : pX) (J : sR → List Value → List Value → Prop) (ρ : sR) (x : (sF × List sF × Nat) × (sF × List sF × Nat)) : Prop := RelP X pF pdfl mt_all 19 20 (foot zT fT1) (foot zT fT2) J ρ (cst zT fT1 x.1) (cst zT fT2 x.2)
theorem z_T1 : hall (vltE 60000) 9 (foot zT fT1).1 = true := by decide +kernel
theorem z_T2 : hall (vltE 60000) 9 (foot zT fT2).1 = true := by decide +kernel
theorem RPt_ag {X : pX} {J : sR → List Value → List Value → Prop} {ρ ρ' : sR} {x : (sF × List sF × Nat) × (sF × List sF × Nat)} (ag : agr 60000 ρ' ρ) (h : ((x.1.1 :: x.1.2.1).all (vltF 60000) && (x.2.1 :: x.2.2.1).all (vltF 60000)) = true) (hh : RPt X J ρ' x) : RPt X J ρ x := by
  simp only [Bool.and_eq_true] at h
  exact RelP_agq (n := 60000) (ρ2 := ρ') (ρ := ρ) ag h.1 z_T1 h.2 z_T2 hh
noncomputable def tA : (sF × List sF × Nat) × (sF × List sF × Nat) := ((fr 0 175 8 [(0, tr 0), (1, .arg 59968), (2, .arg 59936)] [], [fBot], 18), (fr 0 400 17 [(0, tr 219), (1, .arg 59968), (2, .arg 59936)] [], [fBot], 19))
noncomputable def tC0 : (sF × List sF × Nat) × (sF × List sF × Nat) := ((fr 0 175 16 [(0, tr 0), (1, .arg 59968), (2, .arg 59936), (3, .int 0)] [], [fBot], 18), (fr 0 399 4 [(0, tr 219), (1, .int 0)] [], [fr 0 400 22 [(0, tr 219), (1, .arg 59968), (2, .arg 59936)] [], fBot], 18))
noncomputable def tC1 : (sF × List sF × Nat) × (sF × List sF × Nat) := ((fr 0 175 16 [(0, tr 0), (1, .arg 59968), (2, .arg 59936), (3, .int 1)] [], [fBot], 18), (fr 0 399 4 [(0, tr 219), (1, .int 1)] [], [fr 0 400 22 [(0, tr 219), (1, .arg 59968), (2, .arg 59936)] [], fBot], 18))
noncomputable def tC2 : (sF × List sF × Nat) × (sF × List sF × Nat) := ((fr 0 175 16 [(0, tr 0), (1, .arg 59968), (2, .arg 59936), (3, .int 2)] [], [fBot], 18), (fr 0 399 4 [(0, tr 219), (1, .int 2)] [], [fr 0 400 22 [(0, tr 219), (1, .arg 59968), (2, .arg 59936)] [], fBot], 18))
noncomputable def tC3 : (sF × List sF × Nat) × (sF × List sF × Nat) := ((fr 0 175 16 [(0, tr 0), (1, .arg 59968), (2, .arg 59936), (3, .int 3)] [], [fBot], 18), (fr 0 399 4 [(0, tr 219), (1, .int 3)] [], [fr 0 400 22 [(0, tr 219), (1, .arg 59968), (2, .arg 59936)] [], fBot], 18))
noncomputable def tC4 : (sF × List sF × Nat) × (sF × List sF × Nat) := ((fr 0 175 16 [(0, tr 0), (1, .arg 59968), (2, .arg 59936), (3, .int 4)] [], [fBot], 18), (fr 0 399 4 [(0, tr 219), (1, .int 4)] [], [fr 0 400 22 [(0, tr 219), (1, .arg 59968), (2, .arg 59936)] [], fBot], 18))
noncomputable def tG0 : (sF × List sF × Nat) × (sF × List sF × Nat) := ((fr 0 176 2 [(0, tr 0), (1, .int 0)] [], [fr 0 175 37 [(0, tr 0), (1, .arg 59968), (2, .arg 59936), (3, .int 4)] [], fBot], 17), (fr 0 399 21 [(0, tr 219), (1, .int 0)] [], [fr 0 400 22 [(0, tr 219), (1, .arg 59968), (2, .arg 59936)] [], fBot], 18))
noncomputable def tG1 : (sF × List sF × Nat) × (sF × List sF × Nat) := ((fr 0 176 2 [(0, tr 0), (1, .int 1)] [], [fr 0 175 37 [(0, tr 0), (1, .arg 59968), (2, .arg 59936), (3, .int 4)] [], fBot], 17), (fr 0 399 21 [(0, tr 219), (1, .int 1)] [], [fr 0 400 22 [(0, tr 219), (1, .arg 59968), (2, .arg 59936)] [], fBot], 18))
noncomputable def tG2 : (sF × List sF × Nat) × (sF × List sF × Nat) := ((fr 0 176 2 [(0, tr 0), (1, .int 2)] [], [fr 0 175 37 [(0, tr 0), (1, .arg 59968), (2, .arg 59936), (3, .int 4)] [], fBot], 17), (fr 0 399 21 [(0, tr 219), (1, .int 2)] [], [fr 0 400 22 [(0, tr 219), (1, .arg 59968), (2, .arg 59936)] [], fBot], 18))
noncomputable def tG3 : (sF × List sF × Nat) × (sF × List sF × Nat) := ((fr 0 176 2 [(0, tr 0), (1, .int 3)] [], [fr 0 175 37 [(0, tr 0), (1, .arg 59968), (2, .arg 59936), (3, .int 4)] [], fBot], 17), (fr 0 399 21 [(0, tr 219), (1, .int 3)] [], [fr 0 400 22 [(0, tr 219), (1, .arg 59968), (2, .arg 59936)] [], fBot], 18))
noncomputable def tG4 : (sF × List sF × Nat) × (sF × List sF × Nat) := ((fr 0 176 2 [(0, tr 0), (1, .int 4)] [], [fr 0 175 37 [(0, tr 0), (1, .arg 59968), (2, .arg 59936), (3, .int 4)] [], fBot], 17), (fr 0 399 21 [(0, tr 219), (1, .int 4)] [], [fr 0 400 22 [(0, tr 219), (1, .arg 59968), (2, .arg 59936)] [], fBot], 18))
noncomputable def tG5 : (sF × List sF × Nat) × (sF × List sF × Nat) := ((fr 0 176 2 [(0, tr 0), (1, .int 5)] [], [fr 0 175 37 [(0, tr 0), (1, .arg 59968), (2, .arg 59936), (3, .int 4)] [], fBot], 17), (fr 0 399 21 [(0, tr 219), (1, .int 5)] [], [fr 0 400 22 [(0, tr 219), (1, .arg 59968), (2, .arg 59936)] [], fBot], 18))
noncomputable def cD_st : sC := ((175, 400, 20), ([tr 0, .arg 59968], [tr 219, .arg 59968]), (fT1, fT2), [], ([59936, 19232], []), (none, none), [], ([], []))
theorem cD_st_f : cfine zT 65536 cD_st = true := by decide +kernel
noncomputable def f_tst : sFs := [((2, .arg 59968, .int 0), false), ((2, .int 200, .arg 59968), false)]
noncomputable def p_tst : sCut := (tA.1, tA.2, [((0, .arg 59936, .int 0), true), ((0, .arg 19232, .int 0), true)], [])
theorem e_tst : frun kR [] (cpl1 zT cD_st [p_tst]) (cpl2 zT cD_st [p_tst]) (cleafN kR zT cD_st [p_tst]) 100 65536 (isatP f_tst []) [] (sin0 mt_all cD_st.1.1 18 cD_st.2.1.1 (foot zT cD_st.2.2.1.1)) (sin0 mt_all cD_st.1.2.1 19 cD_st.2.1.2 (foot zT cD_st.2.2.1.2)) = true := by decide +kernel
noncomputable def cD_en : sC := ((175, 400, 20), ([tr 0, .arg 59968], [tr 219, .arg 59968]), (fT1, fT2), [], ([], []), (none, none), [], ([], []))
theorem cD_en_f : cfine zT 65536 cD_en = true := by decide +kernel
noncomputable def q_ten : sCut := (tA.1, tA.2, [((2, .arg 59936, .arg 59968), false)], [])
theorem k_ten : cbody kR [] [] [] (lendP kR zT cD_en.2.2.1.1 cD_en.2.2.1.2 [.arg 1280] [.arg 1280]) 100 true true q_ten.2.2.1 q_ten.2.2.2 (cst zT cD_en.2.2.1.1 q_ten.1) (cst zT cD_en.2.2.1.2 q_ten.2.1) = true := by decide +kernel
noncomputable def cD_ck : sC := ((175, 400, 20), ([tr 0, .arg 59968], [tr 219, .arg 59968]), (fT1, fT2), [], ([1280, 59936], []), (none, none), [], ([], []))
theorem cD_ck_f : cfine zT 65536 cD_ck = true := by decide +kernel
noncomputable def q_tck : sCut := (tG5.1, tG5.2, [((0, .add (.arg 1280) (.int 1), .add (.arg 60896) (.int 1)), true), ((0, .add (.arg 59936) (.int 1), .add (.arg 60928) (.int 1)), true)], [])
noncomputable def p_tck : sCut := (tA.1, tA.2, [((0, .arg 1280, .add (.arg 60896) (.int 1)), true), ((0, .arg 59936, .add (.arg 60928) (.int 1)), true)], [])
theorem k_tck : cbody kR [] (cpl1 zT cD_ck [p_tck]) (cpl2 zT cD_ck [p_tck]) (cleafN kR zT cD_ck [p_tck]) 100 true true q_tck.2.2.1 q_tck.2.2.2 (cst zT cD_ck.2.2.1.1 q_tck.1) (cst zT cD_ck.2.2.1.2 q_tck.2.1) = true := by decide +kernel
theorem r_tck {X : pX} {J : sR → List Value → List Value → Prop} {ρ : sR} (k1 : kok X ρ kR) (k2 : fok X ρ q_tck.2.2.1) (k3 : iok X ρ q_tck.2.2.2) (hQ : ∀ ρ3 : sR, kok X ρ3 kR → fok X ρ3 p_tck.2.2.1 → iok X ρ3 p_tck.2.2.2 → agrM 65536 cD_ck.2.2.2.2.1.1 cD_ck.2.2.2.2.1.2 ρ3 ρ → RPt X J ρ3 tA) : RPt X J ρ tG5 := CUT_P kR_x kR_0 (Cs := []) (fun C hC => by cases hC) cD_ck_f (Q := [p_tck]) 100 k_tck k1 k2 k3 (fun p hp => by rw [List.mem_singleton.mp hp]; exact hQ)
noncomputable def cD_of0 : sC := ((175, 400, 20), ([tr 0, .arg 59968], [tr 219, .arg 59968]), (fT1, fT2), [], ([], []), (none, none), [], ([], []))
theorem cD_of0_f : cfine zT 65536 cD_of0 = true := by decide +kernel
noncomputable def q_tof0 : sCut := (tC0.1, tC0.2, [((0, .arg 1282, .int 0), true)], [])
noncomputable def p_tof0 : sCut := (tC1.1, tC1.2, [], [])
theorem k_tof0 : cbody kR [] (cpl1 zT cD_of0 [p_tof0]) (cpl2 zT cD_of0 [p_tof0]) (cleafN kR zT cD_of0 [p_tof0]) 60 true true q_tof0.2.2.1 q_tof0.2.2.2 (cst zT cD_of0.2.2.1.1 q_tof0.1) (cst zT cD_of0.2.2.1.2 q_tof0.2.1) = true := by decide +kernel
theorem r_tof0 {X : pX} {J : sR → List Value → List Value → Prop} {ρ : sR} (k1 : kok X ρ kR) (k2 : fok X ρ q_tof0.2.2.1) (k3 : iok X ρ q_tof0.2.2.2) (hQ : ∀ ρ3 : sR, kok X ρ3 kR → fok X ρ3 p_tof0.2.2.1 → iok X ρ3 p_tof0.2.2.2 → agrM 65536 cD_of0.2.2.2.2.1.1 cD_of0.2.2.2.2.1.2 ρ3 ρ → RPt X J ρ3 tC1) : RPt X J ρ tC0 := CUT_P kR_x kR_0 (Cs := []) (fun C hC => by cases hC) cD_of0_f (Q := [p_tof0]) 60 k_tof0 k1 k2 k3 (fun p hp => by rw [List.mem_singleton.mp hp]; exact hQ)
noncomputable def cD_of1 : sC := ((175, 400, 20), ([tr 0, .arg 59968], [tr 219, .arg 59968]), (fT1, fT2), [], ([], []), (none, none), [], ([], []))
theorem cD_of1_f : cfine zT 65536 cD_of1 = true := by decide +kernel
noncomputable def q_tof1 : sCut := (tC1.1, tC1.2, [((0, .arg 1314, .int 0), true)], [])
noncomputable def p_tof1 : sCut := (tC2.1, tC2.2, [], [])
theorem k_tof1 : cbody kR [] (cpl1 zT cD_of1 [p_tof1]) (cpl2 zT cD_of1 [p_tof1]) (cleafN kR zT cD_of1 [p_tof1]) 60 true true q_tof1.2.2.1 q_tof1.2.2.2 (cst zT cD_of1.2.2.1.1 q_tof1.1) (cst zT cD_of1.2.2.1.2 q_tof1.2.1) = true := by decide +kernel
theorem r_tof1 {X : pX} {J : sR → List Value → List Value → Prop} {ρ : sR} (k1 : kok X ρ kR) (k2 : fok X ρ q_tof1.2.2.1) (k3 : iok X ρ q_tof1.2.2.2) (hQ : ∀ ρ3 : sR, kok X ρ3 kR → fok X ρ3 p_tof1.2.2.1 → iok X ρ3 p_tof1.2.2.2 → agrM 65536 cD_of1.2.2.2.2.1.1 cD_of1.2.2.2.2.1.2 ρ3 ρ → RPt X J ρ3 tC2) : RPt X J ρ tC1 := CUT_P kR_x kR_0 (Cs := []) (fun C hC => by cases hC) cD_of1_f (Q := [p_tof1]) 60 k_tof1 k1 k2 k3 (fun p hp => by rw [List.mem_singleton.mp hp]; exact hQ)
noncomputable def cD_of2 : sC := ((175, 400, 20), ([tr 0, .arg 59968], [tr 219, .arg 59968]), (fT1, fT2), [], ([], []), (none, none), [], ([], []))
theorem cD_of2_f : cfine zT 65536 cD_of2 = true := by decide +kernel
noncomputable def q_tof2 : sCut := (tC2.1, tC2.2, [((0, .arg 1346, .int 0), true)], [])
noncomputable def p_tof2 : sCut := (tC3.1, tC3.2, [], [])
theorem k_tof2 : cbody kR [] (cpl1 zT cD_of2 [p_tof2]) (cpl2 zT cD_of2 [p_tof2]) (cleafN kR zT cD_of2 [p_tof2]) 60 true true q_tof2.2.2.1 q_tof2.2.2.2 (cst zT cD_of2.2.2.1.1 q_tof2.1) (cst zT cD_of2.2.2.1.2 q_tof2.2.1) = true := by decide +kernel
theorem r_tof2 {X : pX} {J : sR → List Value → List Value → Prop} {ρ : sR} (k1 : kok X ρ kR) (k2 : fok X ρ q_tof2.2.2.1) (k3 : iok X ρ q_tof2.2.2.2) (hQ : ∀ ρ3 : sR, kok X ρ3 kR → fok X ρ3 p_tof2.2.2.1 → iok X ρ3 p_tof2.2.2.2 → agrM 65536 cD_of2.2.2.2.2.1.1 cD_of2.2.2.2.2.1.2 ρ3 ρ → RPt X J ρ3 tC3) : RPt X J ρ tC2 := CUT_P kR_x kR_0 (Cs := []) (fun C hC => by cases hC) cD_of2_f (Q := [p_tof2]) 60 k_tof2 k1 k2 k3 (fun p hp => by rw [List.mem_singleton.mp hp]; exact hQ)
noncomputable def cD_of3 : sC := ((175, 400, 20), ([tr 0, .arg 59968], [tr 219, .arg 59968]), (fT1, fT2), [], ([], []), (none, none), [], ([], []))
theorem cD_of3_f : cfine zT 65536 cD_of3 = true := by decide +kernel
noncomputable def q_tof3 : sCut := (tC3.1, tC3.2, [((0, .arg 1378, .int 0), true)], [])
noncomputable def p_tof3 : sCut := (tC4.1, tC4.2, [], [])
theorem k_tof3 : cbody kR [] (cpl1 zT cD_of3 [p_tof3]) (cpl2 zT cD_of3 [p_tof3]) (cleafN kR zT cD_of3 [p_tof3]) 60 true true q_tof3.2.2.1 q_tof3.2.2.2 (cst zT cD_of3.2.2.1.1 q_tof3.1) (cst zT cD_of3.2.2.1.2 q_tof3.2.1) = true := by decide +kernel
theorem r_tof3 {X : pX} {J : sR → List Value → List Value → Prop} {ρ : sR} (k1 : kok X ρ kR) (k2 : fok X ρ q_tof3.2.2.1) (k3 : iok X ρ q_tof3.2.2.2) (hQ : ∀ ρ3 : sR, kok X ρ3 kR → fok X ρ3 p_tof3.2.2.1 → iok X ρ3 p_tof3.2.2.2 → agrM 65536 cD_of3.2.2.2.2.1.1 cD_of3.2.2.2.2.1.2 ρ3 ρ → RPt X J ρ3 tC4) : RPt X J ρ tC3 := CUT_P kR_x kR_0 (Cs := []) (fun C hC => by cases hC) cD_of3_f (Q := [p_tof3]) 60 k_tof3 k1 k2 k3 (fun p hp => by rw [List.mem_singleton.mp hp]; exact hQ)
noncomputable def cD_gn0 : sC := ((175, 400, 20), ([tr 0, .arg 59968], [tr 219, .arg 59968]), (fT1, fT2), [], ([], []), (none, none), [], ([], []))
theorem cD_gn0_f : cfine zT 65536 cD_gn0 = true := by decide +kernel
noncomputable def q_tgn0 : sCut := (tG0.1, tG0.2, [((0, .arg 1410, .int 0), true)], [])
noncomputable def p_tgn0 : sCut := (tG1.1, tG1.2, [], [])
theorem k_tgn0 : cbody kR [] (cpl1 zT cD_gn0 [p_tgn0]) (cpl2 zT cD_gn0 [p_tgn0]) (cleafN kR zT cD_gn0 [p_tgn0]) 100 true true q_tgn0.2.2.1 q_tgn0.2.2.2 (cst zT cD_gn0.2.2.1.1 q_tgn0.1) (cst zT cD_gn0.2.2.1.2 q_tgn0.2.1) = true := by decide +kernel
theorem r_tgn0 {X : pX} {J : sR → List Value → List Value → Prop} {ρ : sR} (k1 : kok X ρ kR) (k2 : fok X ρ q_tgn0.2.2.1) (k3 : iok X ρ q_tgn0.2.2.2) (hQ : ∀ ρ3 : sR, kok X ρ3 kR → fok X ρ3 p_tgn0.2.2.1 → iok X ρ3 p_tgn0.2.2.2 → agrM 65536 cD_gn0.2.2.2.2.1.1 cD_gn0.2.2.2.2.1.2 ρ3 ρ → RPt X J ρ3 tG1) : RPt X J ρ tG0 := CUT_P kR_x kR_0 (Cs := []) (fun C hC => by cases hC) cD_gn0_f (Q := [p_tgn0]) 100 k_tgn0 k1 k2 k3 (fun p hp => by rw [List.mem_singleton.mp hp]; exact hQ)
noncomputable def cD_gn1 : sC := ((175, 400, 20), ([tr 0, .arg 59968], [tr 219, .arg 59968]), (fT1, fT2), [], ([], []), (none, none), [], ([], []))
theorem cD_gn1_f : cfine zT 65536 cD_gn1 = true := by decide +kernel
noncomputable def q_tgn1 : sCut := (tG1.1, tG1.2, [((0, .arg 1442, .int 0), true)], [])
noncomputable def p_tgn1 : sCut := (tG2.1, tG2.2, [], [])
theorem k_tgn1 : cbody kR [] (cpl1 zT cD_gn1 [p_tgn1]) (cpl2 zT cD_gn1 [p_tgn1]) (cleafN kR zT cD_gn1 [p_tgn1]) 100 true true q_tgn1.2.2.1 q_tgn1.2.2.2 (cst zT cD_gn1.2.2.1.1 q_tgn1.1) (cst zT cD_gn1.2.2.1.2 q_tgn1.2.1) = true := by decide +kernel
theorem r_tgn1 {X : pX} {J : sR → List Value → List Value → Prop} {ρ : sR} (k1 : kok X ρ kR) (k2 : fok X ρ q_tgn1.2.2.1) (k3 : iok X ρ q_tgn1.2.2.2) (hQ : ∀ ρ3 : sR, kok X ρ3 kR → fok X ρ3 p_tgn1.2.2.1 → iok X ρ3 p_tgn1.2.2.2 → agrM 65536 cD_gn1.2.2.2.2.1.1 cD_gn1.2.2.2.2.1.2 ρ3 ρ → RPt X J ρ3 tG2) : RPt X J ρ tG1 := CUT_P kR_x kR_0 (Cs := []) (fun C hC => by cases hC) cD_gn1_f (Q := [p_tgn1]) 100 k_tgn1 k1 k2 k3 (fun p hp => by rw [List.mem_singleton.mp hp]; exact hQ)
noncomputable def cD_gn2 : sC := ((175, 400, 20), ([tr 0, .arg 59968], [tr 219, .arg 59968]), (fT1, fT2), [], ([], []), (none, none), [], ([], []))
theorem cD_gn2_f : cfine zT 65536 cD_gn2 = true := by decide +kernel
noncomputable def q_tgn2 : sCut := (tG2.1, tG2.2, [((0, .arg 1474, .int 0), true)], [])
noncomputable def p_tgn2 : sCut := (tG3.1, tG3.2, [], [])
theorem k_tgn2 : cbody kR [] (cpl1 zT cD_gn2 [p_tgn2]) (cpl2 zT cD_gn2 [p_tgn2]) (cleafN kR zT cD_gn2 [p_tgn2]) 100 true true q_tgn2.2.2.1 q_tgn2.2.2.2 (cst zT cD_gn2.2.2.1.1 q_tgn2.1) (cst zT cD_gn2.2.2.1.2 q_tgn2.2.1) = true := by decide +kernel
theorem r_tgn2 {X : pX} {J : sR → List Value → List Value → Prop} {ρ : sR} (k1 : kok X ρ kR) (k2 : fok X ρ q_tgn2.2.2.1) (k3 : iok X ρ q_tgn2.2.2.2) (hQ : ∀ ρ3 : sR, kok X ρ3 kR → fok X ρ3 p_tgn2.2.2.1 → iok X ρ3 p_tgn2.2.2.2 → agrM 65536 cD_gn2.2.2.2.2.1.1 cD_gn2.2.2.2.2.1.2 ρ3 ρ → RPt X J ρ3 tG3) : RPt X J ρ tG2 := CUT_P kR_x kR_0 (Cs := []) (fun C hC => by cases hC) cD_gn2_f (Q := [p_tgn2]) 100 k_tgn2 k1 k2 k3 (fun p hp => by rw [List.mem_singleton.mp hp]; exact hQ)
noncomputable def cD_gn3 : sC := ((175, 400, 20), ([tr 0, .arg 59968], [tr 219, .arg 59968]), (fT1, fT2), [], ([], []), (none, none), [], ([], []))
theorem cD_gn3_f : cfine zT 65536 cD_gn3 = true := by decide +kernel
noncomputable def q_tgn3 : sCut := (tG3.1, tG3.2, [((0, .arg 1506, .int 0), true)], [])
noncomputable def p_tgn3 : sCut := (tG4.1, tG4.2, [], [])
theorem k_tgn3 : cbody kR [] (cpl1 zT cD_gn3 [p_tgn3]) (cpl2 zT cD_gn3 [p_tgn3]) (cleafN kR zT cD_gn3 [p_tgn3]) 100 true true q_tgn3.2.2.1 q_tgn3.2.2.2 (cst zT cD_gn3.2.2.1.1 q_tgn3.1) (cst zT cD_gn3.2.2.1.2 q_tgn3.2.1) = true := by decide +kernel
theorem r_tgn3 {X : pX} {J : sR → List Value → List Value → Prop} {ρ : sR} (k1 : kok X ρ kR) (k2 : fok X ρ q_tgn3.2.2.1) (k3 : iok X ρ q_tgn3.2.2.2) (hQ : ∀ ρ3 : sR, kok X ρ3 kR → fok X ρ3 p_tgn3.2.2.1 → iok X ρ3 p_tgn3.2.2.2 → agrM 65536 cD_gn3.2.2.2.2.1.1 cD_gn3.2.2.2.2.1.2 ρ3 ρ → RPt X J ρ3 tG4) : RPt X J ρ tG3 := CUT_P kR_x kR_0 (Cs := []) (fun C hC => by cases hC) cD_gn3_f (Q := [p_tgn3]) 100 k_tgn3 k1 k2 k3 (fun p hp => by rw [List.mem_singleton.mp hp]; exact hQ)
noncomputable def cD_gn4 : sC := ((175, 400, 20), ([tr 0, .arg 59968], [tr 219, .arg 59968]), (fT1, fT2), [], ([], []), (none, none), [], ([], []))
theorem cD_gn4_f : cfine zT 65536 cD_gn4 = true := by decide +kernel
noncomputable def q_tgn4 : sCut := (tG4.1, tG4.2, [((0, .arg 1538, .int 0), true)], [])
noncomputable def p_tgn4 : sCut := (tG5.1, tG5.2, [], [])
theorem k_tgn4 : cbody kR [] (cpl1 zT cD_gn4 [p_tgn4]) (cpl2 zT cD_gn4 [p_tgn4]) (cleafN kR zT cD_gn4 [p_tgn4]) 100 true true q_tgn4.2.2.1 q_tgn4.2.2.2 (cst zT cD_gn4.2.2.1.1 q_tgn4.1) (cst zT cD_gn4.2.2.1.2 q_tgn4.2.1) = true := by decide +kernel
theorem r_tgn4 {X : pX} {J : sR → List Value → List Value → Prop} {ρ : sR} (k1 : kok X ρ kR) (k2 : fok X ρ q_tgn4.2.2.1) (k3 : iok X ρ q_tgn4.2.2.2) (hQ : ∀ ρ3 : sR, kok X ρ3 kR → fok X ρ3 p_tgn4.2.2.1 → iok X ρ3 p_tgn4.2.2.2 → agrM 65536 cD_gn4.2.2.2.2.1.1 cD_gn4.2.2.2.2.1.2 ρ3 ρ → RPt X J ρ3 tG5) : RPt X J ρ tG4 := CUT_P kR_x kR_0 (Cs := []) (fun C hC => by cases hC) cD_gn4_f (Q := [p_tgn4]) 100 k_tgn4 k1 k2 k3 (fun p hp => by rw [List.mem_singleton.mp hp]; exact hQ)
noncomputable def cD_ge0 : sC := ((175, 400, 20), ([tr 0, .arg 59968], [tr 219, .arg 59968]), (fT1, fT2), [], ([], []), (none, none), [], ([], []))
theorem cD_ge0_f : cfine zT 65536 cD_ge0 = true := by decide +kernel
noncomputable def q_tge0 : sCut := (tG0.1, tG0.2, [((0, .arg 1410, .int 0), false), ((2, .sub (.arg 1280) (.arg 1888), .int 128), true)], [])
noncomputable def p_tge0 : sCut := (tG1.1, tG1.2, [], [])
theorem k_tge0 : cbody kR [] (cpl1 zT cD_ge0 [p_tge0]) (cpl2 zT cD_ge0 [p_tge0]) (cleafN kR zT cD_ge0 [p_tge0]) 100 true true q_tge0.2.2.1 q_tge0.2.2.2 (cst zT cD_ge0.2.2.1.1 q_tge0.1) (cst zT cD_ge0.2.2.1.2 q_tge0.2.1) = true := by decide +kernel
theorem r_tge0 {X : pX} {J : sR → List Value → List Value → Prop} {ρ : sR} (k1 : kok X ρ kR) (k2 : fok X ρ q_tge0.2.2.1) (k3 : iok X ρ q_tge0.2.2.2) (hQ : ∀ ρ3 : sR, kok X ρ3 kR → fok X ρ3 p_tge0.2.2.1 → iok X ρ3 p_tge0.2.2.2 → agrM 65536 cD_ge0.2.2.2.2.1.1 cD_ge0.2.2.2.2.1.2 ρ3 ρ → RPt X J ρ3 tG1) : RPt X J ρ tG0 := CUT_P kR_x kR_0 (Cs := []) (fun C hC => by cases hC) cD_ge0_f (Q := [p_tge0]) 100 k_tge0 k1 k2 k3 (fun p hp => by rw [List.mem_singleton.mp hp]; exact hQ)
noncomputable def cD_ge1 : sC := ((175, 400, 20), ([tr 0, .arg 59968], [tr 219, .arg 59968]), (fT1, fT2), [], ([], []), (none, none), [], ([], []))
theorem cD_ge1_f : cfine zT 65536 cD_ge1 = true := by decide +kernel
noncomputable def q_tge1 : sCut := (tG1.1, tG1.2, [((0, .arg 1442, .int 0), false), ((2, .sub (.arg 1280) (.arg 1920), .int 128), true)], [])
noncomputable def p_tge1 : sCut := (tG2.1, tG2.2, [], [])
theorem k_tge1 : cbody kR [] (cpl1 zT cD_ge1 [p_tge1]) (cpl2 zT cD_ge1 [p_tge1]) (cleafN kR zT cD_ge1 [p_tge1]) 100 true true q_tge1.2.2.1 q_tge1.2.2.2 (cst zT cD_ge1.2.2.1.1 q_tge1.1) (cst zT cD_ge1.2.2.1.2 q_tge1.2.1) = true := by decide +kernel
theorem r_tge1 {X : pX} {J : sR → List Value → List Value → Prop} {ρ : sR} (k1 : kok X ρ kR) (k2 : fok X ρ q_tge1.2.2.1) (k3 : iok X ρ q_tge1.2.2.2) (hQ : ∀ ρ3 : sR, kok X ρ3 kR → fok X ρ3 p_tge1.2.2.1 → iok X ρ3 p_tge1.2.2.2 → agrM 65536 cD_ge1.2.2.2.2.1.1 cD_ge1.2.2.2.2.1.2 ρ3 ρ → RPt X J ρ3 tG2) : RPt X J ρ tG1 := CUT_P kR_x kR_0 (Cs := []) (fun C hC => by cases hC) cD_ge1_f (Q := [p_tge1]) 100 k_tge1 k1 k2 k3 (fun p hp => by rw [List.mem_singleton.mp hp]; exact hQ)
noncomputable def cD_ge2 : sC := ((175, 400, 20), ([tr 0, .arg 59968], [tr 219, .arg 59968]), (fT1, fT2), [], ([], []), (none, none), [], ([], []))
theorem cD_ge2_f : cfine zT 65536 cD_ge2 = true := by decide +kernel
noncomputable def q_tge2 : sCut := (tG2.1, tG2.2, [((0, .arg 1474, .int 0), false), ((2, .sub (.arg 1280) (.arg 1952), .int 128), true)], [])
noncomputable def p_tge2 : sCut := (tG3.1, tG3.2, [], [])
theorem k_tge2 : cbody kR [] (cpl1 zT cD_ge2 [p_tge2]) (cpl2 zT cD_ge2 [p_tge2]) (cleafN kR zT cD_ge2 [p_tge2]) 100 true true q_tge2.2.2.1 q_tge2.2.2.2 (cst zT cD_ge2.2.2.1.1 q_tge2.1) (cst zT cD_ge2.2.2.1.2 q_tge2.2.1) = true := by decide +kernel
theorem r_tge2 {X : pX} {J : sR → List Value → List Value → Prop} {ρ : sR} (k1 : kok X ρ kR) (k2 : fok X ρ q_tge2.2.2.1) (k3 : iok X ρ q_tge2.2.2.2) (hQ : ∀ ρ3 : sR, kok X ρ3 kR → fok X ρ3 p_tge2.2.2.1 → iok X ρ3 p_tge2.2.2.2 → agrM 65536 cD_ge2.2.2.2.2.1.1 cD_ge2.2.2.2.2.1.2 ρ3 ρ → RPt X J ρ3 tG3) : RPt X J ρ tG2 := CUT_P kR_x kR_0 (Cs := []) (fun C hC => by cases hC) cD_ge2_f (Q := [p_tge2]) 100 k_tge2 k1 k2 k3 (fun p hp => by rw [List.mem_singleton.mp hp]; exact hQ)
noncomputable def cD_ge3 : sC := ((175, 400, 20), ([tr 0, .arg 59968], [tr 219, .arg 59968]), (fT1, fT2), [], ([], []), (none, none), [], ([], []))
theorem cD_ge3_f : cfine zT 65536 cD_ge3 = true := by decide +kernel
noncomputable def q_tge3 : sCut := (tG3.1, tG3.2, [((0, .arg 1506, .int 0), false), ((2, .sub (.arg 1280) (.arg 1984), .int 128), true)], [])
noncomputable def p_tge3 : sCut := (tG4.1, tG4.2, [], [])
theorem k_tge3 : cbody kR [] (cpl1 zT cD_ge3 [p_tge3]) (cpl2 zT cD_ge3 [p_tge3]) (cleafN kR zT cD_ge3 [p_tge3]) 100 true true q_tge3.2.2.1 q_tge3.2.2.2 (cst zT cD_ge3.2.2.1.1 q_tge3.1) (cst zT cD_ge3.2.2.1.2 q_tge3.2.1) = true := by decide +kernel
theorem r_tge3 {X : pX} {J : sR → List Value → List Value → Prop} {ρ : sR} (k1 : kok X ρ kR) (k2 : fok X ρ q_tge3.2.2.1) (k3 : iok X ρ q_tge3.2.2.2) (hQ : ∀ ρ3 : sR, kok X ρ3 kR → fok X ρ3 p_tge3.2.2.1 → iok X ρ3 p_tge3.2.2.2 → agrM 65536 cD_ge3.2.2.2.2.1.1 cD_ge3.2.2.2.2.1.2 ρ3 ρ → RPt X J ρ3 tG4) : RPt X J ρ tG3 := CUT_P kR_x kR_0 (Cs := []) (fun C hC => by cases hC) cD_ge3_f (Q := [p_tge3]) 100 k_tge3 k1 k2 k3 (fun p hp => by rw [List.mem_singleton.mp hp]; exact hQ)
noncomputable def cD_ge4 : sC := ((175, 400, 20), ([tr 0, .arg 59968], [tr 219, .arg 59968]), (fT1, fT2), [], ([], []), (none, none), [], ([], []))
theorem cD_ge4_f : cfine zT 65536 cD_ge4 = true := by decide +kernel
noncomputable def q_tge4 : sCut := (tG4.1, tG4.2, [((0, .arg 1538, .int 0), false), ((2, .sub (.arg 1280) (.arg 2016), .int 128), true)], [])
noncomputable def p_tge4 : sCut := (tG5.1, tG5.2, [], [])
theorem k_tge4 : cbody kR [] (cpl1 zT cD_ge4 [p_tge4]) (cpl2 zT cD_ge4 [p_tge4]) (cleafN kR zT cD_ge4 [p_tge4]) 100 true true q_tge4.2.2.1 q_tge4.2.2.2 (cst zT cD_ge4.2.2.1.1 q_tge4.1) (cst zT cD_ge4.2.2.1.2 q_tge4.2.1) = true := by decide +kernel
theorem r_tge4 {X : pX} {J : sR → List Value → List Value → Prop} {ρ : sR} (k1 : kok X ρ kR) (k2 : fok X ρ q_tge4.2.2.1) (k3 : iok X ρ q_tge4.2.2.2) (hQ : ∀ ρ3 : sR, kok X ρ3 kR → fok X ρ3 p_tge4.2.2.1 → iok X ρ3 p_tge4.2.2.2 → agrM 65536 cD_ge4.2.2.2.2.1.1 cD_ge4.2.2.2.2.1.2 ρ3 ρ → RPt X J ρ3 tG5) : RPt X J ρ tG4 := CUT_P kR_x kR_0 (Cs := []) (fun C hC => by cases hC) cD_ge4_f (Q := [p_tge4]) 100 k_tge4 k1 k2 k3 (fun p hp => by rw [List.mem_singleton.mp hp]; exact hQ)
noncomputable def cD_gb4 : sC := ((175, 400, 20), ([tr 0, .arg 59968], [tr 219, .arg 59968]), (fT1, fT2), [], ([1538, 2176, 2336], []), (none, none), [], ([], []))
theorem cD_gb4_f : cfine zT 65536 cD_gb4 = true := by decide +kernel
noncomputable def q_tgb4 : sCut := (tG4.1, tG4.2, [((0, .arg 1538, .int 0), false), ((2, .sub (.arg 1280) (.arg 2016), .int 128), false)], [])
noncomputable def p_tgb4 : sCut := (tG5.1, tG5.2, [((0, .arg 1538, .int 0), true)], [])
theorem k_tgb4 : cbody kR [] (cpl1 zT cD_gb4 [p_tgb4]) (cpl2 zT cD_gb4 [p_tgb4]) (cleafN kR zT cD_gb4 [p_tgb4]) 200 true true q_tgb4.2.2.1 q_tgb4.2.2.2 (cst zT cD_gb4.2.2.1.1 q_tgb4.1) (cst zT cD_gb4.2.2.1.2 q_tgb4.2.1) = true := by decide +kernel
theorem r_tgb4 {X : pX} {J : sR → List Value → List Value → Prop} {ρ : sR} (k1 : kok X ρ kR) (k2 : fok X ρ q_tgb4.2.2.1) (k3 : iok X ρ q_tgb4.2.2.2) (hQ : ∀ ρ3 : sR, kok X ρ3 kR → fok X ρ3 p_tgb4.2.2.1 → iok X ρ3 p_tgb4.2.2.2 → agrM 65536 cD_gb4.2.2.2.2.1.1 cD_gb4.2.2.2.2.1.2 ρ3 ρ → RPt X J ρ3 tG5) : RPt X J ρ tG4 := CUT_P kR_x kR_0 (Cs := []) (fun C hC => by cases hC) cD_gb4_f (Q := [p_tgb4]) 200 k_tgb4 k1 k2 k3 (fun p hp => by rw [List.mem_singleton.mp hp]; exact hQ)
