/-! ===== the model counts on its own; the frame that passes in one number ===== -/
noncomputable def zb250 : Option sE := ca 0 5 (ti 0) [(ti 0, .arg 54720), (ti 1, .arg 54752), (ti 2, .arg 54784), (ti 3, .arg 54816), (ti 4, .arg 54848)]
noncomputable def zbt3_31 : TT (Option sE) 3 := (tp (tp (tp (show TT (Option sE) 0 from zc248) (show TT (Option sE) 0 from zc249)) (tp (show TT (Option sE) 0 from zb250) (show TT (Option sE) 0 from zc251))) (tp (tp (show TT (Option sE) 0 from zc252) (show TT (Option sE) 0 from zc253)) (tp (show TT (Option sE) 0 from zc254) (show TT (Option sE) 0 from zc255))))
noncomputable def zbt6_3 : TT (Option sE) 6 := (tp (tp (tp zt3_24 zt3_25) (tp zt3_26 zt3_27)) (tp (tp zt3_28 zt3_29) (tp zt3_30 zbt3_31)))
noncomputable def zB : sH := ((tp (tp (tp zt6_0 zt6_1) (tp zt6_2 zbt6_3)) (tp (tp zt6_4 zt6_5) (tp zt6_6 zt6_7))), 349)
noncomputable def zbc219 : Option sE := co 13 [.arg 19232, .arg 1286, .arg 1280, tr 220, tr 221, tr 222, tr 223, tr 224, tr 225, tr 226, tr 227, ti 156, tr 228, tr 229, tr 230, tr 231, tr 232, tr 233, tr 234, tr 235, tr 236, tr 237, tr 238, tr 239, tr 240, tr 241, tr 242, tr 243, tr 244, tr 245, tr 246, tr 247, tr 248, tr 249, tr 250, tr 251, tr 252, tr 253, tr 254, tr 255, tr 256, tr 257, .arg 1376, .arg 1312, .arg 1344, .op2 .iushr (.arg 54912) (.int 5), .op2 .iand (.op2 .iushr (.arg 54912) (.int 4)) (.int 1), .op2 .iand (.arg 54912) (.int 15), .arg 5121, tr 258, tr 259, tr 260, tr 261, tr 262, tr 263, tr 264, tr 265, tr 266, tr 267, tr 268, tr 269, tr 270, tr 271, tr 272, tr 273, tr 274, tr 275, tr 276, tr 277, tr 278, tr 279, tr 280, tr 281, tr 282, tr 283, tr 284, tr 285, tr 286, tr 287, tr 288, tr 289, tr 290, tr 291, tr 292, tr 293, tr 294, tr 295, tr 296, tr 297, tr 298, tr 299, tr 300, tr 301, tr 302, tr 303, tr 304, tr 305, tr 306, tr 307, tr 308, tr 309, tr 310, tr 311, tr 312, tr 313, tr 314, tr 315, tr 316, tr 317, tr 318, tr 319, tr 320, tr 321, tr 322, tr 323, tr 324, tr 325, tr 326, tr 327, tr 328, tr 329, tr 330, tr 331, tr 332, tr 333, tr 334, .arg 19328, tr 335, .arg 1292, .arg 17728, .arg 17824, .arg 19360, .arg 19392, .arg 17760, .arg 17792, .arg 19424, .arg 19456, .arg 19488, .arg 19520, .arg 19552, .arg 19584, .arg 18048, tr 336, tr 337, tr 338, tr 339, tr 340, tr 341, tr 342, tr 343, tr 344, tr 345, .arg 1294, .arg 18080, tr 346, tr 347]
noncomputable def zbct3_27 : TT (Option sE) 3 := (tp (tp (tp (show TT (Option sE) 0 from zc216) (show TT (Option sE) 0 from zc217)) (tp (show TT (Option sE) 0 from zc218) (show TT (Option sE) 0 from zbc219))) (tp (tp (show TT (Option sE) 0 from zc220) (show TT (Option sE) 0 from zc221)) (tp (show TT (Option sE) 0 from zc222) (show TT (Option sE) 0 from zc223))))
noncomputable def zbct6_3 : TT (Option sE) 6 := (tp (tp (tp zt3_24 zt3_25) (tp zt3_26 zbct3_27)) (tp (tp zt3_28 zt3_29) (tp zt3_30 zt3_31)))
noncomputable def zBC : sH := ((tp (tp (tp zt6_0 zt6_1) (tp zt6_2 zbct6_3)) (tp (tp zt6_4 zt6_5) (tp zt6_6 zt6_7))), 349)
/-! ===== a frame comes to station 0: Bus.deliver and arrive ===== -/
noncomputable def c_del0 : sC := ((47, 252, 3), ([tr 2, .int 0, .arg 54912, .arg 5121], [tr 219, .int 0]), ([2, 33, 16, 17, 22, 23, 28], [219, 242, 243, 244, 245, 246]), [((0, .arg 1728, .arg 19904), true), ((2, .arg 19904, .int 0), false), ((2, .int 8, .arg 19904), false), ((2, .arg 1728, .int 0), false), ((2, .int 8, .arg 1728), false), ((2, .arg 1728, .arg 19904), false), ((106, .add (.sub (.arg 1728) (.arg 19904)) (.add (.elem (.arg 1568) (.int 0)) (.elem (.arg 19744) (.int 0))), .arg 19904), true), ((107, .add (.sub (.arg 1728) (.arg 19904)) (.add (.elem (.arg 1441) (.int 0)) (.elem (.arg 5153) (.int 0))), .arg 19904), true), ((2, .arg 60064, .arg 19904), false), ((2, .arg 60064, .int 0), false), ((2, .int 7, .arg 60064), false)], ([1728, 19904, 2208], [1568, 1441, 19744, 5153]), (none, none), [((0, .arg 1728, .arg 19904), true), ((2, .arg 19904, .int 0), false), ((2, .int 8, .arg 19904), false), ((2, .arg 1728, .int 0), false), ((2, .int 8, .arg 1728), false), ((2, .arg 1728, .arg 19904), false), ((106, .add (.sub (.arg 1728) (.arg 19904)) (.add (.elem (.arg 1568) (.int 0)) (.elem (.arg 19744) (.int 0))), .arg 19904), true), ((107, .add (.sub (.arg 1728) (.arg 19904)) (.add (.elem (.arg 1441) (.int 0)) (.elem (.arg 5153) (.int 0))), .arg 19904), true), ((2, .add (.arg 60064) (.int 1), .arg 19904), false), ((0, .arg 54720, .arg 2208), true)], ([([((2, .int 0, .arg 2208), true)], (0, .arg 54720, .sub (.arg 2208) (.int 1)), true), ([((2, .int 0, .arg 2208), false)], (0, .arg 54720, .arg 2208), true)], []))
theorem c_del0_f : cfine zBC 65536 c_del0 = true := by decide +kernel
noncomputable def q_del0 : sCut := ((fr 0 47 0 [(0, tr 2), (1, .int 0), (2, .arg 54912), (3, .arg 5121)] [], [fBot], 2), (fr 0 252 0 [(0, tr 219), (1, .int 0)] [], [fBot], 2), [((0, .arg 1728, .arg 19904), true), ((2, .arg 19904, .int 0), false), ((2, .int 8, .arg 19904), false), ((2, .arg 1728, .int 0), false), ((2, .int 8, .arg 1728), false), ((2, .arg 1728, .arg 19904), false), ((106, .add (.sub (.arg 1728) (.arg 19904)) (.add (.elem (.arg 1568) (.int 0)) (.elem (.arg 19744) (.int 0))), .arg 19904), true), ((107, .add (.sub (.arg 1728) (.arg 19904)) (.add (.elem (.arg 1441) (.int 0)) (.elem (.arg 5153) (.int 0))), .arg 19904), true), ((2, .arg 60064, .arg 19904), false), ((2, .arg 60064, .int 0), false), ((2, .int 7, .arg 60064), false)], [([((2, .int 0, .arg 2208), true)], (0, .arg 54720, .sub (.arg 2208) (.int 1)), true), ([((2, .int 0, .arg 2208), false)], (0, .arg 54720, .arg 2208), true)])
noncomputable def q_del0e : sCut := ((fr 0 47 50 [(0, tr 2)] [], [fBot], 2), (fr 0 252 51 [(0, tr 219)] [], [fBot], 2), [], [])
noncomputable def q_del0n : sCut := ((fr 0 47 50 [(0, tr 2)] [], [fBot], 2), (fr 0 252 51 [(0, tr 219)] [], [fBot], 2), [((0, .arg 1728, .arg 19904), true), ((2, .arg 19904, .int 0), false), ((2, .int 8, .arg 19904), false), ((2, .arg 1728, .int 0), false), ((2, .int 8, .arg 1728), false), ((2, .arg 1728, .arg 19904), false), ((106, .add (.sub (.arg 1728) (.arg 19904)) (.add (.elem (.arg 1568) (.int 0)) (.elem (.arg 19744) (.int 0))), .arg 19904), true), ((107, .add (.sub (.arg 1728) (.arg 19904)) (.add (.elem (.arg 1441) (.int 0)) (.elem (.arg 5153) (.int 0))), .arg 19904), true), ((2, .add (.arg 60064) (.int 1), .arg 19904), false), ((0, .arg 54720, .arg 2208), true)], [])
noncomputable def q_del0P : sCut := ((fr 0 47 0 [(0, tr 2), (1, .int 0), (2, .arg 54912), (3, .arg 5121)] [], [fBot], 2), (fr 0 252 0 [(0, tr 219), (1, .int 0)] [], [fBot], 2), [((2, .int 0, .arg 2208), true), ((2, .int 7, .arg 19904), false), ((2, .int 7, .arg 1728), false), ((2, .arg 1728, .int 0), false), ((2, .arg 19904, .int 0), false)], [])
noncomputable def w_del0P : List (sCut × List (Nat × sT) × List (Nat × sT × List (sT × sT))) := [(q_del0e, [(1728, .add (.arg 1728) (.int 1)), (19904, .add (.arg 19904) (.int 1)), (2208, .sub (.arg 2208) (.int 1))], [(1568, .arg 1568, [(.arg 1728, .arg 54912)]), (1441, .arg 1441, [(.arg 1728, .arg 5121)]), (19744, .arg 19744, [(.arg 19904, .arg 54912)]), (5153, .arg 5153, [(.arg 19904, .arg 5121)])])]
theorem k_del0P : cbody kR [] (cpl1 zBC c_del0 [q_del0e]) (cpl2 zBC c_del0 [q_del0e]) (cleafB kR zBC c_del0 w_del0P) 90 true true q_del0P.2.2.1 q_del0P.2.2.2 (cst zBC c_del0.2.2.1.1 q_del0P.1) (cst zBC c_del0.2.2.1.2 q_del0P.2.1) = true := by decide +kernel
noncomputable def q_del0Z : sCut := ((fr 0 47 0 [(0, tr 2), (1, .int 0), (2, .arg 54912), (3, .arg 5121)] [], [fBot], 2), (fr 0 252 0 [(0, tr 219), (1, .int 0)] [], [fBot], 2), [((2, .int 0, .arg 2208), false), ((2, .int 7, .arg 19904), false), ((2, .int 7, .arg 1728), false), ((2, .arg 1728, .int 0), false), ((2, .arg 19904, .int 0), false)], [])
noncomputable def w_del0Z : List (sCut × List (Nat × sT) × List (Nat × sT × List (sT × sT))) := [(q_del0e, [(1728, .add (.arg 1728) (.int 1)), (19904, .add (.arg 19904) (.int 1)), (2208, .arg 2208)], [(1568, .arg 1568, [(.arg 1728, .arg 54912)]), (1441, .arg 1441, [(.arg 1728, .arg 5121)]), (19744, .arg 19744, [(.arg 19904, .arg 54912)]), (5153, .arg 5153, [(.arg 19904, .arg 5121)])])]
theorem k_del0Z : cbody kR [] (cpl1 zBC c_del0 [q_del0e]) (cpl2 zBC c_del0 [q_del0e]) (cleafB kR zBC c_del0 w_del0Z) 90 true true q_del0Z.2.2.1 q_del0Z.2.2.2 (cst zBC c_del0.2.2.1.1 q_del0Z.1) (cst zBC c_del0.2.2.1.2 q_del0Z.2.1) = true := by decide +kernel
theorem k_del0n : cbody kR [] (cpl1 zBC c_del0 []) (cpl2 zBC c_del0 []) (cleaf kR zBC c_del0 []) 20 true true q_del0n.2.2.1 q_del0n.2.2.2 (cst zBC c_del0.2.2.1.1 q_del0n.1) (cst zBC c_del0.2.2.1.2 q_del0n.2.1) = true := by decide +kernel
theorem e_del0 : frun kR [] (cpl1 zBC c_del0 [q_del0]) (cpl2 zBC c_del0 [q_del0]) (cleaf kR zBC c_del0 [q_del0]) 10 65536 (isatP (c_del0.2.2.2.1) c_del0.2.2.2.2.2.2.2.1) c_del0.2.2.2.2.2.2.2.1 (sin0 mt_all c_del0.1.1 2 c_del0.2.1.1 (foot zBC c_del0.2.2.1.1)) (sin0 mt_all c_del0.1.2.1 2 c_del0.2.1.2 (foot zBC c_del0.2.2.1.2)) = true := by decide +kernel
theorem t_del0 {X : pX} {ρ0 : sR} (hv : vok X ρ0) : CUTOK X kR zBC c_del0 2 ρ0 q_del0 := by
  refine CUTOK_AT (fun ρ k1 k2 k3 k4 => ?_)
  have e : ρ.1 1728 = ρ.1 19904 := of_decide_eq_true (k2.2 _ (List.mem_cons_self))
  have g1 : ¬ ρ.1 19904 < 0 := of_decide_eq_false (k2.2 _ (List.mem_cons_of_mem _ (List.mem_cons_self)))
  have g3 : ¬ ρ.1 1728 < 0 := of_decide_eq_false (k2.2 _ (List.mem_cons_of_mem _ (List.mem_cons_of_mem _ (List.mem_cons_of_mem _ (List.mem_cons_self)))))
  have gk : ¬ ρ.1 60064 < ρ.1 19904 := of_decide_eq_false (k2.2 _ (List.mem_cons_of_mem _ (List.mem_cons_of_mem _ (List.mem_cons_of_mem _ (List.mem_cons_of_mem _ (List.mem_cons_of_mem _ (List.mem_cons_of_mem _ (List.mem_cons_of_mem _ (List.mem_cons_of_mem _ (List.mem_cons_self))))))))))
  have g7 : ¬ (7 : Int32) < ρ.1 60064 := of_decide_eq_false (k2.2 _ (List.mem_cons_of_mem _ (List.mem_cons_of_mem _ (List.mem_cons_of_mem _ (List.mem_cons_of_mem _ (List.mem_cons_of_mem _ (List.mem_cons_of_mem _ (List.mem_cons_of_mem _ (List.mem_cons_of_mem _ (List.mem_cons_of_mem _ (List.mem_cons_of_mem _ (List.mem_cons_self))))))))))))
  have h6 : (List.range (ρ.1 19904).toInt.toNat).all (fun j => decide (ρ.2.2.1 1568 ((ρ.1 1728 - ρ.1 19904).toInt.toNat + j) = ρ.2.2.1 19744 j)) = true := k2.2 _ (List.mem_cons_of_mem _ (List.mem_cons_of_mem _ (List.mem_cons_of_mem _ (List.mem_cons_of_mem _ (List.mem_cons_of_mem _ (List.mem_cons_of_mem _ (List.mem_cons_self)))))))
  have h7 : (List.range (ρ.1 19904).toInt.toNat).all (fun j => decide (ρ.2.2.2.1 1441 ((ρ.1 1728 - ρ.1 19904).toInt.toNat + j) = ρ.2.2.2.1 5153 j)) = true := k2.2 _ (List.mem_cons_of_mem _ (List.mem_cons_of_mem _ (List.mem_cons_of_mem _ (List.mem_cons_of_mem _ (List.mem_cons_of_mem _ (List.mem_cons_of_mem _ (List.mem_cons_of_mem _ (List.mem_cons_self))))))))
  have z0 : (0 : Int32).toInt = 0 := rfl
  have z7 : (7 : Int32).toInt = 7 := rfl
  have z8 : (8 : Int32).toInt = 8 := rfl
  rw [Int32.lt_iff_toInt_lt] at g1 g3 gk g7
  rw [z0] at g1 g3
  rw [z7] at g7
  have i1 : (ρ.1 19904 + 1).toInt = (ρ.1 19904).toInt + 1 := s_add (y := 1) (by show _ ≤ _ + (1 : Int); omega) (by show _ + (1 : Int) ≤ _; omega)
  have ik : (ρ.1 60064 + 1).toInt = (ρ.1 60064).toInt + 1 := s_add (y := 1) (by show _ ≤ _ + (1 : Int); omega) (by show _ + (1 : Int) ≤ _; omega)
  have d0 : ∀ x : Int32, (x - x).toInt = 0 := fun x => by rw [Int32.sub_self]; rfl
  have f1 : sc X ρ (2, .int 7, .arg 19904) = false := decide_eq_false (nlt_i (show (ρ.1 19904).toInt ≤ (7 : Int32).toInt by omega))
  have f2 : sc X ρ (2, .int 7, .arg 1728) = false := decide_eq_false (nlt_i (show (ρ.1 1728).toInt ≤ (7 : Int32).toInt by rw [e]; omega))
  have f3 : sc X ρ (2, .arg 1728, .int 0) = false := k2.2 _ (List.mem_cons_of_mem _ (List.mem_cons_of_mem _ (List.mem_cons_of_mem _ (List.mem_cons_self))))
  have f4 : sc X ρ (2, .arg 19904, .int 0) = false := k2.2 _ (List.mem_cons_of_mem _ (List.mem_cons_self))
  have fin : ∀ ρ3 : sR, kok X ρ3 kR → vok X ρ3 → agrM 65536 c_del0.2.2.2.2.1.1 c_del0.2.2.2.2.1.2 ρ3 ρ0 → ρ3.1 54720 = ρ3.1 2208 → ρ3.1 1728 = ρ.1 1728 + 1 → ρ3.1 19904 = ρ.1 19904 + 1 → (∀ j, ρ3.2.2.1 1568 j = if (ρ.1 1728).toNatClampNeg = j then ρ.1 54912 else ρ.2.2.1 1568 j) → (∀ j, ρ3.2.2.2.1 1441 j = if (ρ.1 1728).toNatClampNeg = j then ρ.2.1 5121 else ρ.2.2.2.1 1441 j) → (∀ j, ρ3.2.2.1 19744 j = if (ρ.1 19904).toNatClampNeg = j then ρ.1 54912 else ρ.2.2.1 19744 j) → (∀ j, ρ3.2.2.2.1 5153 j = if (ρ.1 19904).toNatClampNeg = j then ρ.2.1 5121 else ρ.2.2.2.1 5153 j) → AT X zBC c_del0 2 ρ0 ρ3 q_del0e := by
    intro ρ3 l1 l2 l4 e1 e2 e3 e4 e5 e6 e7
    have s1 : ρ3.1 60064 = ρ.1 60064 := ((l4.1 60064 (by decide) (by decide)).1).trans ((k4.1 60064 (by decide) (by decide)).1).symm
    have es : ρ3.1 1728 = ρ3.1 19904 := by rw [e2, e3, e]
    refine AT_of (q := q_del0n) rfl rfl (CUT_run kR_x kR_0 (Cs := []) (fun C hC => by cases hC) c_del0_f (Q := []) hv (fun q hq => by cases hq) 20 (b1 := true) (b2 := true) k_del0n ρ3 l1 ⟨l2, ?_⟩ (fun c hc => by cases hc) l4)
    refine fcq (decide_eq_true es) (fcq (decide_eq_false ?_) (fcq (decide_eq_false ?_) (fcq (decide_eq_false ?_) (fcq (decide_eq_false ?_) (fcq (decide_eq_false ?_) (fcq ?_ (fcq ?_ (fcq (decide_eq_false ?_) (fcq (decide_eq_true e1) (fun f hf => by cases hf))))))))))
    · show ¬ ρ3.1 19904 < 0
      rw [Int32.lt_iff_toInt_lt, z0, e3, i1]; omega
    · show ¬ (8 : Int32) < ρ3.1 19904
      rw [Int32.lt_iff_toInt_lt, z8, e3, i1]; omega
    · show ¬ ρ3.1 1728 < 0
      rw [es, Int32.lt_iff_toInt_lt, z0, e3, i1]; omega
    · show ¬ (8 : Int32) < ρ3.1 1728
      rw [es, Int32.lt_iff_toInt_lt, z8, e3, i1]; omega
    · show ¬ ρ3.1 1728 < ρ3.1 19904
      rw [es]; exact Int32.lt_irrefl
    · show (List.range (ρ3.1 19904).toInt.toNat).all (fun j => decide (ρ3.2.2.1 1568 ((ρ3.1 1728 - ρ3.1 19904).toInt.toNat + j) = ρ3.2.2.1 19744 j)) = true
      refine n106_of (fun j hj => ?_)
      rw [e3, i1] at hj
      rw [es, d0, show (0 : Int).toNat + j = j from Nat.zero_add j, e4, e6, e]
      by_cases hc : (ρ.1 19904).toNatClampNeg = j
      · rw [if_pos hc, if_pos hc]
      · rw [if_neg hc, if_neg hc]
        rw [s_nat] at hc
        have h := n106_get h6 (j := j) (by omega)
        rw [e, d0, show (0 : Int).toNat + j = j from Nat.zero_add j] at h
        exact h
    · show (List.range (ρ3.1 19904).toInt.toNat).all (fun j => decide (ρ3.2.2.2.1 1441 ((ρ3.1 1728 - ρ3.1 19904).toInt.toNat + j) = ρ3.2.2.2.1 5153 j)) = true
      refine n106_of (fun j hj => ?_)
      rw [e3, i1] at hj
      rw [es, d0, show (0 : Int).toNat + j = j from Nat.zero_add j, e5, e7, e]
      by_cases hc : (ρ.1 19904).toNatClampNeg = j
      · rw [if_pos hc, if_pos hc]
      · rw [if_neg hc, if_neg hc]
        rw [s_nat] at hc
        have h := n106_get h7 (j := j) (by omega)
        rw [e, d0, show (0 : Int).toNat + j = j from Nat.zero_add j] at h
        exact h
    · show ¬ ρ3.1 60064 + 1 < ρ3.1 19904
      rw [s1, Int32.lt_iff_toInt_lt, ik, e3, i1]; omega
  by_cases hc : (0 : Int32) < ρ.1 2208
  · have hm : ρ.1 54720 = ρ.1 2208 - 1 := of_decide_eq_true (k3 _ (List.mem_cons_self) (fun f hf => by rw [List.mem_singleton.mp hf]; exact decide_eq_true hc))
    refine AT_of (q := q_del0P) rfl rfl (SEM_runB kR_x kR_0 (Cs := []) (fun C hC => by cases hC) c_del0_f (Q := w_del0P) hv 90 (b1 := true) (b2 := true) k_del0P k1 ⟨k2.1, fcq (decide_eq_true hc) (fcq f1 (fcq f2 (fcq f3 (fcq f4 (fun f hf => by cases hf)))))⟩ (fun c hc => by cases hc) k4 (fun p hp ρ3 m1 m2 m3 m4 m5 m6 => ?_))
    rw [List.mem_singleton.mp hp] at m2 m3 m5 m6 ⊢
    have sm : ρ3.1 54720 = ρ.1 54720 := ((m4.1 54720 (by decide) (by decide)).1).trans ((k4.1 54720 (by decide) (by decide)).1).symm
    have c3 : ρ3.1 2208 = ρ.1 2208 - 1 := congrArg Prod.fst (m5 (2208, .sub (.arg 2208) (.int 1)) (List.mem_cons_of_mem _ (List.mem_cons_of_mem _ List.mem_cons_self)))
    refine fin ρ3 m1 m2.1 m4 (by rw [sm, c3, hm]) (congrArg Prod.fst (m5 (1728, .add (.arg 1728) (.int 1)) List.mem_cons_self)) (congrArg Prod.fst (m5 (19904, .add (.arg 19904) (.int 1)) (List.mem_cons_of_mem _ List.mem_cons_self))) (fun j => ?_) (fun j => ?_) (fun j => ?_) (fun j => ?_)
    · have h := m6 (1568, .arg 1568, [(.arg 1728, .arg 54912)]) (List.mem_cons_self) j
      rw [bd_ev (by decide)] at h
      unfold aden at h
      dsimp only at h
      by_cases hq : (sd X ρ (Jvm.Term.arg 1728)).1.toNatClampNeg = j
      · rw [if_pos hq] at h
        exact Eq.trans (Value.int.inj h) (if_pos hq).symm
      · rw [if_neg hq] at h
        exact Eq.trans (Value.int.inj (h.trans (bd_ev (by decide)))) (if_neg hq).symm
    · have h := m6 (1441, .arg 1441, [(.arg 1728, .arg 5121)]) (List.mem_cons_of_mem _ (List.mem_cons_self)) j
      rw [bd_od (by decide)] at h
      unfold aden at h
      dsimp only at h
      by_cases hq : (sd X ρ (Jvm.Term.arg 1728)).1.toNatClampNeg = j
      · rw [if_pos hq] at h
        exact Eq.trans (Value.long.inj h) (if_pos hq).symm
      · rw [if_neg hq] at h
        exact Eq.trans (Value.long.inj (h.trans (bd_od (by decide)))) (if_neg hq).symm
    · have h := m6 (19744, .arg 19744, [(.arg 19904, .arg 54912)]) (List.mem_cons_of_mem _ (List.mem_cons_of_mem _ (List.mem_cons_self))) j
      rw [bd_ev (by decide)] at h
      unfold aden at h
      dsimp only at h
      by_cases hq : (sd X ρ (Jvm.Term.arg 19904)).1.toNatClampNeg = j
      · rw [if_pos hq] at h
        exact Eq.trans (Value.int.inj h) (if_pos hq).symm
      · rw [if_neg hq] at h
        exact Eq.trans (Value.int.inj (h.trans (bd_ev (by decide)))) (if_neg hq).symm
    · have h := m6 (5153, .arg 5153, [(.arg 19904, .arg 5121)]) (List.mem_cons_of_mem _ (List.mem_cons_of_mem _ (List.mem_cons_of_mem _ (List.mem_cons_self)))) j
      rw [bd_od (by decide)] at h
      unfold aden at h
      dsimp only at h
      by_cases hq : (sd X ρ (Jvm.Term.arg 19904)).1.toNatClampNeg = j
      · rw [if_pos hq] at h
        exact Eq.trans (Value.long.inj h) (if_pos hq).symm
      · rw [if_neg hq] at h
        exact Eq.trans (Value.long.inj (h.trans (bd_od (by decide)))) (if_neg hq).symm
  · have hm : ρ.1 54720 = ρ.1 2208 := of_decide_eq_true (k3 _ (List.mem_cons_of_mem _ (List.mem_cons_self)) (fun f hf => by rw [List.mem_singleton.mp hf]; exact decide_eq_false hc))
    refine AT_of (q := q_del0Z) rfl rfl (SEM_runB kR_x kR_0 (Cs := []) (fun C hC => by cases hC) c_del0_f (Q := w_del0Z) hv 90 (b1 := true) (b2 := true) k_del0Z k1 ⟨k2.1, fcq (decide_eq_false hc) (fcq f1 (fcq f2 (fcq f3 (fcq f4 (fun f hf => by cases hf)))))⟩ (fun c hc => by cases hc) k4 (fun p hp ρ3 m1 m2 m3 m4 m5 m6 => ?_))
    rw [List.mem_singleton.mp hp] at m2 m3 m5 m6 ⊢
    have sm : ρ3.1 54720 = ρ.1 54720 := ((m4.1 54720 (by decide) (by decide)).1).trans ((k4.1 54720 (by decide) (by decide)).1).symm
    have c3 : ρ3.1 2208 = ρ.1 2208 := congrArg Prod.fst (m5 (2208, .arg 2208) (List.mem_cons_of_mem _ (List.mem_cons_of_mem _ List.mem_cons_self)))
    refine fin ρ3 m1 m2.1 m4 (by rw [sm, c3, hm]) (congrArg Prod.fst (m5 (1728, .add (.arg 1728) (.int 1)) List.mem_cons_self)) (congrArg Prod.fst (m5 (19904, .add (.arg 19904) (.int 1)) (List.mem_cons_of_mem _ List.mem_cons_self))) (fun j => ?_) (fun j => ?_) (fun j => ?_) (fun j => ?_)
    · have h := m6 (1568, .arg 1568, [(.arg 1728, .arg 54912)]) (List.mem_cons_self) j
      rw [bd_ev (by decide)] at h
      unfold aden at h
      dsimp only at h
      by_cases hq : (sd X ρ (Jvm.Term.arg 1728)).1.toNatClampNeg = j
      · rw [if_pos hq] at h
        exact Eq.trans (Value.int.inj h) (if_pos hq).symm
      · rw [if_neg hq] at h
        exact Eq.trans (Value.int.inj (h.trans (bd_ev (by decide)))) (if_neg hq).symm
    · have h := m6 (1441, .arg 1441, [(.arg 1728, .arg 5121)]) (List.mem_cons_of_mem _ (List.mem_cons_self)) j
      rw [bd_od (by decide)] at h
      unfold aden at h
      dsimp only at h
      by_cases hq : (sd X ρ (Jvm.Term.arg 1728)).1.toNatClampNeg = j
      · rw [if_pos hq] at h
        exact Eq.trans (Value.long.inj h) (if_pos hq).symm
      · rw [if_neg hq] at h
        exact Eq.trans (Value.long.inj (h.trans (bd_od (by decide)))) (if_neg hq).symm
    · have h := m6 (19744, .arg 19744, [(.arg 19904, .arg 54912)]) (List.mem_cons_of_mem _ (List.mem_cons_of_mem _ (List.mem_cons_self))) j
      rw [bd_ev (by decide)] at h
      unfold aden at h
      dsimp only at h
      by_cases hq : (sd X ρ (Jvm.Term.arg 19904)).1.toNatClampNeg = j
      · rw [if_pos hq] at h
        exact Eq.trans (Value.int.inj h) (if_pos hq).symm
      · rw [if_neg hq] at h
        exact Eq.trans (Value.int.inj (h.trans (bd_ev (by decide)))) (if_neg hq).symm
    · have h := m6 (5153, .arg 5153, [(.arg 19904, .arg 5121)]) (List.mem_cons_of_mem _ (List.mem_cons_of_mem _ (List.mem_cons_of_mem _ (List.mem_cons_self)))) j
      rw [bd_od (by decide)] at h
      unfold aden at h
      dsimp only at h
      by_cases hq : (sd X ρ (Jvm.Term.arg 19904)).1.toNatClampNeg = j
      · rw [if_pos hq] at h
        exact Eq.trans (Value.long.inj h) (if_pos hq).symm
      · rw [if_neg hq] at h
        exact Eq.trans (Value.long.inj (h.trans (bd_od (by decide)))) (if_neg hq).symm
theorem s_del0 {X : pX} : SREL X pF pdfl mt_all kR zBC c_del0 := SREL_cut kR_x kR_0 (Cs := []) (fun C hC => by cases hC) (d := 2) rfl c_del0_f (Q := [q_del0]) (fun ρ0 hv q hq => by rw [List.mem_singleton.mp hq]; exact t_del0 hv) 10 e_del0
/-! ===== a frame comes to station 1: Bus.deliver and arrive ===== -/
noncomputable def c_del1 : sC := ((47, 252, 3), ([tr 2, .int 1, .arg 54912, .arg 5121], [tr 219, .int 1]), ([2, 33, 16, 18, 22, 24, 28], [219, 242, 243, 244, 245, 246]), [((0, .arg 1760, .arg 19936), true), ((2, .arg 19936, .int 0), false), ((2, .int 8, .arg 19936), false), ((2, .arg 1760, .int 0), false), ((2, .int 8, .arg 1760), false), ((2, .arg 1760, .arg 19936), false), ((106, .add (.sub (.arg 1760) (.arg 19936)) (.add (.elem (.arg 1600) (.int 0)) (.elem (.arg 19776) (.int 0))), .arg 19936), true), ((107, .add (.sub (.arg 1760) (.arg 19936)) (.add (.elem (.arg 1473) (.int 0)) (.elem (.arg 5185) (.int 0))), .arg 19936), true), ((2, .arg 60064, .arg 19936), false), ((2, .arg 60064, .int 0), false), ((2, .int 7, .arg 60064), false)], ([1760, 19936, 2240], [1600, 1473, 19776, 5185]), (none, none), [((0, .arg 1760, .arg 19936), true), ((2, .arg 19936, .int 0), false), ((2, .int 8, .arg 19936), false), ((2, .arg 1760, .int 0), false), ((2, .int 8, .arg 1760), false), ((2, .arg 1760, .arg 19936), false), ((106, .add (.sub (.arg 1760) (.arg 19936)) (.add (.elem (.arg 1600) (.int 0)) (.elem (.arg 19776) (.int 0))), .arg 19936), true), ((107, .add (.sub (.arg 1760) (.arg 19936)) (.add (.elem (.arg 1473) (.int 0)) (.elem (.arg 5185) (.int 0))), .arg 19936), true), ((2, .add (.arg 60064) (.int 1), .arg 19936), false), ((0, .arg 54752, .arg 2240), true)], ([([((2, .int 0, .arg 2240), true)], (0, .arg 54752, .sub (.arg 2240) (.int 1)), true), ([((2, .int 0, .arg 2240), false)], (0, .arg 54752, .arg 2240), true)], []))
theorem c_del1_f : cfine zBC 65536 c_del1 = true := by decide +kernel
noncomputable def q_del1 : sCut := ((fr 0 47 0 [(0, tr 2), (1, .int 1), (2, .arg 54912), (3, .arg 5121)] [], [fBot], 2), (fr 0 252 0 [(0, tr 219), (1, .int 1)] [], [fBot], 2), [((0, .arg 1760, .arg 19936), true), ((2, .arg 19936, .int 0), false), ((2, .int 8, .arg 19936), false), ((2, .arg 1760, .int 0), false), ((2, .int 8, .arg 1760), false), ((2, .arg 1760, .arg 19936), false), ((106, .add (.sub (.arg 1760) (.arg 19936)) (.add (.elem (.arg 1600) (.int 0)) (.elem (.arg 19776) (.int 0))), .arg 19936), true), ((107, .add (.sub (.arg 1760) (.arg 19936)) (.add (.elem (.arg 1473) (.int 0)) (.elem (.arg 5185) (.int 0))), .arg 19936), true), ((2, .arg 60064, .arg 19936), false), ((2, .arg 60064, .int 0), false), ((2, .int 7, .arg 60064), false)], [([((2, .int 0, .arg 2240), true)], (0, .arg 54752, .sub (.arg 2240) (.int 1)), true), ([((2, .int 0, .arg 2240), false)], (0, .arg 54752, .arg 2240), true)])
noncomputable def q_del1e : sCut := ((fr 0 47 50 [(0, tr 2)] [], [fBot], 2), (fr 0 252 51 [(0, tr 219)] [], [fBot], 2), [], [])
noncomputable def q_del1n : sCut := ((fr 0 47 50 [(0, tr 2)] [], [fBot], 2), (fr 0 252 51 [(0, tr 219)] [], [fBot], 2), [((0, .arg 1760, .arg 19936), true), ((2, .arg 19936, .int 0), false), ((2, .int 8, .arg 19936), false), ((2, .arg 1760, .int 0), false), ((2, .int 8, .arg 1760), false), ((2, .arg 1760, .arg 19936), false), ((106, .add (.sub (.arg 1760) (.arg 19936)) (.add (.elem (.arg 1600) (.int 0)) (.elem (.arg 19776) (.int 0))), .arg 19936), true), ((107, .add (.sub (.arg 1760) (.arg 19936)) (.add (.elem (.arg 1473) (.int 0)) (.elem (.arg 5185) (.int 0))), .arg 19936), true), ((2, .add (.arg 60064) (.int 1), .arg 19936), false), ((0, .arg 54752, .arg 2240), true)], [])
noncomputable def q_del1P : sCut := ((fr 0 47 0 [(0, tr 2), (1, .int 1), (2, .arg 54912), (3, .arg 5121)] [], [fBot], 2), (fr 0 252 0 [(0, tr 219), (1, .int 1)] [], [fBot], 2), [((2, .int 0, .arg 2240), true), ((2, .int 7, .arg 19936), false), ((2, .int 7, .arg 1760), false), ((2, .arg 1760, .int 0), false), ((2, .arg 19936, .int 0), false)], [])
noncomputable def w_del1P : List (sCut × List (Nat × sT) × List (Nat × sT × List (sT × sT))) := [(q_del1e, [(1760, .add (.arg 1760) (.int 1)), (19936, .add (.arg 19936) (.int 1)), (2240, .sub (.arg 2240) (.int 1))], [(1600, .arg 1600, [(.arg 1760, .arg 54912)]), (1473, .arg 1473, [(.arg 1760, .arg 5121)]), (19776, .arg 19776, [(.arg 19936, .arg 54912)]), (5185, .arg 5185, [(.arg 19936, .arg 5121)])])]
theorem k_del1P : cbody kR [] (cpl1 zBC c_del1 [q_del1e]) (cpl2 zBC c_del1 [q_del1e]) (cleafB kR zBC c_del1 w_del1P) 90 true true q_del1P.2.2.1 q_del1P.2.2.2 (cst zBC c_del1.2.2.1.1 q_del1P.1) (cst zBC c_del1.2.2.1.2 q_del1P.2.1) = true := by decide +kernel
noncomputable def q_del1Z : sCut := ((fr 0 47 0 [(0, tr 2), (1, .int 1), (2, .arg 54912), (3, .arg 5121)] [], [fBot], 2), (fr 0 252 0 [(0, tr 219), (1, .int 1)] [], [fBot], 2), [((2, .int 0, .arg 2240), false), ((2, .int 7, .arg 19936), false), ((2, .int 7, .arg 1760), false), ((2, .arg 1760, .int 0), false), ((2, .arg 19936, .int 0), false)], [])
noncomputable def w_del1Z : List (sCut × List (Nat × sT) × List (Nat × sT × List (sT × sT))) := [(q_del1e, [(1760, .add (.arg 1760) (.int 1)), (19936, .add (.arg 19936) (.int 1)), (2240, .arg 2240)], [(1600, .arg 1600, [(.arg 1760, .arg 54912)]), (1473, .arg 1473, [(.arg 1760, .arg 5121)]), (19776, .arg 19776, [(.arg 19936, .arg 54912)]), (5185, .arg 5185, [(.arg 19936, .arg 5121)])])]
theorem k_del1Z : cbody kR [] (cpl1 zBC c_del1 [q_del1e]) (cpl2 zBC c_del1 [q_del1e]) (cleafB kR zBC c_del1 w_del1Z) 90 true true q_del1Z.2.2.1 q_del1Z.2.2.2 (cst zBC c_del1.2.2.1.1 q_del1Z.1) (cst zBC c_del1.2.2.1.2 q_del1Z.2.1) = true := by decide +kernel
theorem k_del1n : cbody kR [] (cpl1 zBC c_del1 []) (cpl2 zBC c_del1 []) (cleaf kR zBC c_del1 []) 20 true true q_del1n.2.2.1 q_del1n.2.2.2 (cst zBC c_del1.2.2.1.1 q_del1n.1) (cst zBC c_del1.2.2.1.2 q_del1n.2.1) = true := by decide +kernel
theorem e_del1 : frun kR [] (cpl1 zBC c_del1 [q_del1]) (cpl2 zBC c_del1 [q_del1]) (cleaf kR zBC c_del1 [q_del1]) 10 65536 (isatP (c_del1.2.2.2.1) c_del1.2.2.2.2.2.2.2.1) c_del1.2.2.2.2.2.2.2.1 (sin0 mt_all c_del1.1.1 2 c_del1.2.1.1 (foot zBC c_del1.2.2.1.1)) (sin0 mt_all c_del1.1.2.1 2 c_del1.2.1.2 (foot zBC c_del1.2.2.1.2)) = true := by decide +kernel
theorem t_del1 {X : pX} {ρ0 : sR} (hv : vok X ρ0) : CUTOK X kR zBC c_del1 2 ρ0 q_del1 := by
  refine CUTOK_AT (fun ρ k1 k2 k3 k4 => ?_)
  have e : ρ.1 1760 = ρ.1 19936 := of_decide_eq_true (k2.2 _ (List.mem_cons_self))
  have g1 : ¬ ρ.1 19936 < 0 := of_decide_eq_false (k2.2 _ (List.mem_cons_of_mem _ (List.mem_cons_self)))
  have g3 : ¬ ρ.1 1760 < 0 := of_decide_eq_false (k2.2 _ (List.mem_cons_of_mem _ (List.mem_cons_of_mem _ (List.mem_cons_of_mem _ (List.mem_cons_self)))))
  have gk : ¬ ρ.1 60064 < ρ.1 19936 := of_decide_eq_false (k2.2 _ (List.mem_cons_of_mem _ (List.mem_cons_of_mem _ (List.mem_cons_of_mem _ (List.mem_cons_of_mem _ (List.mem_cons_of_mem _ (List.mem_cons_of_mem _ (List.mem_cons_of_mem _ (List.mem_cons_of_mem _ (List.mem_cons_self))))))))))
  have g7 : ¬ (7 : Int32) < ρ.1 60064 := of_decide_eq_false (k2.2 _ (List.mem_cons_of_mem _ (List.mem_cons_of_mem _ (List.mem_cons_of_mem _ (List.mem_cons_of_mem _ (List.mem_cons_of_mem _ (List.mem_cons_of_mem _ (List.mem_cons_of_mem _ (List.mem_cons_of_mem _ (List.mem_cons_of_mem _ (List.mem_cons_of_mem _ (List.mem_cons_self))))))))))))
  have h6 : (List.range (ρ.1 19936).toInt.toNat).all (fun j => decide (ρ.2.2.1 1600 ((ρ.1 1760 - ρ.1 19936).toInt.toNat + j) = ρ.2.2.1 19776 j)) = true := k2.2 _ (List.mem_cons_of_mem _ (List.mem_cons_of_mem _ (List.mem_cons_of_mem _ (List.mem_cons_of_mem _ (List.mem_cons_of_mem _ (List.mem_cons_of_mem _ (List.mem_cons_self)))))))
  have h7 : (List.range (ρ.1 19936).toInt.toNat).all (fun j => decide (ρ.2.2.2.1 1473 ((ρ.1 1760 - ρ.1 19936).toInt.toNat + j) = ρ.2.2.2.1 5185 j)) = true := k2.2 _ (List.mem_cons_of_mem _ (List.mem_cons_of_mem _ (List.mem_cons_of_mem _ (List.mem_cons_of_mem _ (List.mem_cons_of_mem _ (List.mem_cons_of_mem _ (List.mem_cons_of_mem _ (List.mem_cons_self))))))))
  have z0 : (0 : Int32).toInt = 0 := rfl
  have z7 : (7 : Int32).toInt = 7 := rfl
  have z8 : (8 : Int32).toInt = 8 := rfl
  rw [Int32.lt_iff_toInt_lt] at g1 g3 gk g7
  rw [z0] at g1 g3
  rw [z7] at g7
  have i1 : (ρ.1 19936 + 1).toInt = (ρ.1 19936).toInt + 1 := s_add (y := 1) (by show _ ≤ _ + (1 : Int); omega) (by show _ + (1 : Int) ≤ _; omega)
  have ik : (ρ.1 60064 + 1).toInt = (ρ.1 60064).toInt + 1 := s_add (y := 1) (by show _ ≤ _ + (1 : Int); omega) (by show _ + (1 : Int) ≤ _; omega)
  have d0 : ∀ x : Int32, (x - x).toInt = 0 := fun x => by rw [Int32.sub_self]; rfl
  have f1 : sc X ρ (2, .int 7, .arg 19936) = false := decide_eq_false (nlt_i (show (ρ.1 19936).toInt ≤ (7 : Int32).toInt by omega))
  have f2 : sc X ρ (2, .int 7, .arg 1760) = false := decide_eq_false (nlt_i (show (ρ.1 1760).toInt ≤ (7 : Int32).toInt by rw [e]; omega))
  have f3 : sc X ρ (2, .arg 1760, .int 0) = false := k2.2 _ (List.mem_cons_of_mem _ (List.mem_cons_of_mem _ (List.mem_cons_of_mem _ (List.mem_cons_self))))
  have f4 : sc X ρ (2, .arg 19936, .int 0) = false := k2.2 _ (List.mem_cons_of_mem _ (List.mem_cons_self))
  have fin : ∀ ρ3 : sR, kok X ρ3 kR → vok X ρ3 → agrM 65536 c_del1.2.2.2.2.1.1 c_del1.2.2.2.2.1.2 ρ3 ρ0 → ρ3.1 54752 = ρ3.1 2240 → ρ3.1 1760 = ρ.1 1760 + 1 → ρ3.1 19936 = ρ.1 19936 + 1 → (∀ j, ρ3.2.2.1 1600 j = if (ρ.1 1760).toNatClampNeg = j then ρ.1 54912 else ρ.2.2.1 1600 j) → (∀ j, ρ3.2.2.2.1 1473 j = if (ρ.1 1760).toNatClampNeg = j then ρ.2.1 5121 else ρ.2.2.2.1 1473 j) → (∀ j, ρ3.2.2.1 19776 j = if (ρ.1 19936).toNatClampNeg = j then ρ.1 54912 else ρ.2.2.1 19776 j) → (∀ j, ρ3.2.2.2.1 5185 j = if (ρ.1 19936).toNatClampNeg = j then ρ.2.1 5121 else ρ.2.2.2.1 5185 j) → AT X zBC c_del1 2 ρ0 ρ3 q_del1e := by
    intro ρ3 l1 l2 l4 e1 e2 e3 e4 e5 e6 e7
    have s1 : ρ3.1 60064 = ρ.1 60064 := ((l4.1 60064 (by decide) (by decide)).1).trans ((k4.1 60064 (by decide) (by decide)).1).symm
    have es : ρ3.1 1760 = ρ3.1 19936 := by rw [e2, e3, e]
    refine AT_of (q := q_del1n) rfl rfl (CUT_run kR_x kR_0 (Cs := []) (fun C hC => by cases hC) c_del1_f (Q := []) hv (fun q hq => by cases hq) 20 (b1 := true) (b2 := true) k_del1n ρ3 l1 ⟨l2, ?_⟩ (fun c hc => by cases hc) l4)
    refine fcq (decide_eq_true es) (fcq (decide_eq_false ?_) (fcq (decide_eq_false ?_) (fcq (decide_eq_false ?_) (fcq (decide_eq_false ?_) (fcq (decide_eq_false ?_) (fcq ?_ (fcq ?_ (fcq (decide_eq_false ?_) (fcq (decide_eq_true e1) (fun f hf => by cases hf))))))))))
    · show ¬ ρ3.1 19936 < 0
      rw [Int32.lt_iff_toInt_lt, z0, e3, i1]; omega
    · show ¬ (8 : Int32) < ρ3.1 19936
      rw [Int32.lt_iff_toInt_lt, z8, e3, i1]; omega
    · show ¬ ρ3.1 1760 < 0
      rw [es, Int32.lt_iff_toInt_lt, z0, e3, i1]; omega
    · show ¬ (8 : Int32) < ρ3.1 1760
      rw [es, Int32.lt_iff_toInt_lt, z8, e3, i1]; omega
    · show ¬ ρ3.1 1760 < ρ3.1 19936
      rw [es]; exact Int32.lt_irrefl
    · show (List.range (ρ3.1 19936).toInt.toNat).all (fun j => decide (ρ3.2.2.1 1600 ((ρ3.1 1760 - ρ3.1 19936).toInt.toNat + j) = ρ3.2.2.1 19776 j)) = true
      refine n106_of (fun j hj => ?_)
      rw [e3, i1] at hj
      rw [es, d0, show (0 : Int).toNat + j = j from Nat.zero_add j, e4, e6, e]
      by_cases hc : (ρ.1 19936).toNatClampNeg = j
      · rw [if_pos hc, if_pos hc]
      · rw [if_neg hc, if_neg hc]
        rw [s_nat] at hc
        have h := n106_get h6 (j := j) (by omega)
        rw [e, d0, show (0 : Int).toNat + j = j from Nat.zero_add j] at h
        exact h
    · show (List.range (ρ3.1 19936).toInt.toNat).all (fun j => decide (ρ3.2.2.2.1 1473 ((ρ3.1 1760 - ρ3.1 19936).toInt.toNat + j) = ρ3.2.2.2.1 5185 j)) = true
      refine n106_of (fun j hj => ?_)
      rw [e3, i1] at hj
      rw [es, d0, show (0 : Int).toNat + j = j from Nat.zero_add j, e5, e7, e]
      by_cases hc : (ρ.1 19936).toNatClampNeg = j
      · rw [if_pos hc, if_pos hc]
      · rw [if_neg hc, if_neg hc]
        rw [s_nat] at hc
        have h := n106_get h7 (j := j) (by omega)
        rw [e, d0, show (0 : Int).toNat + j = j from Nat.zero_add j] at h
        exact h
    · show ¬ ρ3.1 60064 + 1 < ρ3.1 19936
      rw [s1, Int32.lt_iff_toInt_lt, ik, e3, i1]; omega
  by_cases hc : (0 : Int32) < ρ.1 2240
  · have hm : ρ.1 54752 = ρ.1 2240 - 1 := of_decide_eq_true (k3 _ (List.mem_cons_self) (fun f hf => by rw [List.mem_singleton.mp hf]; exact decide_eq_true hc))
    refine AT_of (q := q_del1P) rfl rfl (SEM_runB kR_x kR_0 (Cs := []) (fun C hC => by cases hC) c_del1_f (Q := w_del1P) hv 90 (b1 := true) (b2 := true) k_del1P k1 ⟨k2.1, fcq (decide_eq_true hc) (fcq f1 (fcq f2 (fcq f3 (fcq f4 (fun f hf => by cases hf)))))⟩ (fun c hc => by cases hc) k4 (fun p hp ρ3 m1 m2 m3 m4 m5 m6 => ?_))
    rw [List.mem_singleton.mp hp] at m2 m3 m5 m6 ⊢
    have sm : ρ3.1 54752 = ρ.1 54752 := ((m4.1 54752 (by decide) (by decide)).1).trans ((k4.1 54752 (by decide) (by decide)).1).symm
    have c3 : ρ3.1 2240 = ρ.1 2240 - 1 := congrArg Prod.fst (m5 (2240, .sub (.arg 2240) (.int 1)) (List.mem_cons_of_mem _ (List.mem_cons_of_mem _ List.mem_cons_self)))
    refine fin ρ3 m1 m2.1 m4 (by rw [sm, c3, hm]) (congrArg Prod.fst (m5 (1760, .add (.arg 1760) (.int 1)) List.mem_cons_self)) (congrArg Prod.fst (m5 (19936, .add (.arg 19936) (.int 1)) (List.mem_cons_of_mem _ List.mem_cons_self))) (fun j => ?_) (fun j => ?_) (fun j => ?_) (fun j => ?_)
    · have h := m6 (1600, .arg 1600, [(.arg 1760, .arg 54912)]) (List.mem_cons_self) j
      rw [bd_ev (by decide)] at h
      unfold aden at h
      dsimp only at h
      by_cases hq : (sd X ρ (Jvm.Term.arg 1760)).1.toNatClampNeg = j
      · rw [if_pos hq] at h
        exact Eq.trans (Value.int.inj h) (if_pos hq).symm
      · rw [if_neg hq] at h
        exact Eq.trans (Value.int.inj (h.trans (bd_ev (by decide)))) (if_neg hq).symm
    · have h := m6 (1473, .arg 1473, [(.arg 1760, .arg 5121)]) (List.mem_cons_of_mem _ (List.mem_cons_self)) j
      rw [bd_od (by decide)] at h
      unfold aden at h
      dsimp only at h
      by_cases hq : (sd X ρ (Jvm.Term.arg 1760)).1.toNatClampNeg = j
      · rw [if_pos hq] at h
        exact Eq.trans (Value.long.inj h) (if_pos hq).symm
      · rw [if_neg hq] at h
        exact Eq.trans (Value.long.inj (h.trans (bd_od (by decide)))) (if_neg hq).symm
    · have h := m6 (19776, .arg 19776, [(.arg 19936, .arg 54912)]) (List.mem_cons_of_mem _ (List.mem_cons_of_mem _ (List.mem_cons_self))) j
      rw [bd_ev (by decide)] at h
      unfold aden at h
      dsimp only at h
      by_cases hq : (sd X ρ (Jvm.Term.arg 19936)).1.toNatClampNeg = j
      · rw [if_pos hq] at h
        exact Eq.trans (Value.int.inj h) (if_pos hq).symm
      · rw [if_neg hq] at h
        exact Eq.trans (Value.int.inj (h.trans (bd_ev (by decide)))) (if_neg hq).symm
    · have h := m6 (5185, .arg 5185, [(.arg 19936, .arg 5121)]) (List.mem_cons_of_mem _ (List.mem_cons_of_mem _ (List.mem_cons_of_mem _ (List.mem_cons_self)))) j
      rw [bd_od (by decide)] at h
      unfold aden at h
      dsimp only at h
      by_cases hq : (sd X ρ (Jvm.Term.arg 19936)).1.toNatClampNeg = j
      · rw [if_pos hq] at h
        exact Eq.trans (Value.long.inj h) (if_pos hq).symm
      · rw [if_neg hq] at h
        exact Eq.trans (Value.long.inj (h.trans (bd_od (by decide)))) (if_neg hq).symm
  · have hm : ρ.1 54752 = ρ.1 2240 := of_decide_eq_true (k3 _ (List.mem_cons_of_mem _ (List.mem_cons_self)) (fun f hf => by rw [List.mem_singleton.mp hf]; exact decide_eq_false hc))
    refine AT_of (q := q_del1Z) rfl rfl (SEM_runB kR_x kR_0 (Cs := []) (fun C hC => by cases hC) c_del1_f (Q := w_del1Z) hv 90 (b1 := true) (b2 := true) k_del1Z k1 ⟨k2.1, fcq (decide_eq_false hc) (fcq f1 (fcq f2 (fcq f3 (fcq f4 (fun f hf => by cases hf)))))⟩ (fun c hc => by cases hc) k4 (fun p hp ρ3 m1 m2 m3 m4 m5 m6 => ?_))
    rw [List.mem_singleton.mp hp] at m2 m3 m5 m6 ⊢
    have sm : ρ3.1 54752 = ρ.1 54752 := ((m4.1 54752 (by decide) (by decide)).1).trans ((k4.1 54752 (by decide) (by decide)).1).symm
    have c3 : ρ3.1 2240 = ρ.1 2240 := congrArg Prod.fst (m5 (2240, .arg 2240) (List.mem_cons_of_mem _ (List.mem_cons_of_mem _ List.mem_cons_self)))
    refine fin ρ3 m1 m2.1 m4 (by rw [sm, c3, hm]) (congrArg Prod.fst (m5 (1760, .add (.arg 1760) (.int 1)) List.mem_cons_self)) (congrArg Prod.fst (m5 (19936, .add (.arg 19936) (.int 1)) (List.mem_cons_of_mem _ List.mem_cons_self))) (fun j => ?_) (fun j => ?_) (fun j => ?_) (fun j => ?_)
    · have h := m6 (1600, .arg 1600, [(.arg 1760, .arg 54912)]) (List.mem_cons_self) j
      rw [bd_ev (by decide)] at h
      unfold aden at h
      dsimp only at h
      by_cases hq : (sd X ρ (Jvm.Term.arg 1760)).1.toNatClampNeg = j
      · rw [if_pos hq] at h
        exact Eq.trans (Value.int.inj h) (if_pos hq).symm
      · rw [if_neg hq] at h
        exact Eq.trans (Value.int.inj (h.trans (bd_ev (by decide)))) (if_neg hq).symm
    · have h := m6 (1473, .arg 1473, [(.arg 1760, .arg 5121)]) (List.mem_cons_of_mem _ (List.mem_cons_self)) j
      rw [bd_od (by decide)] at h
      unfold aden at h
      dsimp only at h
      by_cases hq : (sd X ρ (Jvm.Term.arg 1760)).1.toNatClampNeg = j
      · rw [if_pos hq] at h
        exact Eq.trans (Value.long.inj h) (if_pos hq).symm
      · rw [if_neg hq] at h
        exact Eq.trans (Value.long.inj (h.trans (bd_od (by decide)))) (if_neg hq).symm
    · have h := m6 (19776, .arg 19776, [(.arg 19936, .arg 54912)]) (List.mem_cons_of_mem _ (List.mem_cons_of_mem _ (List.mem_cons_self))) j
      rw [bd_ev (by decide)] at h
      unfold aden at h
      dsimp only at h
      by_cases hq : (sd X ρ (Jvm.Term.arg 19936)).1.toNatClampNeg = j
      · rw [if_pos hq] at h
        exact Eq.trans (Value.int.inj h) (if_pos hq).symm
      · rw [if_neg hq] at h
        exact Eq.trans (Value.int.inj (h.trans (bd_ev (by decide)))) (if_neg hq).symm
    · have h := m6 (5185, .arg 5185, [(.arg 19936, .arg 5121)]) (List.mem_cons_of_mem _ (List.mem_cons_of_mem _ (List.mem_cons_of_mem _ (List.mem_cons_self)))) j
      rw [bd_od (by decide)] at h
      unfold aden at h
      dsimp only at h
      by_cases hq : (sd X ρ (Jvm.Term.arg 19936)).1.toNatClampNeg = j
      · rw [if_pos hq] at h
        exact Eq.trans (Value.long.inj h) (if_pos hq).symm
      · rw [if_neg hq] at h
        exact Eq.trans (Value.long.inj (h.trans (bd_od (by decide)))) (if_neg hq).symm
theorem s_del1 {X : pX} : SREL X pF pdfl mt_all kR zBC c_del1 := SREL_cut kR_x kR_0 (Cs := []) (fun C hC => by cases hC) (d := 2) rfl c_del1_f (Q := [q_del1]) (fun ρ0 hv q hq => by rw [List.mem_singleton.mp hq]; exact t_del1 hv) 10 e_del1
/-! ===== a frame comes to station 2: Bus.deliver and arrive ===== -/
noncomputable def c_del2 : sC := ((47, 252, 3), ([tr 2, .int 2, .arg 54912, .arg 5121], [tr 219, .int 2]), ([2, 33, 16, 19, 22, 25, 28], [219, 242, 243, 244, 245, 246]), [((0, .arg 1792, .arg 19968), true), ((2, .arg 19968, .int 0), false), ((2, .int 8, .arg 19968), false), ((2, .arg 1792, .int 0), false), ((2, .int 8, .arg 1792), false), ((2, .arg 1792, .arg 19968), false), ((106, .add (.sub (.arg 1792) (.arg 19968)) (.add (.elem (.arg 1632) (.int 0)) (.elem (.arg 19808) (.int 0))), .arg 19968), true), ((107, .add (.sub (.arg 1792) (.arg 19968)) (.add (.elem (.arg 1505) (.int 0)) (.elem (.arg 5217) (.int 0))), .arg 19968), true), ((2, .arg 60064, .arg 19968), false), ((2, .arg 60064, .int 0), false), ((2, .int 7, .arg 60064), false)], ([1792, 19968, 2272], [1632, 1505, 19808, 5217]), (none, none), [((0, .arg 1792, .arg 19968), true), ((2, .arg 19968, .int 0), false), ((2, .int 8, .arg 19968), false), ((2, .arg 1792, .int 0), false), ((2, .int 8, .arg 1792), false), ((2, .arg 1792, .arg 19968), false), ((106, .add (.sub (.arg 1792) (.arg 19968)) (.add (.elem (.arg 1632) (.int 0)) (.elem (.arg 19808) (.int 0))), .arg 19968), true), ((107, .add (.sub (.arg 1792) (.arg 19968)) (.add (.elem (.arg 1505) (.int 0)) (.elem (.arg 5217) (.int 0))), .arg 19968), true), ((2, .add (.arg 60064) (.int 1), .arg 19968), false), ((0, .arg 54784, .arg 2272), true)], ([([((2, .int 0, .arg 2272), true)], (0, .arg 54784, .sub (.arg 2272) (.int 1)), true), ([((2, .int 0, .arg 2272), false)], (0, .arg 54784, .arg 2272), true)], []))
theorem c_del2_f : cfine zBC 65536 c_del2 = true := by decide +kernel
noncomputable def q_del2 : sCut := ((fr 0 47 0 [(0, tr 2), (1, .int 2), (2, .arg 54912), (3, .arg 5121)] [], [fBot], 2), (fr 0 252 0 [(0, tr 219), (1, .int 2)] [], [fBot], 2), [((0, .arg 1792, .arg 19968), true), ((2, .arg 19968, .int 0), false), ((2, .int 8, .arg 19968), false), ((2, .arg 1792, .int 0), false), ((2, .int 8, .arg 1792), false), ((2, .arg 1792, .arg 19968), false), ((106, .add (.sub (.arg 1792) (.arg 19968)) (.add (.elem (.arg 1632) (.int 0)) (.elem (.arg 19808) (.int 0))), .arg 19968), true), ((107, .add (.sub (.arg 1792) (.arg 19968)) (.add (.elem (.arg 1505) (.int 0)) (.elem (.arg 5217) (.int 0))), .arg 19968), true), ((2, .arg 60064, .arg 19968), false), ((2, .arg 60064, .int 0), false), ((2, .int 7, .arg 60064), false)], [([((2, .int 0, .arg 2272), true)], (0, .arg 54784, .sub (.arg 2272) (.int 1)), true), ([((2, .int 0, .arg 2272), false)], (0, .arg 54784, .arg 2272), true)])
noncomputable def q_del2e : sCut := ((fr 0 47 50 [(0, tr 2)] [], [fBot], 2), (fr 0 252 51 [(0, tr 219)] [], [fBot], 2), [], [])
noncomputable def q_del2n : sCut := ((fr 0 47 50 [(0, tr 2)] [], [fBot], 2), (fr 0 252 51 [(0, tr 219)] [], [fBot], 2), [((0, .arg 1792, .arg 19968), true), ((2, .arg 19968, .int 0), false), ((2, .int 8, .arg 19968), false), ((2, .arg 1792, .int 0), false), ((2, .int 8, .arg 1792), false), ((2, .arg 1792, .arg 19968), false), ((106, .add (.sub (.arg 1792) (.arg 19968)) (.add (.elem (.arg 1632) (.int 0)) (.elem (.arg 19808) (.int 0))), .arg 19968), true), ((107, .add (.sub (.arg 1792) (.arg 19968)) (.add (.elem (.arg 1505) (.int 0)) (.elem (.arg 5217) (.int 0))), .arg 19968), true), ((2, .add (.arg 60064) (.int 1), .arg 19968), false), ((0, .arg 54784, .arg 2272), true)], [])
noncomputable def q_del2P : sCut := ((fr 0 47 0 [(0, tr 2), (1, .int 2), (2, .arg 54912), (3, .arg 5121)] [], [fBot], 2), (fr 0 252 0 [(0, tr 219), (1, .int 2)] [], [fBot], 2), [((2, .int 0, .arg 2272), true), ((2, .int 7, .arg 19968), false), ((2, .int 7, .arg 1792), false), ((2, .arg 1792, .int 0), false), ((2, .arg 19968, .int 0), false)], [])
noncomputable def w_del2P : List (sCut × List (Nat × sT) × List (Nat × sT × List (sT × sT))) := [(q_del2e, [(1792, .add (.arg 1792) (.int 1)), (19968, .add (.arg 19968) (.int 1)), (2272, .sub (.arg 2272) (.int 1))], [(1632, .arg 1632, [(.arg 1792, .arg 54912)]), (1505, .arg 1505, [(.arg 1792, .arg 5121)]), (19808, .arg 19808, [(.arg 19968, .arg 54912)]), (5217, .arg 5217, [(.arg 19968, .arg 5121)])])]
theorem k_del2P : cbody kR [] (cpl1 zBC c_del2 [q_del2e]) (cpl2 zBC c_del2 [q_del2e]) (cleafB kR zBC c_del2 w_del2P) 90 true true q_del2P.2.2.1 q_del2P.2.2.2 (cst zBC c_del2.2.2.1.1 q_del2P.1) (cst zBC c_del2.2.2.1.2 q_del2P.2.1) = true := by decide +kernel
noncomputable def q_del2Z : sCut := ((fr 0 47 0 [(0, tr 2), (1, .int 2), (2, .arg 54912), (3, .arg 5121)] [], [fBot], 2), (fr 0 252 0 [(0, tr 219), (1, .int 2)] [], [fBot], 2), [((2, .int 0, .arg 2272), false), ((2, .int 7, .arg 19968), false), ((2, .int 7, .arg 1792), false), ((2, .arg 1792, .int 0), false), ((2, .arg 19968, .int 0), false)], [])
noncomputable def w_del2Z : List (sCut × List (Nat × sT) × List (Nat × sT × List (sT × sT))) := [(q_del2e, [(1792, .add (.arg 1792) (.int 1)), (19968, .add (.arg 19968) (.int 1)), (2272, .arg 2272)], [(1632, .arg 1632, [(.arg 1792, .arg 54912)]), (1505, .arg 1505, [(.arg 1792, .arg 5121)]), (19808, .arg 19808, [(.arg 19968, .arg 54912)]), (5217, .arg 5217, [(.arg 19968, .arg 5121)])])]
theorem k_del2Z : cbody kR [] (cpl1 zBC c_del2 [q_del2e]) (cpl2 zBC c_del2 [q_del2e]) (cleafB kR zBC c_del2 w_del2Z) 90 true true q_del2Z.2.2.1 q_del2Z.2.2.2 (cst zBC c_del2.2.2.1.1 q_del2Z.1) (cst zBC c_del2.2.2.1.2 q_del2Z.2.1) = true := by decide +kernel
theorem k_del2n : cbody kR [] (cpl1 zBC c_del2 []) (cpl2 zBC c_del2 []) (cleaf kR zBC c_del2 []) 20 true true q_del2n.2.2.1 q_del2n.2.2.2 (cst zBC c_del2.2.2.1.1 q_del2n.1) (cst zBC c_del2.2.2.1.2 q_del2n.2.1) = true := by decide +kernel
theorem e_del2 : frun kR [] (cpl1 zBC c_del2 [q_del2]) (cpl2 zBC c_del2 [q_del2]) (cleaf kR zBC c_del2 [q_del2]) 10 65536 (isatP (c_del2.2.2.2.1) c_del2.2.2.2.2.2.2.2.1) c_del2.2.2.2.2.2.2.2.1 (sin0 mt_all c_del2.1.1 2 c_del2.2.1.1 (foot zBC c_del2.2.2.1.1)) (sin0 mt_all c_del2.1.2.1 2 c_del2.2.1.2 (foot zBC c_del2.2.2.1.2)) = true := by decide +kernel
theorem t_del2 {X : pX} {ρ0 : sR} (hv : vok X ρ0) : CUTOK X kR zBC c_del2 2 ρ0 q_del2 := by
  refine CUTOK_AT (fun ρ k1 k2 k3 k4 => ?_)
  have e : ρ.1 1792 = ρ.1 19968 := of_decide_eq_true (k2.2 _ (List.mem_cons_self))
  have g1 : ¬ ρ.1 19968 < 0 := of_decide_eq_false (k2.2 _ (List.mem_cons_of_mem _ (List.mem_cons_self)))
  have g3 : ¬ ρ.1 1792 < 0 := of_decide_eq_false (k2.2 _ (List.mem_cons_of_mem _ (List.mem_cons_of_mem _ (List.mem_cons_of_mem _ (List.mem_cons_self)))))
  have gk : ¬ ρ.1 60064 < ρ.1 19968 := of_decide_eq_false (k2.2 _ (List.mem_cons_of_mem _ (List.mem_cons_of_mem _ (List.mem_cons_of_mem _ (List.mem_cons_of_mem _ (List.mem_cons_of_mem _ (List.mem_cons_of_mem _ (List.mem_cons_of_mem _ (List.mem_cons_of_mem _ (List.mem_cons_self))))))))))
  have g7 : ¬ (7 : Int32) < ρ.1 60064 := of_decide_eq_false (k2.2 _ (List.mem_cons_of_mem _ (List.mem_cons_of_mem _ (List.mem_cons_of_mem _ (List.mem_cons_of_mem _ (List.mem_cons_of_mem _ (List.mem_cons_of_mem _ (List.mem_cons_of_mem _ (List.mem_cons_of_mem _ (List.mem_cons_of_mem _ (List.mem_cons_of_mem _ (List.mem_cons_self))))))))))))
  have h6 : (List.range (ρ.1 19968).toInt.toNat).all (fun j => decide (ρ.2.2.1 1632 ((ρ.1 1792 - ρ.1 19968).toInt.toNat + j) = ρ.2.2.1 19808 j)) = true := k2.2 _ (List.mem_cons_of_mem _ (List.mem_cons_of_mem _ (List.mem_cons_of_mem _ (List.mem_cons_of_mem _ (List.mem_cons_of_mem _ (List.mem_cons_of_mem _ (List.mem_cons_self)))))))
  have h7 : (List.range (ρ.1 19968).toInt.toNat).all (fun j => decide (ρ.2.2.2.1 1505 ((ρ.1 1792 - ρ.1 19968).toInt.toNat + j) = ρ.2.2.2.1 5217 j)) = true := k2.2 _ (List.mem_cons_of_mem _ (List.mem_cons_of_mem _ (List.mem_cons_of_mem _ (List.mem_cons_of_mem _ (List.mem_cons_of_mem _ (List.mem_cons_of_mem _ (List.mem_cons_of_mem _ (List.mem_cons_self))))))))
  have z0 : (0 : Int32).toInt = 0 := rfl
  have z7 : (7 : Int32).toInt = 7 := rfl
  have z8 : (8 : Int32).toInt = 8 := rfl
  rw [Int32.lt_iff_toInt_lt] at g1 g3 gk g7
  rw [z0] at g1 g3
  rw [z7] at g7
  have i1 : (ρ.1 19968 + 1).toInt = (ρ.1 19968).toInt + 1 := s_add (y := 1) (by show _ ≤ _ + (1 : Int); omega) (by show _ + (1 : Int) ≤ _; omega)
  have ik : (ρ.1 60064 + 1).toInt = (ρ.1 60064).toInt + 1 := s_add (y := 1) (by show _ ≤ _ + (1 : Int); omega) (by show _ + (1 : Int) ≤ _; omega)
  have d0 : ∀ x : Int32, (x - x).toInt = 0 := fun x => by rw [Int32.sub_self]; rfl
  have f1 : sc X ρ (2, .int 7, .arg 19968) = false := decide_eq_false (nlt_i (show (ρ.1 19968).toInt ≤ (7 : Int32).toInt by omega))
  have f2 : sc X ρ (2, .int 7, .arg 1792) = false := decide_eq_false (nlt_i (show (ρ.1 1792).toInt ≤ (7 : Int32).toInt by rw [e]; omega))
  have f3 : sc X ρ (2, .arg 1792, .int 0) = false := k2.2 _ (List.mem_cons_of_mem _ (List.mem_cons_of_mem _ (List.mem_cons_of_mem _ (List.mem_cons_self))))
  have f4 : sc X ρ (2, .arg 19968, .int 0) = false := k2.2 _ (List.mem_cons_of_mem _ (List.mem_cons_self))
  have fin : ∀ ρ3 : sR, kok X ρ3 kR → vok X ρ3 → agrM 65536 c_del2.2.2.2.2.1.1 c_del2.2.2.2.2.1.2 ρ3 ρ0 → ρ3.1 54784 = ρ3.1 2272 → ρ3.1 1792 = ρ.1 1792 + 1 → ρ3.1 19968 = ρ.1 19968 + 1 → (∀ j, ρ3.2.2.1 1632 j = if (ρ.1 1792).toNatClampNeg = j then ρ.1 54912 else ρ.2.2.1 1632 j) → (∀ j, ρ3.2.2.2.1 1505 j = if (ρ.1 1792).toNatClampNeg = j then ρ.2.1 5121 else ρ.2.2.2.1 1505 j) → (∀ j, ρ3.2.2.1 19808 j = if (ρ.1 19968).toNatClampNeg = j then ρ.1 54912 else ρ.2.2.1 19808 j) → (∀ j, ρ3.2.2.2.1 5217 j = if (ρ.1 19968).toNatClampNeg = j then ρ.2.1 5121 else ρ.2.2.2.1 5217 j) → AT X zBC c_del2 2 ρ0 ρ3 q_del2e := by
    intro ρ3 l1 l2 l4 e1 e2 e3 e4 e5 e6 e7
    have s1 : ρ3.1 60064 = ρ.1 60064 := ((l4.1 60064 (by decide) (by decide)).1).trans ((k4.1 60064 (by decide) (by decide)).1).symm
    have es : ρ3.1 1792 = ρ3.1 19968 := by rw [e2, e3, e]
    refine AT_of (q := q_del2n) rfl rfl (CUT_run kR_x kR_0 (Cs := []) (fun C hC => by cases hC) c_del2_f (Q := []) hv (fun q hq => by cases hq) 20 (b1 := true) (b2 := true) k_del2n ρ3 l1 ⟨l2, ?_⟩ (fun c hc => by cases hc) l4)
    refine fcq (decide_eq_true es) (fcq (decide_eq_false ?_) (fcq (decide_eq_false ?_) (fcq (decide_eq_false ?_) (fcq (decide_eq_false ?_) (fcq (decide_eq_false ?_) (fcq ?_ (fcq ?_ (fcq (decide_eq_false ?_) (fcq (decide_eq_true e1) (fun f hf => by cases hf))))))))))
    · show ¬ ρ3.1 19968 < 0
      rw [Int32.lt_iff_toInt_lt, z0, e3, i1]; omega
    · show ¬ (8 : Int32) < ρ3.1 19968
      rw [Int32.lt_iff_toInt_lt, z8, e3, i1]; omega
    · show ¬ ρ3.1 1792 < 0
      rw [es, Int32.lt_iff_toInt_lt, z0, e3, i1]; omega
    · show ¬ (8 : Int32) < ρ3.1 1792
      rw [es, Int32.lt_iff_toInt_lt, z8, e3, i1]; omega
    · show ¬ ρ3.1 1792 < ρ3.1 19968
      rw [es]; exact Int32.lt_irrefl
    · show (List.range (ρ3.1 19968).toInt.toNat).all (fun j => decide (ρ3.2.2.1 1632 ((ρ3.1 1792 - ρ3.1 19968).toInt.toNat + j) = ρ3.2.2.1 19808 j)) = true
      refine n106_of (fun j hj => ?_)
      rw [e3, i1] at hj
      rw [es, d0, show (0 : Int).toNat + j = j from Nat.zero_add j, e4, e6, e]
      by_cases hc : (ρ.1 19968).toNatClampNeg = j
      · rw [if_pos hc, if_pos hc]
      · rw [if_neg hc, if_neg hc]
        rw [s_nat] at hc
        have h := n106_get h6 (j := j) (by omega)
        rw [e, d0, show (0 : Int).toNat + j = j from Nat.zero_add j] at h
        exact h
    · show (List.range (ρ3.1 19968).toInt.toNat).all (fun j => decide (ρ3.2.2.2.1 1505 ((ρ3.1 1792 - ρ3.1 19968).toInt.toNat + j) = ρ3.2.2.2.1 5217 j)) = true
      refine n106_of (fun j hj => ?_)
      rw [e3, i1] at hj
      rw [es, d0, show (0 : Int).toNat + j = j from Nat.zero_add j, e5, e7, e]
      by_cases hc : (ρ.1 19968).toNatClampNeg = j
      · rw [if_pos hc, if_pos hc]
      · rw [if_neg hc, if_neg hc]
        rw [s_nat] at hc
        have h := n106_get h7 (j := j) (by omega)
        rw [e, d0, show (0 : Int).toNat + j = j from Nat.zero_add j] at h
        exact h
    · show ¬ ρ3.1 60064 + 1 < ρ3.1 19968
      rw [s1, Int32.lt_iff_toInt_lt, ik, e3, i1]; omega
  by_cases hc : (0 : Int32) < ρ.1 2272
  · have hm : ρ.1 54784 = ρ.1 2272 - 1 := of_decide_eq_true (k3 _ (List.mem_cons_self) (fun f hf => by rw [List.mem_singleton.mp hf]; exact decide_eq_true hc))
    refine AT_of (q := q_del2P) rfl rfl (SEM_runB kR_x kR_0 (Cs := []) (fun C hC => by cases hC) c_del2_f (Q := w_del2P) hv 90 (b1 := true) (b2 := true) k_del2P k1 ⟨k2.1, fcq (decide_eq_true hc) (fcq f1 (fcq f2 (fcq f3 (fcq f4 (fun f hf => by cases hf)))))⟩ (fun c hc => by cases hc) k4 (fun p hp ρ3 m1 m2 m3 m4 m5 m6 => ?_))
    rw [List.mem_singleton.mp hp] at m2 m3 m5 m6 ⊢
    have sm : ρ3.1 54784 = ρ.1 54784 := ((m4.1 54784 (by decide) (by decide)).1).trans ((k4.1 54784 (by decide) (by decide)).1).symm
    have c3 : ρ3.1 2272 = ρ.1 2272 - 1 := congrArg Prod.fst (m5 (2272, .sub (.arg 2272) (.int 1)) (List.mem_cons_of_mem _ (List.mem_cons_of_mem _ List.mem_cons_self)))
    refine fin ρ3 m1 m2.1 m4 (by rw [sm, c3, hm]) (congrArg Prod.fst (m5 (1792, .add (.arg 1792) (.int 1)) List.mem_cons_self)) (congrArg Prod.fst (m5 (19968, .add (.arg 19968) (.int 1)) (List.mem_cons_of_mem _ List.mem_cons_self))) (fun j => ?_) (fun j => ?_) (fun j => ?_) (fun j => ?_)
    · have h := m6 (1632, .arg 1632, [(.arg 1792, .arg 54912)]) (List.mem_cons_self) j
      rw [bd_ev (by decide)] at h
      unfold aden at h
      dsimp only at h
      by_cases hq : (sd X ρ (Jvm.Term.arg 1792)).1.toNatClampNeg = j
      · rw [if_pos hq] at h
        exact Eq.trans (Value.int.inj h) (if_pos hq).symm
      · rw [if_neg hq] at h
        exact Eq.trans (Value.int.inj (h.trans (bd_ev (by decide)))) (if_neg hq).symm
    · have h := m6 (1505, .arg 1505, [(.arg 1792, .arg 5121)]) (List.mem_cons_of_mem _ (List.mem_cons_self)) j
      rw [bd_od (by decide)] at h
      unfold aden at h
      dsimp only at h
      by_cases hq : (sd X ρ (Jvm.Term.arg 1792)).1.toNatClampNeg = j
      · rw [if_pos hq] at h
        exact Eq.trans (Value.long.inj h) (if_pos hq).symm
      · rw [if_neg hq] at h
        exact Eq.trans (Value.long.inj (h.trans (bd_od (by decide)))) (if_neg hq).symm
    · have h := m6 (19808, .arg 19808, [(.arg 19968, .arg 54912)]) (List.mem_cons_of_mem _ (List.mem_cons_of_mem _ (List.mem_cons_self))) j
      rw [bd_ev (by decide)] at h
      unfold aden at h
      dsimp only at h
      by_cases hq : (sd X ρ (Jvm.Term.arg 19968)).1.toNatClampNeg = j
      · rw [if_pos hq] at h
        exact Eq.trans (Value.int.inj h) (if_pos hq).symm
      · rw [if_neg hq] at h
        exact Eq.trans (Value.int.inj (h.trans (bd_ev (by decide)))) (if_neg hq).symm
    · have h := m6 (5217, .arg 5217, [(.arg 19968, .arg 5121)]) (List.mem_cons_of_mem _ (List.mem_cons_of_mem _ (List.mem_cons_of_mem _ (List.mem_cons_self)))) j
      rw [bd_od (by decide)] at h
      unfold aden at h
      dsimp only at h
      by_cases hq : (sd X ρ (Jvm.Term.arg 19968)).1.toNatClampNeg = j
      · rw [if_pos hq] at h
        exact Eq.trans (Value.long.inj h) (if_pos hq).symm
      · rw [if_neg hq] at h
        exact Eq.trans (Value.long.inj (h.trans (bd_od (by decide)))) (if_neg hq).symm
  · have hm : ρ.1 54784 = ρ.1 2272 := of_decide_eq_true (k3 _ (List.mem_cons_of_mem _ (List.mem_cons_self)) (fun f hf => by rw [List.mem_singleton.mp hf]; exact decide_eq_false hc))
    refine AT_of (q := q_del2Z) rfl rfl (SEM_runB kR_x kR_0 (Cs := []) (fun C hC => by cases hC) c_del2_f (Q := w_del2Z) hv 90 (b1 := true) (b2 := true) k_del2Z k1 ⟨k2.1, fcq (decide_eq_false hc) (fcq f1 (fcq f2 (fcq f3 (fcq f4 (fun f hf => by cases hf)))))⟩ (fun c hc => by cases hc) k4 (fun p hp ρ3 m1 m2 m3 m4 m5 m6 => ?_))
    rw [List.mem_singleton.mp hp] at m2 m3 m5 m6 ⊢
    have sm : ρ3.1 54784 = ρ.1 54784 := ((m4.1 54784 (by decide) (by decide)).1).trans ((k4.1 54784 (by decide) (by decide)).1).symm
    have c3 : ρ3.1 2272 = ρ.1 2272 := congrArg Prod.fst (m5 (2272, .arg 2272) (List.mem_cons_of_mem _ (List.mem_cons_of_mem _ List.mem_cons_self)))
    refine fin ρ3 m1 m2.1 m4 (by rw [sm, c3, hm]) (congrArg Prod.fst (m5 (1792, .add (.arg 1792) (.int 1)) List.mem_cons_self)) (congrArg Prod.fst (m5 (19968, .add (.arg 19968) (.int 1)) (List.mem_cons_of_mem _ List.mem_cons_self))) (fun j => ?_) (fun j => ?_) (fun j => ?_) (fun j => ?_)
    · have h := m6 (1632, .arg 1632, [(.arg 1792, .arg 54912)]) (List.mem_cons_self) j
      rw [bd_ev (by decide)] at h
      unfold aden at h
      dsimp only at h
      by_cases hq : (sd X ρ (Jvm.Term.arg 1792)).1.toNatClampNeg = j
      · rw [if_pos hq] at h
        exact Eq.trans (Value.int.inj h) (if_pos hq).symm
      · rw [if_neg hq] at h
        exact Eq.trans (Value.int.inj (h.trans (bd_ev (by decide)))) (if_neg hq).symm
    · have h := m6 (1505, .arg 1505, [(.arg 1792, .arg 5121)]) (List.mem_cons_of_mem _ (List.mem_cons_self)) j
      rw [bd_od (by decide)] at h
      unfold aden at h
      dsimp only at h
      by_cases hq : (sd X ρ (Jvm.Term.arg 1792)).1.toNatClampNeg = j
      · rw [if_pos hq] at h
        exact Eq.trans (Value.long.inj h) (if_pos hq).symm
      · rw [if_neg hq] at h
        exact Eq.trans (Value.long.inj (h.trans (bd_od (by decide)))) (if_neg hq).symm
    · have h := m6 (19808, .arg 19808, [(.arg 19968, .arg 54912)]) (List.mem_cons_of_mem _ (List.mem_cons_of_mem _ (List.mem_cons_self))) j
      rw [bd_ev (by decide)] at h
      unfold aden at h
      dsimp only at h
      by_cases hq : (sd X ρ (Jvm.Term.arg 19968)).1.toNatClampNeg = j
      · rw [if_pos hq] at h
        exact Eq.trans (Value.int.inj h) (if_pos hq).symm
      · rw [if_neg hq] at h
        exact Eq.trans (Value.int.inj (h.trans (bd_ev (by decide)))) (if_neg hq).symm
    · have h := m6 (5217, .arg 5217, [(.arg 19968, .arg 5121)]) (List.mem_cons_of_mem _ (List.mem_cons_of_mem _ (List.mem_cons_of_mem _ (List.mem_cons_self)))) j
      rw [bd_od (by decide)] at h
      unfold aden at h
      dsimp only at h
      by_cases hq : (sd X ρ (Jvm.Term.arg 19968)).1.toNatClampNeg = j
      · rw [if_pos hq] at h
        exact Eq.trans (Value.long.inj h) (if_pos hq).symm
      · rw [if_neg hq] at h
        exact Eq.trans (Value.long.inj (h.trans (bd_od (by decide)))) (if_neg hq).symm
theorem s_del2 {X : pX} : SREL X pF pdfl mt_all kR zBC c_del2 := SREL_cut kR_x kR_0 (Cs := []) (fun C hC => by cases hC) (d := 2) rfl c_del2_f (Q := [q_del2]) (fun ρ0 hv q hq => by rw [List.mem_singleton.mp hq]; exact t_del2 hv) 10 e_del2
/-! ===== a frame comes to station 3: Bus.deliver and arrive ===== -/
noncomputable def c_del3 : sC := ((47, 252, 3), ([tr 2, .int 3, .arg 54912, .arg 5121], [tr 219, .int 3]), ([2, 33, 16, 20, 22, 26, 28], [219, 242, 243, 244, 245, 246]), [((0, .arg 1824, .arg 20000), true), ((2, .arg 20000, .int 0), false), ((2, .int 8, .arg 20000), false), ((2, .arg 1824, .int 0), false), ((2, .int 8, .arg 1824), false), ((2, .arg 1824, .arg 20000), false), ((106, .add (.sub (.arg 1824) (.arg 20000)) (.add (.elem (.arg 1664) (.int 0)) (.elem (.arg 19840) (.int 0))), .arg 20000), true), ((107, .add (.sub (.arg 1824) (.arg 20000)) (.add (.elem (.arg 1537) (.int 0)) (.elem (.arg 5249) (.int 0))), .arg 20000), true), ((2, .arg 60064, .arg 20000), false), ((2, .arg 60064, .int 0), false), ((2, .int 7, .arg 60064), false)], ([1824, 20000, 2304], [1664, 1537, 19840, 5249]), (none, none), [((0, .arg 1824, .arg 20000), true), ((2, .arg 20000, .int 0), false), ((2, .int 8, .arg 20000), false), ((2, .arg 1824, .int 0), false), ((2, .int 8, .arg 1824), false), ((2, .arg 1824, .arg 20000), false), ((106, .add (.sub (.arg 1824) (.arg 20000)) (.add (.elem (.arg 1664) (.int 0)) (.elem (.arg 19840) (.int 0))), .arg 20000), true), ((107, .add (.sub (.arg 1824) (.arg 20000)) (.add (.elem (.arg 1537) (.int 0)) (.elem (.arg 5249) (.int 0))), .arg 20000), true), ((2, .add (.arg 60064) (.int 1), .arg 20000), false), ((0, .arg 54816, .arg 2304), true)], ([([((2, .int 0, .arg 2304), true)], (0, .arg 54816, .sub (.arg 2304) (.int 1)), true), ([((2, .int 0, .arg 2304), false)], (0, .arg 54816, .arg 2304), true)], []))
theorem c_del3_f : cfine zBC 65536 c_del3 = true := by decide +kernel
noncomputable def q_del3 : sCut := ((fr 0 47 0 [(0, tr 2), (1, .int 3), (2, .arg 54912), (3, .arg 5121)] [], [fBot], 2), (fr 0 252 0 [(0, tr 219), (1, .int 3)] [], [fBot], 2), [((0, .arg 1824, .arg 20000), true), ((2, .arg 20000, .int 0), false), ((2, .int 8, .arg 20000), false), ((2, .arg 1824, .int 0), false), ((2, .int 8, .arg 1824), false), ((2, .arg 1824, .arg 20000), false), ((106, .add (.sub (.arg 1824) (.arg 20000)) (.add (.elem (.arg 1664) (.int 0)) (.elem (.arg 19840) (.int 0))), .arg 20000), true), ((107, .add (.sub (.arg 1824) (.arg 20000)) (.add (.elem (.arg 1537) (.int 0)) (.elem (.arg 5249) (.int 0))), .arg 20000), true), ((2, .arg 60064, .arg 20000), false), ((2, .arg 60064, .int 0), false), ((2, .int 7, .arg 60064), false)], [([((2, .int 0, .arg 2304), true)], (0, .arg 54816, .sub (.arg 2304) (.int 1)), true), ([((2, .int 0, .arg 2304), false)], (0, .arg 54816, .arg 2304), true)])
noncomputable def q_del3e : sCut := ((fr 0 47 50 [(0, tr 2)] [], [fBot], 2), (fr 0 252 51 [(0, tr 219)] [], [fBot], 2), [], [])
noncomputable def q_del3n : sCut := ((fr 0 47 50 [(0, tr 2)] [], [fBot], 2), (fr 0 252 51 [(0, tr 219)] [], [fBot], 2), [((0, .arg 1824, .arg 20000), true), ((2, .arg 20000, .int 0), false), ((2, .int 8, .arg 20000), false), ((2, .arg 1824, .int 0), false), ((2, .int 8, .arg 1824), false), ((2, .arg 1824, .arg 20000), false), ((106, .add (.sub (.arg 1824) (.arg 20000)) (.add (.elem (.arg 1664) (.int 0)) (.elem (.arg 19840) (.int 0))), .arg 20000), true), ((107, .add (.sub (.arg 1824) (.arg 20000)) (.add (.elem (.arg 1537) (.int 0)) (.elem (.arg 5249) (.int 0))), .arg 20000), true), ((2, .add (.arg 60064) (.int 1), .arg 20000), false), ((0, .arg 54816, .arg 2304), true)], [])
noncomputable def q_del3P : sCut := ((fr 0 47 0 [(0, tr 2), (1, .int 3), (2, .arg 54912), (3, .arg 5121)] [], [fBot], 2), (fr 0 252 0 [(0, tr 219), (1, .int 3)] [], [fBot], 2), [((2, .int 0, .arg 2304), true), ((2, .int 7, .arg 20000), false), ((2, .int 7, .arg 1824), false), ((2, .arg 1824, .int 0), false), ((2, .arg 20000, .int 0), false)], [])
noncomputable def w_del3P : List (sCut × List (Nat × sT) × List (Nat × sT × List (sT × sT))) := [(q_del3e, [(1824, .add (.arg 1824) (.int 1)), (20000, .add (.arg 20000) (.int 1)), (2304, .sub (.arg 2304) (.int 1))], [(1664, .arg 1664, [(.arg 1824, .arg 54912)]), (1537, .arg 1537, [(.arg 1824, .arg 5121)]), (19840, .arg 19840, [(.arg 20000, .arg 54912)]), (5249, .arg 5249, [(.arg 20000, .arg 5121)])])]
theorem k_del3P : cbody kR [] (cpl1 zBC c_del3 [q_del3e]) (cpl2 zBC c_del3 [q_del3e]) (cleafB kR zBC c_del3 w_del3P) 90 true true q_del3P.2.2.1 q_del3P.2.2.2 (cst zBC c_del3.2.2.1.1 q_del3P.1) (cst zBC c_del3.2.2.1.2 q_del3P.2.1) = true := by decide +kernel
noncomputable def q_del3Z : sCut := ((fr 0 47 0 [(0, tr 2), (1, .int 3), (2, .arg 54912), (3, .arg 5121)] [], [fBot], 2), (fr 0 252 0 [(0, tr 219), (1, .int 3)] [], [fBot], 2), [((2, .int 0, .arg 2304), false), ((2, .int 7, .arg 20000), false), ((2, .int 7, .arg 1824), false), ((2, .arg 1824, .int 0), false), ((2, .arg 20000, .int 0), false)], [])
noncomputable def w_del3Z : List (sCut × List (Nat × sT) × List (Nat × sT × List (sT × sT))) := [(q_del3e, [(1824, .add (.arg 1824) (.int 1)), (20000, .add (.arg 20000) (.int 1)), (2304, .arg 2304)], [(1664, .arg 1664, [(.arg 1824, .arg 54912)]), (1537, .arg 1537, [(.arg 1824, .arg 5121)]), (19840, .arg 19840, [(.arg 20000, .arg 54912)]), (5249, .arg 5249, [(.arg 20000, .arg 5121)])])]
theorem k_del3Z : cbody kR [] (cpl1 zBC c_del3 [q_del3e]) (cpl2 zBC c_del3 [q_del3e]) (cleafB kR zBC c_del3 w_del3Z) 90 true true q_del3Z.2.2.1 q_del3Z.2.2.2 (cst zBC c_del3.2.2.1.1 q_del3Z.1) (cst zBC c_del3.2.2.1.2 q_del3Z.2.1) = true := by decide +kernel
theorem k_del3n : cbody kR [] (cpl1 zBC c_del3 []) (cpl2 zBC c_del3 []) (cleaf kR zBC c_del3 []) 20 true true q_del3n.2.2.1 q_del3n.2.2.2 (cst zBC c_del3.2.2.1.1 q_del3n.1) (cst zBC c_del3.2.2.1.2 q_del3n.2.1) = true := by decide +kernel
theorem e_del3 : frun kR [] (cpl1 zBC c_del3 [q_del3]) (cpl2 zBC c_del3 [q_del3]) (cleaf kR zBC c_del3 [q_del3]) 10 65536 (isatP (c_del3.2.2.2.1) c_del3.2.2.2.2.2.2.2.1) c_del3.2.2.2.2.2.2.2.1 (sin0 mt_all c_del3.1.1 2 c_del3.2.1.1 (foot zBC c_del3.2.2.1.1)) (sin0 mt_all c_del3.1.2.1 2 c_del3.2.1.2 (foot zBC c_del3.2.2.1.2)) = true := by decide +kernel
theorem t_del3 {X : pX} {ρ0 : sR} (hv : vok X ρ0) : CUTOK X kR zBC c_del3 2 ρ0 q_del3 := by
  refine CUTOK_AT (fun ρ k1 k2 k3 k4 => ?_)
  have e : ρ.1 1824 = ρ.1 20000 := of_decide_eq_true (k2.2 _ (List.mem_cons_self))
  have g1 : ¬ ρ.1 20000 < 0 := of_decide_eq_false (k2.2 _ (List.mem_cons_of_mem _ (List.mem_cons_self)))
  have g3 : ¬ ρ.1 1824 < 0 := of_decide_eq_false (k2.2 _ (List.mem_cons_of_mem _ (List.mem_cons_of_mem _ (List.mem_cons_of_mem _ (List.mem_cons_self)))))
  have gk : ¬ ρ.1 60064 < ρ.1 20000 := of_decide_eq_false (k2.2 _ (List.mem_cons_of_mem _ (List.mem_cons_of_mem _ (List.mem_cons_of_mem _ (List.mem_cons_of_mem _ (List.mem_cons_of_mem _ (List.mem_cons_of_mem _ (List.mem_cons_of_mem _ (List.mem_cons_of_mem _ (List.mem_cons_self))))))))))
  have g7 : ¬ (7 : Int32) < ρ.1 60064 := of_decide_eq_false (k2.2 _ (List.mem_cons_of_mem _ (List.mem_cons_of_mem _ (List.mem_cons_of_mem _ (List.mem_cons_of_mem _ (List.mem_cons_of_mem _ (List.mem_cons_of_mem _ (List.mem_cons_of_mem _ (List.mem_cons_of_mem _ (List.mem_cons_of_mem _ (List.mem_cons_of_mem _ (List.mem_cons_self))))))))))))
  have h6 : (List.range (ρ.1 20000).toInt.toNat).all (fun j => decide (ρ.2.2.1 1664 ((ρ.1 1824 - ρ.1 20000).toInt.toNat + j) = ρ.2.2.1 19840 j)) = true := k2.2 _ (List.mem_cons_of_mem _ (List.mem_cons_of_mem _ (List.mem_cons_of_mem _ (List.mem_cons_of_mem _ (List.mem_cons_of_mem _ (List.mem_cons_of_mem _ (List.mem_cons_self)))))))
  have h7 : (List.range (ρ.1 20000).toInt.toNat).all (fun j => decide (ρ.2.2.2.1 1537 ((ρ.1 1824 - ρ.1 20000).toInt.toNat + j) = ρ.2.2.2.1 5249 j)) = true := k2.2 _ (List.mem_cons_of_mem _ (List.mem_cons_of_mem _ (List.mem_cons_of_mem _ (List.mem_cons_of_mem _ (List.mem_cons_of_mem _ (List.mem_cons_of_mem _ (List.mem_cons_of_mem _ (List.mem_cons_self))))))))
  have z0 : (0 : Int32).toInt = 0 := rfl
  have z7 : (7 : Int32).toInt = 7 := rfl
  have z8 : (8 : Int32).toInt = 8 := rfl
  rw [Int32.lt_iff_toInt_lt] at g1 g3 gk g7
  rw [z0] at g1 g3
  rw [z7] at g7
  have i1 : (ρ.1 20000 + 1).toInt = (ρ.1 20000).toInt + 1 := s_add (y := 1) (by show _ ≤ _ + (1 : Int); omega) (by show _ + (1 : Int) ≤ _; omega)
  have ik : (ρ.1 60064 + 1).toInt = (ρ.1 60064).toInt + 1 := s_add (y := 1) (by show _ ≤ _ + (1 : Int); omega) (by show _ + (1 : Int) ≤ _; omega)
  have d0 : ∀ x : Int32, (x - x).toInt = 0 := fun x => by rw [Int32.sub_self]; rfl
  have f1 : sc X ρ (2, .int 7, .arg 20000) = false := decide_eq_false (nlt_i (show (ρ.1 20000).toInt ≤ (7 : Int32).toInt by omega))
  have f2 : sc X ρ (2, .int 7, .arg 1824) = false := decide_eq_false (nlt_i (show (ρ.1 1824).toInt ≤ (7 : Int32).toInt by rw [e]; omega))
  have f3 : sc X ρ (2, .arg 1824, .int 0) = false := k2.2 _ (List.mem_cons_of_mem _ (List.mem_cons_of_mem _ (List.mem_cons_of_mem _ (List.mem_cons_self))))
  have f4 : sc X ρ (2, .arg 20000, .int 0) = false := k2.2 _ (List.mem_cons_of_mem _ (List.mem_cons_self))
  have fin : ∀ ρ3 : sR, kok X ρ3 kR → vok X ρ3 → agrM 65536 c_del3.2.2.2.2.1.1 c_del3.2.2.2.2.1.2 ρ3 ρ0 → ρ3.1 54816 = ρ3.1 2304 → ρ3.1 1824 = ρ.1 1824 + 1 → ρ3.1 20000 = ρ.1 20000 + 1 → (∀ j, ρ3.2.2.1 1664 j = if (ρ.1 1824).toNatClampNeg = j then ρ.1 54912 else ρ.2.2.1 1664 j) → (∀ j, ρ3.2.2.2.1 1537 j = if (ρ.1 1824).toNatClampNeg = j then ρ.2.1 5121 else ρ.2.2.2.1 1537 j) → (∀ j, ρ3.2.2.1 19840 j = if (ρ.1 20000).toNatClampNeg = j then ρ.1 54912 else ρ.2.2.1 19840 j) → (∀ j, ρ3.2.2.2.1 5249 j = if (ρ.1 20000).toNatClampNeg = j then ρ.2.1 5121 else ρ.2.2.2.1 5249 j) → AT X zBC c_del3 2 ρ0 ρ3 q_del3e := by
    intro ρ3 l1 l2 l4 e1 e2 e3 e4 e5 e6 e7
    have s1 : ρ3.1 60064 = ρ.1 60064 := ((l4.1 60064 (by decide) (by decide)).1).trans ((k4.1 60064 (by decide) (by decide)).1).symm
    have es : ρ3.1 1824 = ρ3.1 20000 := by rw [e2, e3, e]
    refine AT_of (q := q_del3n) rfl rfl (CUT_run kR_x kR_0 (Cs := []) (fun C hC => by cases hC) c_del3_f (Q := []) hv (fun q hq => by cases hq) 20 (b1 := true) (b2 := true) k_del3n ρ3 l1 ⟨l2, ?_⟩ (fun c hc => by cases hc) l4)
    refine fcq (decide_eq_true es) (fcq (decide_eq_false ?_) (fcq (decide_eq_false ?_) (fcq (decide_eq_false ?_) (fcq (decide_eq_false ?_) (fcq (decide_eq_false ?_) (fcq ?_ (fcq ?_ (fcq (decide_eq_false ?_) (fcq (decide_eq_true e1) (fun f hf => by cases hf))))))))))
    · show ¬ ρ3.1 20000 < 0
      rw [Int32.lt_iff_toInt_lt, z0, e3, i1]; omega
    · show ¬ (8 : Int32) < ρ3.1 20000
      rw [Int32.lt_iff_toInt_lt, z8, e3, i1]; omega
    · show ¬ ρ3.1 1824 < 0
      rw [es, Int32.lt_iff_toInt_lt, z0, e3, i1]; omega
    · show ¬ (8 : Int32) < ρ3.1 1824
      rw [es, Int32.lt_iff_toInt_lt, z8, e3, i1]; omega
    · show ¬ ρ3.1 1824 < ρ3.1 20000
      rw [es]; exact Int32.lt_irrefl
    · show (List.range (ρ3.1 20000).toInt.toNat).all (fun j => decide (ρ3.2.2.1 1664 ((ρ3.1 1824 - ρ3.1 20000).toInt.toNat + j) = ρ3.2.2.1 19840 j)) = true
      refine n106_of (fun j hj => ?_)
      rw [e3, i1] at hj
      rw [es, d0, show (0 : Int).toNat + j = j from Nat.zero_add j, e4, e6, e]
      by_cases hc : (ρ.1 20000).toNatClampNeg = j
      · rw [if_pos hc, if_pos hc]
      · rw [if_neg hc, if_neg hc]
        rw [s_nat] at hc
        have h := n106_get h6 (j := j) (by omega)
        rw [e, d0, show (0 : Int).toNat + j = j from Nat.zero_add j] at h
        exact h
    · show (List.range (ρ3.1 20000).toInt.toNat).all (fun j => decide (ρ3.2.2.2.1 1537 ((ρ3.1 1824 - ρ3.1 20000).toInt.toNat + j) = ρ3.2.2.2.1 5249 j)) = true
      refine n106_of (fun j hj => ?_)
      rw [e3, i1] at hj
      rw [es, d0, show (0 : Int).toNat + j = j from Nat.zero_add j, e5, e7, e]
      by_cases hc : (ρ.1 20000).toNatClampNeg = j
      · rw [if_pos hc, if_pos hc]
      · rw [if_neg hc, if_neg hc]
        rw [s_nat] at hc
        have h := n106_get h7 (j := j) (by omega)
        rw [e, d0, show (0 : Int).toNat + j = j from Nat.zero_add j] at h
        exact h
    · show ¬ ρ3.1 60064 + 1 < ρ3.1 20000
      rw [s1, Int32.lt_iff_toInt_lt, ik, e3, i1]; omega
  by_cases hc : (0 : Int32) < ρ.1 2304
  · have hm : ρ.1 54816 = ρ.1 2304 - 1 := of_decide_eq_true (k3 _ (List.mem_cons_self) (fun f hf => by rw [List.mem_singleton.mp hf]; exact decide_eq_true hc))
    refine AT_of (q := q_del3P) rfl rfl (SEM_runB kR_x kR_0 (Cs := []) (fun C hC => by cases hC) c_del3_f (Q := w_del3P) hv 90 (b1 := true) (b2 := true) k_del3P k1 ⟨k2.1, fcq (decide_eq_true hc) (fcq f1 (fcq f2 (fcq f3 (fcq f4 (fun f hf => by cases hf)))))⟩ (fun c hc => by cases hc) k4 (fun p hp ρ3 m1 m2 m3 m4 m5 m6 => ?_))
    rw [List.mem_singleton.mp hp] at m2 m3 m5 m6 ⊢
    have sm : ρ3.1 54816 = ρ.1 54816 := ((m4.1 54816 (by decide) (by decide)).1).trans ((k4.1 54816 (by decide) (by decide)).1).symm
    have c3 : ρ3.1 2304 = ρ.1 2304 - 1 := congrArg Prod.fst (m5 (2304, .sub (.arg 2304) (.int 1)) (List.mem_cons_of_mem _ (List.mem_cons_of_mem _ List.mem_cons_self)))
    refine fin ρ3 m1 m2.1 m4 (by rw [sm, c3, hm]) (congrArg Prod.fst (m5 (1824, .add (.arg 1824) (.int 1)) List.mem_cons_self)) (congrArg Prod.fst (m5 (20000, .add (.arg 20000) (.int 1)) (List.mem_cons_of_mem _ List.mem_cons_self))) (fun j => ?_) (fun j => ?_) (fun j => ?_) (fun j => ?_)
    · have h := m6 (1664, .arg 1664, [(.arg 1824, .arg 54912)]) (List.mem_cons_self) j
      rw [bd_ev (by decide)] at h
      unfold aden at h
      dsimp only at h
      by_cases hq : (sd X ρ (Jvm.Term.arg 1824)).1.toNatClampNeg = j
      · rw [if_pos hq] at h
        exact Eq.trans (Value.int.inj h) (if_pos hq).symm
      · rw [if_neg hq] at h
        exact Eq.trans (Value.int.inj (h.trans (bd_ev (by decide)))) (if_neg hq).symm
    · have h := m6 (1537, .arg 1537, [(.arg 1824, .arg 5121)]) (List.mem_cons_of_mem _ (List.mem_cons_self)) j
      rw [bd_od (by decide)] at h
      unfold aden at h
      dsimp only at h
      by_cases hq : (sd X ρ (Jvm.Term.arg 1824)).1.toNatClampNeg = j
      · rw [if_pos hq] at h
        exact Eq.trans (Value.long.inj h) (if_pos hq).symm
      · rw [if_neg hq] at h
        exact Eq.trans (Value.long.inj (h.trans (bd_od (by decide)))) (if_neg hq).symm
    · have h := m6 (19840, .arg 19840, [(.arg 20000, .arg 54912)]) (List.mem_cons_of_mem _ (List.mem_cons_of_mem _ (List.mem_cons_self))) j
      rw [bd_ev (by decide)] at h
      unfold aden at h
      dsimp only at h
      by_cases hq : (sd X ρ (Jvm.Term.arg 20000)).1.toNatClampNeg = j
      · rw [if_pos hq] at h
        exact Eq.trans (Value.int.inj h) (if_pos hq).symm
      · rw [if_neg hq] at h
        exact Eq.trans (Value.int.inj (h.trans (bd_ev (by decide)))) (if_neg hq).symm
    · have h := m6 (5249, .arg 5249, [(.arg 20000, .arg 5121)]) (List.mem_cons_of_mem _ (List.mem_cons_of_mem _ (List.mem_cons_of_mem _ (List.mem_cons_self)))) j
      rw [bd_od (by decide)] at h
      unfold aden at h
      dsimp only at h
      by_cases hq : (sd X ρ (Jvm.Term.arg 20000)).1.toNatClampNeg = j
      · rw [if_pos hq] at h
        exact Eq.trans (Value.long.inj h) (if_pos hq).symm
      · rw [if_neg hq] at h
        exact Eq.trans (Value.long.inj (h.trans (bd_od (by decide)))) (if_neg hq).symm
  · have hm : ρ.1 54816 = ρ.1 2304 := of_decide_eq_true (k3 _ (List.mem_cons_of_mem _ (List.mem_cons_self)) (fun f hf => by rw [List.mem_singleton.mp hf]; exact decide_eq_false hc))
    refine AT_of (q := q_del3Z) rfl rfl (SEM_runB kR_x kR_0 (Cs := []) (fun C hC => by cases hC) c_del3_f (Q := w_del3Z) hv 90 (b1 := true) (b2 := true) k_del3Z k1 ⟨k2.1, fcq (decide_eq_false hc) (fcq f1 (fcq f2 (fcq f3 (fcq f4 (fun f hf => by cases hf)))))⟩ (fun c hc => by cases hc) k4 (fun p hp ρ3 m1 m2 m3 m4 m5 m6 => ?_))
    rw [List.mem_singleton.mp hp] at m2 m3 m5 m6 ⊢
    have sm : ρ3.1 54816 = ρ.1 54816 := ((m4.1 54816 (by decide) (by decide)).1).trans ((k4.1 54816 (by decide) (by decide)).1).symm
    have c3 : ρ3.1 2304 = ρ.1 2304 := congrArg Prod.fst (m5 (2304, .arg 2304) (List.mem_cons_of_mem _ (List.mem_cons_of_mem _ List.mem_cons_self)))
    refine fin ρ3 m1 m2.1 m4 (by rw [sm, c3, hm]) (congrArg Prod.fst (m5 (1824, .add (.arg 1824) (.int 1)) List.mem_cons_self)) (congrArg Prod.fst (m5 (20000, .add (.arg 20000) (.int 1)) (List.mem_cons_of_mem _ List.mem_cons_self))) (fun j => ?_) (fun j => ?_) (fun j => ?_) (fun j => ?_)
    · have h := m6 (1664, .arg 1664, [(.arg 1824, .arg 54912)]) (List.mem_cons_self) j
      rw [bd_ev (by decide)] at h
      unfold aden at h
      dsimp only at h
      by_cases hq : (sd X ρ (Jvm.Term.arg 1824)).1.toNatClampNeg = j
      · rw [if_pos hq] at h
        exact Eq.trans (Value.int.inj h) (if_pos hq).symm
      · rw [if_neg hq] at h
        exact Eq.trans (Value.int.inj (h.trans (bd_ev (by decide)))) (if_neg hq).symm
    · have h := m6 (1537, .arg 1537, [(.arg 1824, .arg 5121)]) (List.mem_cons_of_mem _ (List.mem_cons_self)) j
      rw [bd_od (by decide)] at h
      unfold aden at h
      dsimp only at h
      by_cases hq : (sd X ρ (Jvm.Term.arg 1824)).1.toNatClampNeg = j
      · rw [if_pos hq] at h
        exact Eq.trans (Value.long.inj h) (if_pos hq).symm
      · rw [if_neg hq] at h
        exact Eq.trans (Value.long.inj (h.trans (bd_od (by decide)))) (if_neg hq).symm
    · have h := m6 (19840, .arg 19840, [(.arg 20000, .arg 54912)]) (List.mem_cons_of_mem _ (List.mem_cons_of_mem _ (List.mem_cons_self))) j
      rw [bd_ev (by decide)] at h
      unfold aden at h
      dsimp only at h
      by_cases hq : (sd X ρ (Jvm.Term.arg 20000)).1.toNatClampNeg = j
      · rw [if_pos hq] at h
        exact Eq.trans (Value.int.inj h) (if_pos hq).symm
      · rw [if_neg hq] at h
        exact Eq.trans (Value.int.inj (h.trans (bd_ev (by decide)))) (if_neg hq).symm
    · have h := m6 (5249, .arg 5249, [(.arg 20000, .arg 5121)]) (List.mem_cons_of_mem _ (List.mem_cons_of_mem _ (List.mem_cons_of_mem _ (List.mem_cons_self)))) j
      rw [bd_od (by decide)] at h
      unfold aden at h
      dsimp only at h
      by_cases hq : (sd X ρ (Jvm.Term.arg 20000)).1.toNatClampNeg = j
      · rw [if_pos hq] at h
        exact Eq.trans (Value.long.inj h) (if_pos hq).symm
      · rw [if_neg hq] at h
        exact Eq.trans (Value.long.inj (h.trans (bd_od (by decide)))) (if_neg hq).symm
theorem s_del3 {X : pX} : SREL X pF pdfl mt_all kR zBC c_del3 := SREL_cut kR_x kR_0 (Cs := []) (fun C hC => by cases hC) (d := 2) rfl c_del3_f (Q := [q_del3]) (fun ρ0 hv q hq => by rw [List.mem_singleton.mp hq]; exact t_del3 hv) 10 e_del3
/-! ===== a frame comes to station 4: Bus.deliver and arrive ===== -/
noncomputable def c_del4 : sC := ((47, 252, 3), ([tr 2, .int 4, .arg 54912, .arg 5121], [tr 219, .int 4]), ([2, 33, 16, 21, 22, 27, 28], [219, 242, 243, 244, 245, 246]), [((0, .arg 1856, .arg 20032), true), ((2, .arg 20032, .int 0), false), ((2, .int 8, .arg 20032), false), ((2, .arg 1856, .int 0), false), ((2, .int 8, .arg 1856), false), ((2, .arg 1856, .arg 20032), false), ((106, .add (.sub (.arg 1856) (.arg 20032)) (.add (.elem (.arg 1696) (.int 0)) (.elem (.arg 19872) (.int 0))), .arg 20032), true), ((107, .add (.sub (.arg 1856) (.arg 20032)) (.add (.elem (.arg 1569) (.int 0)) (.elem (.arg 5281) (.int 0))), .arg 20032), true), ((2, .arg 60064, .arg 20032), false), ((2, .arg 60064, .int 0), false), ((2, .int 7, .arg 60064), false)], ([1856, 20032, 2336], [1696, 1569, 19872, 5281]), (none, none), [((0, .arg 1856, .arg 20032), true), ((2, .arg 20032, .int 0), false), ((2, .int 8, .arg 20032), false), ((2, .arg 1856, .int 0), false), ((2, .int 8, .arg 1856), false), ((2, .arg 1856, .arg 20032), false), ((106, .add (.sub (.arg 1856) (.arg 20032)) (.add (.elem (.arg 1696) (.int 0)) (.elem (.arg 19872) (.int 0))), .arg 20032), true), ((107, .add (.sub (.arg 1856) (.arg 20032)) (.add (.elem (.arg 1569) (.int 0)) (.elem (.arg 5281) (.int 0))), .arg 20032), true), ((2, .add (.arg 60064) (.int 1), .arg 20032), false), ((0, .arg 54848, .arg 2336), true)], ([([((2, .int 0, .arg 2336), true)], (0, .arg 54848, .sub (.arg 2336) (.int 1)), true), ([((2, .int 0, .arg 2336), false)], (0, .arg 54848, .arg 2336), true)], []))
theorem c_del4_f : cfine zBC 65536 c_del4 = true := by decide +kernel
noncomputable def q_del4 : sCut := ((fr 0 47 0 [(0, tr 2), (1, .int 4), (2, .arg 54912), (3, .arg 5121)] [], [fBot], 2), (fr 0 252 0 [(0, tr 219), (1, .int 4)] [], [fBot], 2), [((0, .arg 1856, .arg 20032), true), ((2, .arg 20032, .int 0), false), ((2, .int 8, .arg 20032), false), ((2, .arg 1856, .int 0), false), ((2, .int 8, .arg 1856), false), ((2, .arg 1856, .arg 20032), false), ((106, .add (.sub (.arg 1856) (.arg 20032)) (.add (.elem (.arg 1696) (.int 0)) (.elem (.arg 19872) (.int 0))), .arg 20032), true), ((107, .add (.sub (.arg 1856) (.arg 20032)) (.add (.elem (.arg 1569) (.int 0)) (.elem (.arg 5281) (.int 0))), .arg 20032), true), ((2, .arg 60064, .arg 20032), false), ((2, .arg 60064, .int 0), false), ((2, .int 7, .arg 60064), false)], [([((2, .int 0, .arg 2336), true)], (0, .arg 54848, .sub (.arg 2336) (.int 1)), true), ([((2, .int 0, .arg 2336), false)], (0, .arg 54848, .arg 2336), true)])
noncomputable def q_del4e : sCut := ((fr 0 47 50 [(0, tr 2)] [], [fBot], 2), (fr 0 252 51 [(0, tr 219)] [], [fBot], 2), [], [])
noncomputable def q_del4n : sCut := ((fr 0 47 50 [(0, tr 2)] [], [fBot], 2), (fr 0 252 51 [(0, tr 219)] [], [fBot], 2), [((0, .arg 1856, .arg 20032), true), ((2, .arg 20032, .int 0), false), ((2, .int 8, .arg 20032), false), ((2, .arg 1856, .int 0), false), ((2, .int 8, .arg 1856), false), ((2, .arg 1856, .arg 20032), false), ((106, .add (.sub (.arg 1856) (.arg 20032)) (.add (.elem (.arg 1696) (.int 0)) (.elem (.arg 19872) (.int 0))), .arg 20032), true), ((107, .add (.sub (.arg 1856) (.arg 20032)) (.add (.elem (.arg 1569) (.int 0)) (.elem (.arg 5281) (.int 0))), .arg 20032), true), ((2, .add (.arg 60064) (.int 1), .arg 20032), false), ((0, .arg 54848, .arg 2336), true)], [])
noncomputable def q_del4P : sCut := ((fr 0 47 0 [(0, tr 2), (1, .int 4), (2, .arg 54912), (3, .arg 5121)] [], [fBot], 2), (fr 0 252 0 [(0, tr 219), (1, .int 4)] [], [fBot], 2), [((2, .int 0, .arg 2336), true), ((2, .int 7, .arg 20032), false), ((2, .int 7, .arg 1856), false), ((2, .arg 1856, .int 0), false), ((2, .arg 20032, .int 0), false)], [])
noncomputable def w_del4P : List (sCut × List (Nat × sT) × List (Nat × sT × List (sT × sT))) := [(q_del4e, [(1856, .add (.arg 1856) (.int 1)), (20032, .add (.arg 20032) (.int 1)), (2336, .sub (.arg 2336) (.int 1))], [(1696, .arg 1696, [(.arg 1856, .arg 54912)]), (1569, .arg 1569, [(.arg 1856, .arg 5121)]), (19872, .arg 19872, [(.arg 20032, .arg 54912)]), (5281, .arg 5281, [(.arg 20032, .arg 5121)])])]
theorem k_del4P : cbody kR [] (cpl1 zBC c_del4 [q_del4e]) (cpl2 zBC c_del4 [q_del4e]) (cleafB kR zBC c_del4 w_del4P) 90 true true q_del4P.2.2.1 q_del4P.2.2.2 (cst zBC c_del4.2.2.1.1 q_del4P.1) (cst zBC c_del4.2.2.1.2 q_del4P.2.1) = true := by decide +kernel
noncomputable def q_del4Z : sCut := ((fr 0 47 0 [(0, tr 2), (1, .int 4), (2, .arg 54912), (3, .arg 5121)] [], [fBot], 2), (fr 0 252 0 [(0, tr 219), (1, .int 4)] [], [fBot], 2), [((2, .int 0, .arg 2336), false), ((2, .int 7, .arg 20032), false), ((2, .int 7, .arg 1856), false), ((2, .arg 1856, .int 0), false), ((2, .arg 20032, .int 0), false)], [])
noncomputable def w_del4Z : List (sCut × List (Nat × sT) × List (Nat × sT × List (sT × sT))) := [(q_del4e, [(1856, .add (.arg 1856) (.int 1)), (20032, .add (.arg 20032) (.int 1)), (2336, .arg 2336)], [(1696, .arg 1696, [(.arg 1856, .arg 54912)]), (1569, .arg 1569, [(.arg 1856, .arg 5121)]), (19872, .arg 19872, [(.arg 20032, .arg 54912)]), (5281, .arg 5281, [(.arg 20032, .arg 5121)])])]
theorem k_del4Z : cbody kR [] (cpl1 zBC c_del4 [q_del4e]) (cpl2 zBC c_del4 [q_del4e]) (cleafB kR zBC c_del4 w_del4Z) 90 true true q_del4Z.2.2.1 q_del4Z.2.2.2 (cst zBC c_del4.2.2.1.1 q_del4Z.1) (cst zBC c_del4.2.2.1.2 q_del4Z.2.1) = true := by decide +kernel
theorem k_del4n : cbody kR [] (cpl1 zBC c_del4 []) (cpl2 zBC c_del4 []) (cleaf kR zBC c_del4 []) 20 true true q_del4n.2.2.1 q_del4n.2.2.2 (cst zBC c_del4.2.2.1.1 q_del4n.1) (cst zBC c_del4.2.2.1.2 q_del4n.2.1) = true := by decide +kernel
theorem e_del4 : frun kR [] (cpl1 zBC c_del4 [q_del4]) (cpl2 zBC c_del4 [q_del4]) (cleaf kR zBC c_del4 [q_del4]) 10 65536 (isatP (c_del4.2.2.2.1) c_del4.2.2.2.2.2.2.2.1) c_del4.2.2.2.2.2.2.2.1 (sin0 mt_all c_del4.1.1 2 c_del4.2.1.1 (foot zBC c_del4.2.2.1.1)) (sin0 mt_all c_del4.1.2.1 2 c_del4.2.1.2 (foot zBC c_del4.2.2.1.2)) = true := by decide +kernel
theorem t_del4 {X : pX} {ρ0 : sR} (hv : vok X ρ0) : CUTOK X kR zBC c_del4 2 ρ0 q_del4 := by
  refine CUTOK_AT (fun ρ k1 k2 k3 k4 => ?_)
  have e : ρ.1 1856 = ρ.1 20032 := of_decide_eq_true (k2.2 _ (List.mem_cons_self))
  have g1 : ¬ ρ.1 20032 < 0 := of_decide_eq_false (k2.2 _ (List.mem_cons_of_mem _ (List.mem_cons_self)))
  have g3 : ¬ ρ.1 1856 < 0 := of_decide_eq_false (k2.2 _ (List.mem_cons_of_mem _ (List.mem_cons_of_mem _ (List.mem_cons_of_mem _ (List.mem_cons_self)))))
  have gk : ¬ ρ.1 60064 < ρ.1 20032 := of_decide_eq_false (k2.2 _ (List.mem_cons_of_mem _ (List.mem_cons_of_mem _ (List.mem_cons_of_mem _ (List.mem_cons_of_mem _ (List.mem_cons_of_mem _ (List.mem_cons_of_mem _ (List.mem_cons_of_mem _ (List.mem_cons_of_mem _ (List.mem_cons_self))))))))))
  have g7 : ¬ (7 : Int32) < ρ.1 60064 := of_decide_eq_false (k2.2 _ (List.mem_cons_of_mem _ (List.mem_cons_of_mem _ (List.mem_cons_of_mem _ (List.mem_cons_of_mem _ (List.mem_cons_of_mem _ (List.mem_cons_of_mem _ (List.mem_cons_of_mem _ (List.mem_cons_of_mem _ (List.mem_cons_of_mem _ (List.mem_cons_of_mem _ (List.mem_cons_self))))))))))))
  have h6 : (List.range (ρ.1 20032).toInt.toNat).all (fun j => decide (ρ.2.2.1 1696 ((ρ.1 1856 - ρ.1 20032).toInt.toNat + j) = ρ.2.2.1 19872 j)) = true := k2.2 _ (List.mem_cons_of_mem _ (List.mem_cons_of_mem _ (List.mem_cons_of_mem _ (List.mem_cons_of_mem _ (List.mem_cons_of_mem _ (List.mem_cons_of_mem _ (List.mem_cons_self)))))))
  have h7 : (List.range (ρ.1 20032).toInt.toNat).all (fun j => decide (ρ.2.2.2.1 1569 ((ρ.1 1856 - ρ.1 20032).toInt.toNat + j) = ρ.2.2.2.1 5281 j)) = true := k2.2 _ (List.mem_cons_of_mem _ (List.mem_cons_of_mem _ (List.mem_cons_of_mem _ (List.mem_cons_of_mem _ (List.mem_cons_of_mem _ (List.mem_cons_of_mem _ (List.mem_cons_of_mem _ (List.mem_cons_self))))))))
  have z0 : (0 : Int32).toInt = 0 := rfl
  have z7 : (7 : Int32).toInt = 7 := rfl
  have z8 : (8 : Int32).toInt = 8 := rfl
  rw [Int32.lt_iff_toInt_lt] at g1 g3 gk g7
  rw [z0] at g1 g3
  rw [z7] at g7
  have i1 : (ρ.1 20032 + 1).toInt = (ρ.1 20032).toInt + 1 := s_add (y := 1) (by show _ ≤ _ + (1 : Int); omega) (by show _ + (1 : Int) ≤ _; omega)
  have ik : (ρ.1 60064 + 1).toInt = (ρ.1 60064).toInt + 1 := s_add (y := 1) (by show _ ≤ _ + (1 : Int); omega) (by show _ + (1 : Int) ≤ _; omega)
  have d0 : ∀ x : Int32, (x - x).toInt = 0 := fun x => by rw [Int32.sub_self]; rfl
  have f1 : sc X ρ (2, .int 7, .arg 20032) = false := decide_eq_false (nlt_i (show (ρ.1 20032).toInt ≤ (7 : Int32).toInt by omega))
  have f2 : sc X ρ (2, .int 7, .arg 1856) = false := decide_eq_false (nlt_i (show (ρ.1 1856).toInt ≤ (7 : Int32).toInt by rw [e]; omega))
  have f3 : sc X ρ (2, .arg 1856, .int 0) = false := k2.2 _ (List.mem_cons_of_mem _ (List.mem_cons_of_mem _ (List.mem_cons_of_mem _ (List.mem_cons_self))))
  have f4 : sc X ρ (2, .arg 20032, .int 0) = false := k2.2 _ (List.mem_cons_of_mem _ (List.mem_cons_self))
  have fin : ∀ ρ3 : sR, kok X ρ3 kR → vok X ρ3 → agrM 65536 c_del4.2.2.2.2.1.1 c_del4.2.2.2.2.1.2 ρ3 ρ0 → ρ3.1 54848 = ρ3.1 2336 → ρ3.1 1856 = ρ.1 1856 + 1 → ρ3.1 20032 = ρ.1 20032 + 1 → (∀ j, ρ3.2.2.1 1696 j = if (ρ.1 1856).toNatClampNeg = j then ρ.1 54912 else ρ.2.2.1 1696 j) → (∀ j, ρ3.2.2.2.1 1569 j = if (ρ.1 1856).toNatClampNeg = j then ρ.2.1 5121 else ρ.2.2.2.1 1569 j) → (∀ j, ρ3.2.2.1 19872 j = if (ρ.1 20032).toNatClampNeg = j then ρ.1 54912 else ρ.2.2.1 19872 j) → (∀ j, ρ3.2.2.2.1 5281 j = if (ρ.1 20032).toNatClampNeg = j then ρ.2.1 5121 else ρ.2.2.2.1 5281 j) → AT X zBC c_del4 2 ρ0 ρ3 q_del4e := by
    intro ρ3 l1 l2 l4 e1 e2 e3 e4 e5 e6 e7
    have s1 : ρ3.1 60064 = ρ.1 60064 := ((l4.1 60064 (by decide) (by decide)).1).trans ((k4.1 60064 (by decide) (by decide)).1).symm
    have es : ρ3.1 1856 = ρ3.1 20032 := by rw [e2, e3, e]
    refine AT_of (q := q_del4n) rfl rfl (CUT_run kR_x kR_0 (Cs := []) (fun C hC => by cases hC) c_del4_f (Q := []) hv (fun q hq => by cases hq) 20 (b1 := true) (b2 := true) k_del4n ρ3 l1 ⟨l2, ?_⟩ (fun c hc => by cases hc) l4)
    refine fcq (decide_eq_true es) (fcq (decide_eq_false ?_) (fcq (decide_eq_false ?_) (fcq (decide_eq_false ?_) (fcq (decide_eq_false ?_) (fcq (decide_eq_false ?_) (fcq ?_ (fcq ?_ (fcq (decide_eq_false ?_) (fcq (decide_eq_true e1) (fun f hf => by cases hf))))))))))
    · show ¬ ρ3.1 20032 < 0
      rw [Int32.lt_iff_toInt_lt, z0, e3, i1]; omega
    · show ¬ (8 : Int32) < ρ3.1 20032
      rw [Int32.lt_iff_toInt_lt, z8, e3, i1]; omega
    · show ¬ ρ3.1 1856 < 0
      rw [es, Int32.lt_iff_toInt_lt, z0, e3, i1]; omega
    · show ¬ (8 : Int32) < ρ3.1 1856
      rw [es, Int32.lt_iff_toInt_lt, z8, e3, i1]; omega
    · show ¬ ρ3.1 1856 < ρ3.1 20032
      rw [es]; exact Int32.lt_irrefl
    · show (List.range (ρ3.1 20032).toInt.toNat).all (fun j => decide (ρ3.2.2.1 1696 ((ρ3.1 1856 - ρ3.1 20032).toInt.toNat + j) = ρ3.2.2.1 19872 j)) = true
      refine n106_of (fun j hj => ?_)
      rw [e3, i1] at hj
      rw [es, d0, show (0 : Int).toNat + j = j from Nat.zero_add j, e4, e6, e]
      by_cases hc : (ρ.1 20032).toNatClampNeg = j
      · rw [if_pos hc, if_pos hc]
      · rw [if_neg hc, if_neg hc]
        rw [s_nat] at hc
        have h := n106_get h6 (j := j) (by omega)
        rw [e, d0, show (0 : Int).toNat + j = j from Nat.zero_add j] at h
        exact h
    · show (List.range (ρ3.1 20032).toInt.toNat).all (fun j => decide (ρ3.2.2.2.1 1569 ((ρ3.1 1856 - ρ3.1 20032).toInt.toNat + j) = ρ3.2.2.2.1 5281 j)) = true
      refine n106_of (fun j hj => ?_)
      rw [e3, i1] at hj
      rw [es, d0, show (0 : Int).toNat + j = j from Nat.zero_add j, e5, e7, e]
      by_cases hc : (ρ.1 20032).toNatClampNeg = j
      · rw [if_pos hc, if_pos hc]
      · rw [if_neg hc, if_neg hc]
        rw [s_nat] at hc
        have h := n106_get h7 (j := j) (by omega)
        rw [e, d0, show (0 : Int).toNat + j = j from Nat.zero_add j] at h
        exact h
    · show ¬ ρ3.1 60064 + 1 < ρ3.1 20032
      rw [s1, Int32.lt_iff_toInt_lt, ik, e3, i1]; omega
  by_cases hc : (0 : Int32) < ρ.1 2336
  · have hm : ρ.1 54848 = ρ.1 2336 - 1 := of_decide_eq_true (k3 _ (List.mem_cons_self) (fun f hf => by rw [List.mem_singleton.mp hf]; exact decide_eq_true hc))
    refine AT_of (q := q_del4P) rfl rfl (SEM_runB kR_x kR_0 (Cs := []) (fun C hC => by cases hC) c_del4_f (Q := w_del4P) hv 90 (b1 := true) (b2 := true) k_del4P k1 ⟨k2.1, fcq (decide_eq_true hc) (fcq f1 (fcq f2 (fcq f3 (fcq f4 (fun f hf => by cases hf)))))⟩ (fun c hc => by cases hc) k4 (fun p hp ρ3 m1 m2 m3 m4 m5 m6 => ?_))
    rw [List.mem_singleton.mp hp] at m2 m3 m5 m6 ⊢
    have sm : ρ3.1 54848 = ρ.1 54848 := ((m4.1 54848 (by decide) (by decide)).1).trans ((k4.1 54848 (by decide) (by decide)).1).symm
    have c3 : ρ3.1 2336 = ρ.1 2336 - 1 := congrArg Prod.fst (m5 (2336, .sub (.arg 2336) (.int 1)) (List.mem_cons_of_mem _ (List.mem_cons_of_mem _ List.mem_cons_self)))
    refine fin ρ3 m1 m2.1 m4 (by rw [sm, c3, hm]) (congrArg Prod.fst (m5 (1856, .add (.arg 1856) (.int 1)) List.mem_cons_self)) (congrArg Prod.fst (m5 (20032, .add (.arg 20032) (.int 1)) (List.mem_cons_of_mem _ List.mem_cons_self))) (fun j => ?_) (fun j => ?_) (fun j => ?_) (fun j => ?_)
    · have h := m6 (1696, .arg 1696, [(.arg 1856, .arg 54912)]) (List.mem_cons_self) j
      rw [bd_ev (by decide)] at h
      unfold aden at h
      dsimp only at h
      by_cases hq : (sd X ρ (Jvm.Term.arg 1856)).1.toNatClampNeg = j
      · rw [if_pos hq] at h
        exact Eq.trans (Value.int.inj h) (if_pos hq).symm
      · rw [if_neg hq] at h
        exact Eq.trans (Value.int.inj (h.trans (bd_ev (by decide)))) (if_neg hq).symm
    · have h := m6 (1569, .arg 1569, [(.arg 1856, .arg 5121)]) (List.mem_cons_of_mem _ (List.mem_cons_self)) j
      rw [bd_od (by decide)] at h
      unfold aden at h
      dsimp only at h
      by_cases hq : (sd X ρ (Jvm.Term.arg 1856)).1.toNatClampNeg = j
      · rw [if_pos hq] at h
        exact Eq.trans (Value.long.inj h) (if_pos hq).symm
      · rw [if_neg hq] at h
        exact Eq.trans (Value.long.inj (h.trans (bd_od (by decide)))) (if_neg hq).symm
    · have h := m6 (19872, .arg 19872, [(.arg 20032, .arg 54912)]) (List.mem_cons_of_mem _ (List.mem_cons_of_mem _ (List.mem_cons_self))) j
      rw [bd_ev (by decide)] at h
      unfold aden at h
      dsimp only at h
      by_cases hq : (sd X ρ (Jvm.Term.arg 20032)).1.toNatClampNeg = j
      · rw [if_pos hq] at h
        exact Eq.trans (Value.int.inj h) (if_pos hq).symm
      · rw [if_neg hq] at h
        exact Eq.trans (Value.int.inj (h.trans (bd_ev (by decide)))) (if_neg hq).symm
    · have h := m6 (5281, .arg 5281, [(.arg 20032, .arg 5121)]) (List.mem_cons_of_mem _ (List.mem_cons_of_mem _ (List.mem_cons_of_mem _ (List.mem_cons_self)))) j
      rw [bd_od (by decide)] at h
      unfold aden at h
      dsimp only at h
      by_cases hq : (sd X ρ (Jvm.Term.arg 20032)).1.toNatClampNeg = j
      · rw [if_pos hq] at h
        exact Eq.trans (Value.long.inj h) (if_pos hq).symm
      · rw [if_neg hq] at h
        exact Eq.trans (Value.long.inj (h.trans (bd_od (by decide)))) (if_neg hq).symm
  · have hm : ρ.1 54848 = ρ.1 2336 := of_decide_eq_true (k3 _ (List.mem_cons_of_mem _ (List.mem_cons_self)) (fun f hf => by rw [List.mem_singleton.mp hf]; exact decide_eq_false hc))
    refine AT_of (q := q_del4Z) rfl rfl (SEM_runB kR_x kR_0 (Cs := []) (fun C hC => by cases hC) c_del4_f (Q := w_del4Z) hv 90 (b1 := true) (b2 := true) k_del4Z k1 ⟨k2.1, fcq (decide_eq_false hc) (fcq f1 (fcq f2 (fcq f3 (fcq f4 (fun f hf => by cases hf)))))⟩ (fun c hc => by cases hc) k4 (fun p hp ρ3 m1 m2 m3 m4 m5 m6 => ?_))
    rw [List.mem_singleton.mp hp] at m2 m3 m5 m6 ⊢
    have sm : ρ3.1 54848 = ρ.1 54848 := ((m4.1 54848 (by decide) (by decide)).1).trans ((k4.1 54848 (by decide) (by decide)).1).symm
    have c3 : ρ3.1 2336 = ρ.1 2336 := congrArg Prod.fst (m5 (2336, .arg 2336) (List.mem_cons_of_mem _ (List.mem_cons_of_mem _ List.mem_cons_self)))
    refine fin ρ3 m1 m2.1 m4 (by rw [sm, c3, hm]) (congrArg Prod.fst (m5 (1856, .add (.arg 1856) (.int 1)) List.mem_cons_self)) (congrArg Prod.fst (m5 (20032, .add (.arg 20032) (.int 1)) (List.mem_cons_of_mem _ List.mem_cons_self))) (fun j => ?_) (fun j => ?_) (fun j => ?_) (fun j => ?_)
    · have h := m6 (1696, .arg 1696, [(.arg 1856, .arg 54912)]) (List.mem_cons_self) j
      rw [bd_ev (by decide)] at h
      unfold aden at h
      dsimp only at h
      by_cases hq : (sd X ρ (Jvm.Term.arg 1856)).1.toNatClampNeg = j
      · rw [if_pos hq] at h
        exact Eq.trans (Value.int.inj h) (if_pos hq).symm
      · rw [if_neg hq] at h
        exact Eq.trans (Value.int.inj (h.trans (bd_ev (by decide)))) (if_neg hq).symm
    · have h := m6 (1569, .arg 1569, [(.arg 1856, .arg 5121)]) (List.mem_cons_of_mem _ (List.mem_cons_self)) j
      rw [bd_od (by decide)] at h
      unfold aden at h
      dsimp only at h
      by_cases hq : (sd X ρ (Jvm.Term.arg 1856)).1.toNatClampNeg = j
      · rw [if_pos hq] at h
        exact Eq.trans (Value.long.inj h) (if_pos hq).symm
      · rw [if_neg hq] at h
        exact Eq.trans (Value.long.inj (h.trans (bd_od (by decide)))) (if_neg hq).symm
    · have h := m6 (19872, .arg 19872, [(.arg 20032, .arg 54912)]) (List.mem_cons_of_mem _ (List.mem_cons_of_mem _ (List.mem_cons_self))) j
      rw [bd_ev (by decide)] at h
      unfold aden at h
      dsimp only at h
      by_cases hq : (sd X ρ (Jvm.Term.arg 20032)).1.toNatClampNeg = j
      · rw [if_pos hq] at h
        exact Eq.trans (Value.int.inj h) (if_pos hq).symm
      · rw [if_neg hq] at h
        exact Eq.trans (Value.int.inj (h.trans (bd_ev (by decide)))) (if_neg hq).symm
    · have h := m6 (5281, .arg 5281, [(.arg 20032, .arg 5121)]) (List.mem_cons_of_mem _ (List.mem_cons_of_mem _ (List.mem_cons_of_mem _ (List.mem_cons_self)))) j
      rw [bd_od (by decide)] at h
      unfold aden at h
      dsimp only at h
      by_cases hq : (sd X ρ (Jvm.Term.arg 20032)).1.toNatClampNeg = j
      · rw [if_pos hq] at h
        exact Eq.trans (Value.long.inj h) (if_pos hq).symm
      · rw [if_neg hq] at h
        exact Eq.trans (Value.long.inj (h.trans (bd_od (by decide)))) (if_neg hq).symm
theorem s_del4 {X : pX} : SREL X pF pdfl mt_all kR zBC c_del4 := SREL_cut kR_x kR_0 (Cs := []) (fun C hC => by cases hC) (d := 2) rfl c_del4_f (Q := [q_del4]) (fun ρ0 hv q hq => by rw [List.mem_singleton.mp hq]; exact t_del4 hv) 10 e_del4
