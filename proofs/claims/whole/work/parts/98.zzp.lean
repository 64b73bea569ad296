/-! ===== a frame off the in row of drive 0: pull ===== -/
noncomputable def c_pul0 : sC := ((425, 253, 2), ([.long 0], [tr 219, .int 0]), ([], [219, 242, 243, 244, 245, 246]), [((0, .elem (.arg 19744) (.int 0), .arg 60000), true), ((6, .elem (.arg 5153) (.int 0), .arg 60033), true), ((0, .arg 19904, .arg 60064), true), ((2, .int 0, .arg 19904), true), ((2, .arg 19904, .int 0), false), ((2, .int 8, .arg 19904), false), ((2, .arg 1728, .int 0), false), ((2, .int 8, .arg 1728), false), ((2, .arg 1728, .arg 19904), false), ((106, .add (.sub (.arg 1728) (.arg 19904)) (.add (.elem (.arg 1568) (.int 0)) (.elem (.arg 19744) (.int 0))), .arg 19904), true), ((107, .add (.sub (.arg 1728) (.arg 19904)) (.add (.elem (.arg 1441) (.int 0)) (.elem (.arg 5153) (.int 0))), .arg 19904), true)], ([19264, 5282, 19296, 5121, 19904], [19744, 5153]), (some (.long 0), none), [((0, .arg 19264, .op2 .iushr (.arg 60000) (.int 5)), true), ((0, .arg 5282, .op2 .iand (.op2 .iushr (.arg 60000) (.int 4)) (.int 1)), true), ((0, .arg 19296, .op2 .iand (.arg 60000) (.int 15)), true), ((6, .arg 5121, .arg 60033), true), ((0, .arg 19904, .sub (.arg 60064) (.int 1)), true), ((2, .arg 19904, .int 0), false), ((2, .int 8, .arg 19904), false), ((2, .arg 1728, .int 0), false), ((2, .int 8, .arg 1728), false), ((2, .arg 1728, .arg 19904), false), ((106, .add (.sub (.arg 1728) (.arg 19904)) (.add (.elem (.arg 1568) (.int 0)) (.elem (.arg 19744) (.int 0))), .arg 19904), true), ((107, .add (.sub (.arg 1728) (.arg 19904)) (.add (.elem (.arg 1441) (.int 0)) (.elem (.arg 5153) (.int 0))), .arg 19904), true)], ([], []))
theorem c_pul0_f : cfine zWP 65536 c_pul0 = true := by decide +kernel
noncomputable def zf98zzp_0 : sQ × Bool := ((2, .arg 19904, .int 0), false)
noncomputable def zf98zzp_1 : sQ × Bool := ((2, .int 8, .arg 19904), false)
noncomputable def zf98zzp_2 : sQ × Bool := ((2, .arg 1728, .int 0), false)
noncomputable def zf98zzp_3 : sQ × Bool := ((2, .int 8, .arg 1728), false)
noncomputable def zf98zzp_4 : sQ × Bool := ((2, .arg 1728, .arg 19904), false)
noncomputable def zf98zzp_5 : sQ × Bool := ((106, .add (.sub (.arg 1728) (.arg 19904)) (.add (.elem (.arg 1568) (.int 0)) (.elem (.arg 19744) (.int 0))), .arg 19904), true)
noncomputable def zf98zzp_6 : sQ × Bool := ((107, .add (.sub (.arg 1728) (.arg 19904)) (.add (.elem (.arg 1441) (.int 0)) (.elem (.arg 5153) (.int 0))), .arg 19904), true)
noncomputable def q_pul00 : sCut := ((fr 0 425 0 [(0, .long 0)] [], [fBot], 1), (fr 0 253 0 [(0, tr 219), (1, .int 0)] [], [fBot], 1), [((0, .elem (.arg 19744) (.int 0), .arg 60000), true), ((6, .elem (.arg 5153) (.int 0), .arg 60033), true), ((0, .arg 19904, .arg 60064), true), ((2, .int 0, .arg 19904), true), zf98zzp_0, zf98zzp_1, zf98zzp_2, zf98zzp_3, zf98zzp_4, zf98zzp_5, zf98zzp_6], [])
noncomputable def q_pul0e : sCut := ((fr 0 425 0 [(0, .long 0)] [], [fBot], 1), (fr 0 253 88 [(0, tr 219)] [], [fBot], 1), [], [])
noncomputable def zf98zzp_7 : sQ × Bool := ((0, .arg 19264, .op2 .iushr (.arg 60000) (.int 5)), true)
noncomputable def zf98zzp_8 : sQ × Bool := ((0, .arg 5282, .op2 .iand (.op2 .iushr (.arg 60000) (.int 4)) (.int 1)), true)
noncomputable def zf98zzp_9 : sQ × Bool := ((0, .arg 19296, .op2 .iand (.arg 60000) (.int 15)), true)
noncomputable def zf98zzp_10 : sQ × Bool := ((6, .arg 5121, .arg 60033), true)
noncomputable def q_pul0n : sCut := ((fr 0 425 0 [(0, .long 0)] [], [fBot], 1), (fr 0 253 88 [(0, tr 219)] [], [fBot], 1), [zf98zzp_7, zf98zzp_8, zf98zzp_9, zf98zzp_10, ((0, .arg 19904, .sub (.arg 60064) (.int 1)), true), zf98zzp_0, zf98zzp_1, zf98zzp_2, zf98zzp_3, zf98zzp_4, zf98zzp_5, zf98zzp_6], [])
noncomputable def q_pul01 : sCut := ((fr 0 425 0 [(0, .long 0)] [], [fBot], 1), (fr 0 253 0 [(0, tr 219), (1, .int 0)] [], [fBot], 1), [((0, .arg 19904, .int 1), true)], [])
noncomputable def w_pul01 : List (sCut × List (Nat × sT) × List (Nat × sT × List (sT × sT))) := [(q_pul0e, [(19264, .op2 .iushr (.elem (.arg 19744) (.int 0)) (.int 5)), (5282, .op2 .iand (.op2 .iushr (.elem (.arg 19744) (.int 0)) (.int 4)) (.int 1)), (19296, .op2 .iand (.elem (.arg 19744) (.int 0)) (.int 15)), (5121, .elem (.arg 5153) (.int 0)), (19904, .sub (.arg 19904) (.int 1))], [(19744, .arg 19744, (List.range 0).reverse.map (fun k => (Jvm.Term.int (Int32.ofNat k), Jvm.Term.elem (.arg 19744) (.int (Int32.ofNat (k + 1)))))), (5153, .arg 5153, (List.range 0).reverse.map (fun k => (Jvm.Term.int (Int32.ofNat k), Jvm.Term.elem (.arg 5153) (.int (Int32.ofNat (k + 1))))))])]
theorem k_pul01 : cbody kR [] (cpl1 zWP c_pul0 [q_pul0e]) (cpl2 zWP c_pul0 [q_pul0e]) (cleafB kR zWP c_pul0 w_pul01) 120 false true q_pul01.2.2.1 q_pul01.2.2.2 (cst zWP c_pul0.2.2.1.1 q_pul01.1) (cst zWP c_pul0.2.2.1.2 q_pul01.2.1) = true := by decide +kernel
noncomputable def q_pul02 : sCut := ((fr 0 425 0 [(0, .long 0)] [], [fBot], 1), (fr 0 253 0 [(0, tr 219), (1, .int 0)] [], [fBot], 1), [((0, .arg 19904, .int 2), true)], [])
noncomputable def w_pul02 : List (sCut × List (Nat × sT) × List (Nat × sT × List (sT × sT))) := [(q_pul0e, [(19264, .op2 .iushr (.elem (.arg 19744) (.int 0)) (.int 5)), (5282, .op2 .iand (.op2 .iushr (.elem (.arg 19744) (.int 0)) (.int 4)) (.int 1)), (19296, .op2 .iand (.elem (.arg 19744) (.int 0)) (.int 15)), (5121, .elem (.arg 5153) (.int 0)), (19904, .sub (.arg 19904) (.int 1))], [(19744, .arg 19744, (List.range 1).reverse.map (fun k => (Jvm.Term.int (Int32.ofNat k), Jvm.Term.elem (.arg 19744) (.int (Int32.ofNat (k + 1)))))), (5153, .arg 5153, (List.range 1).reverse.map (fun k => (Jvm.Term.int (Int32.ofNat k), Jvm.Term.elem (.arg 5153) (.int (Int32.ofNat (k + 1))))))])]
theorem k_pul02 : cbody kR [] (cpl1 zWP c_pul0 [q_pul0e]) (cpl2 zWP c_pul0 [q_pul0e]) (cleafB kR zWP c_pul0 w_pul02) 180 false true q_pul02.2.2.1 q_pul02.2.2.2 (cst zWP c_pul0.2.2.1.1 q_pul02.1) (cst zWP c_pul0.2.2.1.2 q_pul02.2.1) = true := by decide +kernel
noncomputable def q_pul03 : sCut := ((fr 0 425 0 [(0, .long 0)] [], [fBot], 1), (fr 0 253 0 [(0, tr 219), (1, .int 0)] [], [fBot], 1), [((0, .arg 19904, .int 3), true)], [])
noncomputable def w_pul03 : List (sCut × List (Nat × sT) × List (Nat × sT × List (sT × sT))) := [(q_pul0e, [(19264, .op2 .iushr (.elem (.arg 19744) (.int 0)) (.int 5)), (5282, .op2 .iand (.op2 .iushr (.elem (.arg 19744) (.int 0)) (.int 4)) (.int 1)), (19296, .op2 .iand (.elem (.arg 19744) (.int 0)) (.int 15)), (5121, .elem (.arg 5153) (.int 0)), (19904, .sub (.arg 19904) (.int 1))], [(19744, .arg 19744, (List.range 2).reverse.map (fun k => (Jvm.Term.int (Int32.ofNat k), Jvm.Term.elem (.arg 19744) (.int (Int32.ofNat (k + 1)))))), (5153, .arg 5153, (List.range 2).reverse.map (fun k => (Jvm.Term.int (Int32.ofNat k), Jvm.Term.elem (.arg 5153) (.int (Int32.ofNat (k + 1))))))])]
theorem k_pul03 : cbody kR [] (cpl1 zWP c_pul0 [q_pul0e]) (cpl2 zWP c_pul0 [q_pul0e]) (cleafB kR zWP c_pul0 w_pul03) 240 false true q_pul03.2.2.1 q_pul03.2.2.2 (cst zWP c_pul0.2.2.1.1 q_pul03.1) (cst zWP c_pul0.2.2.1.2 q_pul03.2.1) = true := by decide +kernel
noncomputable def q_pul04 : sCut := ((fr 0 425 0 [(0, .long 0)] [], [fBot], 1), (fr 0 253 0 [(0, tr 219), (1, .int 0)] [], [fBot], 1), [((0, .arg 19904, .int 4), true)], [])
noncomputable def w_pul04 : List (sCut × List (Nat × sT) × List (Nat × sT × List (sT × sT))) := [(q_pul0e, [(19264, .op2 .iushr (.elem (.arg 19744) (.int 0)) (.int 5)), (5282, .op2 .iand (.op2 .iushr (.elem (.arg 19744) (.int 0)) (.int 4)) (.int 1)), (19296, .op2 .iand (.elem (.arg 19744) (.int 0)) (.int 15)), (5121, .elem (.arg 5153) (.int 0)), (19904, .sub (.arg 19904) (.int 1))], [(19744, .arg 19744, (List.range 3).reverse.map (fun k => (Jvm.Term.int (Int32.ofNat k), Jvm.Term.elem (.arg 19744) (.int (Int32.ofNat (k + 1)))))), (5153, .arg 5153, (List.range 3).reverse.map (fun k => (Jvm.Term.int (Int32.ofNat k), Jvm.Term.elem (.arg 5153) (.int (Int32.ofNat (k + 1))))))])]
theorem k_pul04 : cbody kR [] (cpl1 zWP c_pul0 [q_pul0e]) (cpl2 zWP c_pul0 [q_pul0e]) (cleafB kR zWP c_pul0 w_pul04) 300 false true q_pul04.2.2.1 q_pul04.2.2.2 (cst zWP c_pul0.2.2.1.1 q_pul04.1) (cst zWP c_pul0.2.2.1.2 q_pul04.2.1) = true := by decide +kernel
noncomputable def q_pul05 : sCut := ((fr 0 425 0 [(0, .long 0)] [], [fBot], 1), (fr 0 253 0 [(0, tr 219), (1, .int 0)] [], [fBot], 1), [((0, .arg 19904, .int 5), true)], [])
noncomputable def w_pul05 : List (sCut × List (Nat × sT) × List (Nat × sT × List (sT × sT))) := [(q_pul0e, [(19264, .op2 .iushr (.elem (.arg 19744) (.int 0)) (.int 5)), (5282, .op2 .iand (.op2 .iushr (.elem (.arg 19744) (.int 0)) (.int 4)) (.int 1)), (19296, .op2 .iand (.elem (.arg 19744) (.int 0)) (.int 15)), (5121, .elem (.arg 5153) (.int 0)), (19904, .sub (.arg 19904) (.int 1))], [(19744, .arg 19744, (List.range 4).reverse.map (fun k => (Jvm.Term.int (Int32.ofNat k), Jvm.Term.elem (.arg 19744) (.int (Int32.ofNat (k + 1)))))), (5153, .arg 5153, (List.range 4).reverse.map (fun k => (Jvm.Term.int (Int32.ofNat k), Jvm.Term.elem (.arg 5153) (.int (Int32.ofNat (k + 1))))))])]
theorem k_pul05 : cbody kR [] (cpl1 zWP c_pul0 [q_pul0e]) (cpl2 zWP c_pul0 [q_pul0e]) (cleafB kR zWP c_pul0 w_pul05) 360 false true q_pul05.2.2.1 q_pul05.2.2.2 (cst zWP c_pul0.2.2.1.1 q_pul05.1) (cst zWP c_pul0.2.2.1.2 q_pul05.2.1) = true := by decide +kernel
noncomputable def q_pul06 : sCut := ((fr 0 425 0 [(0, .long 0)] [], [fBot], 1), (fr 0 253 0 [(0, tr 219), (1, .int 0)] [], [fBot], 1), [((0, .arg 19904, .int 6), true)], [])
noncomputable def w_pul06 : List (sCut × List (Nat × sT) × List (Nat × sT × List (sT × sT))) := [(q_pul0e, [(19264, .op2 .iushr (.elem (.arg 19744) (.int 0)) (.int 5)), (5282, .op2 .iand (.op2 .iushr (.elem (.arg 19744) (.int 0)) (.int 4)) (.int 1)), (19296, .op2 .iand (.elem (.arg 19744) (.int 0)) (.int 15)), (5121, .elem (.arg 5153) (.int 0)), (19904, .sub (.arg 19904) (.int 1))], [(19744, .arg 19744, (List.range 5).reverse.map (fun k => (Jvm.Term.int (Int32.ofNat k), Jvm.Term.elem (.arg 19744) (.int (Int32.ofNat (k + 1)))))), (5153, .arg 5153, (List.range 5).reverse.map (fun k => (Jvm.Term.int (Int32.ofNat k), Jvm.Term.elem (.arg 5153) (.int (Int32.ofNat (k + 1))))))])]
theorem k_pul06 : cbody kR [] (cpl1 zWP c_pul0 [q_pul0e]) (cpl2 zWP c_pul0 [q_pul0e]) (cleafB kR zWP c_pul0 w_pul06) 420 false true q_pul06.2.2.1 q_pul06.2.2.2 (cst zWP c_pul0.2.2.1.1 q_pul06.1) (cst zWP c_pul0.2.2.1.2 q_pul06.2.1) = true := by decide +kernel
noncomputable def q_pul07 : sCut := ((fr 0 425 0 [(0, .long 0)] [], [fBot], 1), (fr 0 253 0 [(0, tr 219), (1, .int 0)] [], [fBot], 1), [((0, .arg 19904, .int 7), true)], [])
noncomputable def w_pul07 : List (sCut × List (Nat × sT) × List (Nat × sT × List (sT × sT))) := [(q_pul0e, [(19264, .op2 .iushr (.elem (.arg 19744) (.int 0)) (.int 5)), (5282, .op2 .iand (.op2 .iushr (.elem (.arg 19744) (.int 0)) (.int 4)) (.int 1)), (19296, .op2 .iand (.elem (.arg 19744) (.int 0)) (.int 15)), (5121, .elem (.arg 5153) (.int 0)), (19904, .sub (.arg 19904) (.int 1))], [(19744, .arg 19744, (List.range 6).reverse.map (fun k => (Jvm.Term.int (Int32.ofNat k), Jvm.Term.elem (.arg 19744) (.int (Int32.ofNat (k + 1)))))), (5153, .arg 5153, (List.range 6).reverse.map (fun k => (Jvm.Term.int (Int32.ofNat k), Jvm.Term.elem (.arg 5153) (.int (Int32.ofNat (k + 1))))))])]
theorem k_pul07 : cbody kR [] (cpl1 zWP c_pul0 [q_pul0e]) (cpl2 zWP c_pul0 [q_pul0e]) (cleafB kR zWP c_pul0 w_pul07) 480 false true q_pul07.2.2.1 q_pul07.2.2.2 (cst zWP c_pul0.2.2.1.1 q_pul07.1) (cst zWP c_pul0.2.2.1.2 q_pul07.2.1) = true := by decide +kernel
noncomputable def q_pul08 : sCut := ((fr 0 425 0 [(0, .long 0)] [], [fBot], 1), (fr 0 253 0 [(0, tr 219), (1, .int 0)] [], [fBot], 1), [((0, .arg 19904, .int 8), true)], [])
noncomputable def w_pul08 : List (sCut × List (Nat × sT) × List (Nat × sT × List (sT × sT))) := [(q_pul0e, [(19264, .op2 .iushr (.elem (.arg 19744) (.int 0)) (.int 5)), (5282, .op2 .iand (.op2 .iushr (.elem (.arg 19744) (.int 0)) (.int 4)) (.int 1)), (19296, .op2 .iand (.elem (.arg 19744) (.int 0)) (.int 15)), (5121, .elem (.arg 5153) (.int 0)), (19904, .sub (.arg 19904) (.int 1))], [(19744, .arg 19744, (List.range 7).reverse.map (fun k => (Jvm.Term.int (Int32.ofNat k), Jvm.Term.elem (.arg 19744) (.int (Int32.ofNat (k + 1)))))), (5153, .arg 5153, (List.range 7).reverse.map (fun k => (Jvm.Term.int (Int32.ofNat k), Jvm.Term.elem (.arg 5153) (.int (Int32.ofNat (k + 1))))))])]
theorem k_pul08 : cbody kR [] (cpl1 zWP c_pul0 [q_pul0e]) (cpl2 zWP c_pul0 [q_pul0e]) (cleafB kR zWP c_pul0 w_pul08) 540 false true q_pul08.2.2.1 q_pul08.2.2.2 (cst zWP c_pul0.2.2.1.1 q_pul08.1) (cst zWP c_pul0.2.2.1.2 q_pul08.2.1) = true := by decide +kernel
theorem k_pul0n : cbody kR [] (cpl1 zWP c_pul0 []) (cpl2 zWP c_pul0 []) (cleaf kR zWP c_pul0 []) 60 true true q_pul0n.2.2.1 q_pul0n.2.2.2 (cst zWP c_pul0.2.2.1.1 q_pul0n.1) (cst zWP c_pul0.2.2.1.2 q_pul0n.2.1) = true := by decide +kernel
theorem e_pul0 : frun kR [] (cpl1 zWP c_pul0 [q_pul00]) (cpl2 zWP c_pul0 [q_pul00]) (cleaf kR zWP c_pul0 [q_pul00]) 20 65536 (isatP (c_pul0.2.2.2.1) c_pul0.2.2.2.2.2.2.2.1) c_pul0.2.2.2.2.2.2.2.1 (sin0 mt_all c_pul0.1.1 1 c_pul0.2.1.1 (foot zWP c_pul0.2.2.1.1)) (sin0 mt_all c_pul0.1.2.1 1 c_pul0.2.1.2 (foot zWP c_pul0.2.2.1.2)) = true := by decide +kernel
theorem t_pul00 {X : pX} {ρ0 : sR} (hv : vok X ρ0) : CUTOK X kR zWP c_pul0 1 ρ0 q_pul00 := by
  refine CUTOK_AT (fun ρ k1 k2 k3 k4 => ?_)
  have hV : ρ.2.2.1 19744 0 = ρ.1 60000 := of_decide_eq_true (k2.2 _ (List.mem_cons_self))
  have hVB : ρ.2.2.2.1 5153 0 = ρ.2.1 60033 := of_decide_eq_true (k2.2 _ (List.mem_cons_of_mem _ (List.mem_cons_self)))
  have hN : ρ.1 19904 = ρ.1 60064 := of_decide_eq_true (k2.2 _ (List.mem_cons_of_mem _ (List.mem_cons_of_mem _ (List.mem_cons_self))))
  have g1 : (0 : Int32) < ρ.1 19904 := of_decide_eq_true (k2.2 _ (List.mem_cons_of_mem _ (List.mem_cons_of_mem _ (List.mem_cons_of_mem _ (List.mem_cons_self)))))
  have g2 : ¬ (8 : Int32) < ρ.1 19904 := of_decide_eq_false (k2.2 _ (List.mem_cons_of_mem _ (List.mem_cons_of_mem _ (List.mem_cons_of_mem _ (List.mem_cons_of_mem _ (List.mem_cons_of_mem _ (List.mem_cons_self)))))))
  have g3 : ¬ ρ.1 1728 < 0 := of_decide_eq_false (k2.2 _ (List.mem_cons_of_mem _ (List.mem_cons_of_mem _ (List.mem_cons_of_mem _ (List.mem_cons_of_mem _ (List.mem_cons_of_mem _ (List.mem_cons_of_mem _ (List.mem_cons_self))))))))
  have g4 : ¬ (8 : Int32) < ρ.1 1728 := of_decide_eq_false (k2.2 _ (List.mem_cons_of_mem _ (List.mem_cons_of_mem _ (List.mem_cons_of_mem _ (List.mem_cons_of_mem _ (List.mem_cons_of_mem _ (List.mem_cons_of_mem _ (List.mem_cons_of_mem _ (List.mem_cons_self)))))))))
  have g5 : ¬ ρ.1 1728 < ρ.1 19904 := of_decide_eq_false (k2.2 _ (List.mem_cons_of_mem _ (List.mem_cons_of_mem _ (List.mem_cons_of_mem _ (List.mem_cons_of_mem _ (List.mem_cons_of_mem _ (List.mem_cons_of_mem _ (List.mem_cons_of_mem _ (List.mem_cons_of_mem _ (List.mem_cons_self))))))))))
  have f3 : sc X ρ (2, .arg 1728, .int 0) = false := k2.2 _ (List.mem_cons_of_mem _ (List.mem_cons_of_mem _ (List.mem_cons_of_mem _ (List.mem_cons_of_mem _ (List.mem_cons_of_mem _ (List.mem_cons_of_mem _ (List.mem_cons_self)))))))
  have f4 : sc X ρ (2, .int 8, .arg 1728) = false := k2.2 _ (List.mem_cons_of_mem _ (List.mem_cons_of_mem _ (List.mem_cons_of_mem _ (List.mem_cons_of_mem _ (List.mem_cons_of_mem _ (List.mem_cons_of_mem _ (List.mem_cons_of_mem _ (List.mem_cons_self))))))))
  have h6 : (List.range (ρ.1 19904).toInt.toNat).all (fun j => decide (ρ.2.2.1 1568 ((ρ.1 1728 - ρ.1 19904).toInt.toNat + j) = ρ.2.2.1 19744 j)) = true := k2.2 _ (List.mem_cons_of_mem _ (List.mem_cons_of_mem _ (List.mem_cons_of_mem _ (List.mem_cons_of_mem _ (List.mem_cons_of_mem _ (List.mem_cons_of_mem _ (List.mem_cons_of_mem _ (List.mem_cons_of_mem _ (List.mem_cons_of_mem _ (List.mem_cons_self))))))))))
  have h7 : (List.range (ρ.1 19904).toInt.toNat).all (fun j => decide (ρ.2.2.2.1 1441 ((ρ.1 1728 - ρ.1 19904).toInt.toNat + j) = ρ.2.2.2.1 5153 j)) = true := k2.2 _ (List.mem_cons_of_mem _ (List.mem_cons_of_mem _ (List.mem_cons_of_mem _ (List.mem_cons_of_mem _ (List.mem_cons_of_mem _ (List.mem_cons_of_mem _ (List.mem_cons_of_mem _ (List.mem_cons_of_mem _ (List.mem_cons_of_mem _ (List.mem_cons_of_mem _ (List.mem_cons_self)))))))))))
  have z0 : (0 : Int32).toInt = 0 := rfl
  have z8 : (8 : Int32).toInt = 8 := rfl
  rw [Int32.lt_iff_toInt_lt] at g1 g2 g3 g4 g5
  rw [z0] at g1 g3
  rw [z8] at g2 g4
  have ip : (ρ.1 1728 - ρ.1 19904).toInt = (ρ.1 1728).toInt - (ρ.1 19904).toInt := by
    rw [Int32.toInt_sub]
    exact Int.bmod_eq_of_le (by omega) (by omega)
  have i1 : (ρ.1 19904 - 1).toInt = (ρ.1 19904).toInt - 1 := by
    rw [Int32.toInt_sub]
    exact Int.bmod_eq_of_le (by show _ ≤ (ρ.1 19904).toInt - 1; omega) (by show (ρ.1 19904).toInt - 1 < _; omega)
  have fin : ∀ (m : Nat) (ρ3 : sR), (ρ.1 19904).toInt = m + 1 → m ≤ 7 → kok X ρ3 kR → vok X ρ3 → agrM 65536 c_pul0.2.2.2.2.1.1 c_pul0.2.2.2.2.1.2 ρ3 ρ0 → sc X ρ3 (0, .arg 19264, .op2 .iushr (.arg 60000) (.int 5)) = true → sc X ρ3 (0, .arg 5282, .op2 .iand (.op2 .iushr (.arg 60000) (.int 4)) (.int 1)) = true → sc X ρ3 (0, .arg 19296, .op2 .iand (.arg 60000) (.int 15)) = true → ρ3.2.1 5121 = ρ.2.2.2.1 5153 0 → ρ3.1 19904 = ρ.1 19904 - 1 → (∀ j, j < m → ρ3.2.2.1 19744 j = ρ.2.2.1 19744 (j + 1)) → (∀ j, j < m → ρ3.2.2.2.1 5153 j = ρ.2.2.2.1 5153 (j + 1)) → AT X zWP c_pul0 1 ρ0 ρ3 q_pul0e := by
    intro m ρ3 hm hm7 l1 l2 l4 e1 e2 e3 e4 e5 e6 e7
    have same : ∀ x, x < 65536 → x ∉ c_pul0.2.2.2.2.1.1 → ρ3.1 x = ρ.1 x ∧ ρ3.2.1 x = ρ.2.1 x := fun x h1 h2 => ⟨((l4.1 x h1 h2).1).trans ((k4.1 x h1 h2).1).symm, ((l4.1 x h1 h2).2).trans ((k4.1 x h1 h2).2).symm⟩
    have samA : ∀ x, x < 65536 → x ∉ c_pul0.2.2.2.2.1.2 → ρ3.2.2.1 x = ρ.2.2.1 x ∧ ρ3.2.2.2.1 x = ρ.2.2.2.1 x := fun x h1 h2 => ⟨((l4.2 x h1 h2).1).trans ((k4.2 x h1 h2).1).symm, ((l4.2 x h1 h2).2).trans ((k4.2 x h1 h2).2).symm⟩
    have s1 := (same 1728 (by decide) (by decide)).1
    have s2 := (same 60064 (by decide) (by decide)).1
    have s3 := (same 60033 (by decide) (by decide)).2
    have s4 := (samA 1568 (by decide) (by decide)).1
    have s5 := (samA 1441 (by decide) (by decide)).2
    have ip3 : (ρ3.1 1728 - ρ3.1 19904).toInt = (ρ.1 1728).toInt - (ρ.1 19904).toInt + 1 := by
      rw [Int32.toInt_sub, s1, e5, i1]
      rw [Int.bmod_eq_of_le (by omega) (by omega)]
      omega
    refine AT_of (q := q_pul0n) rfl rfl (CUT_run kR_x kR_0 (Cs := []) (fun C hC => by cases hC) c_pul0_f (Q := []) hv (fun q hq => by cases hq) 60 (b1 := true) (b2 := true) k_pul0n ρ3 l1 ⟨l2, ?_⟩ (fun c hc => by cases hc) l4)
    refine fcq e1 (fcq e2 (fcq e3 (fcq (decide_eq_true (show ρ3.2.1 5121 = ρ3.2.1 60033 by rw [e4, hVB, s3])) (fcq (decide_eq_true (show ρ3.1 19904 = ρ3.1 60064 - 1 by rw [e5, s2, hN])) (fcq (decide_eq_false ?_) (fcq (decide_eq_false ?_) (fcq (decide_eq_false ?_) (fcq (decide_eq_false ?_) (fcq (decide_eq_false ?_) (fcq ?_ (fcq ?_ (fun f hf => by cases hf))))))))))))
    · show ¬ ρ3.1 19904 < 0
      rw [Int32.lt_iff_toInt_lt, z0, e5, i1]; omega
    · show ¬ (8 : Int32) < ρ3.1 19904
      rw [Int32.lt_iff_toInt_lt, z8, e5, i1]; omega
    · show ¬ ρ3.1 1728 < 0
      rw [Int32.lt_iff_toInt_lt, z0, s1]; omega
    · show ¬ (8 : Int32) < ρ3.1 1728
      rw [Int32.lt_iff_toInt_lt, z8, s1]; omega
    · show ¬ ρ3.1 1728 < ρ3.1 19904
      rw [Int32.lt_iff_toInt_lt, s1, e5, i1]; omega
    · show (List.range (ρ3.1 19904).toInt.toNat).all (fun j => decide (ρ3.2.2.1 1568 ((ρ3.1 1728 - ρ3.1 19904).toInt.toNat + j) = ρ3.2.2.1 19744 j)) = true
      refine n106_of (fun j hj => ?_)
      rw [e5, i1] at hj
      rw [ip3, s4, e6 j (by omega)]
      have h := n106_get h6 (j := j + 1) (by omega)
      rw [ip] at h
      rw [show ((ρ.1 1728).toInt - (ρ.1 19904).toInt + 1).toNat + j = ((ρ.1 1728).toInt - (ρ.1 19904).toInt).toNat + (j + 1) by omega]
      exact h
    · show (List.range (ρ3.1 19904).toInt.toNat).all (fun j => decide (ρ3.2.2.2.1 1441 ((ρ3.1 1728 - ρ3.1 19904).toInt.toNat + j) = ρ3.2.2.2.1 5153 j)) = true
      refine n106_of (fun j hj => ?_)
      rw [e5, i1] at hj
      rw [ip3, s5, e7 j (by omega)]
      have h := n106_get h7 (j := j + 1) (by omega)
      rw [ip] at h
      rw [show ((ρ.1 1728).toInt - (ρ.1 19904).toInt + 1).toNat + j = ((ρ.1 1728).toInt - (ρ.1 19904).toInt).toNat + (j + 1) by omega]
      exact h
  rcases (show (ρ.1 19904).toInt = 1 ∨ (ρ.1 19904).toInt = 2 ∨ (ρ.1 19904).toInt = 3 ∨ (ρ.1 19904).toInt = 4 ∨ (ρ.1 19904).toInt = 5 ∨ (ρ.1 19904).toInt = 6 ∨ (ρ.1 19904).toInt = 7 ∨ (ρ.1 19904).toInt = 8 by omega) with hk | hk | hk | hk | hk | hk | hk | hk
  · have ek : ρ.1 19904 = 1 := Int32.toInt_inj.mp (by rw [hk]; rfl)
    refine AT_of (q := q_pul01) rfl rfl (SEM_runB kR_x kR_0 (Cs := []) (fun C hC => by cases hC) c_pul0_f (Q := w_pul01) hv 120 (b1 := false) (b2 := true) k_pul01 k1 ⟨k2.1, fun f hf => by rw [List.mem_singleton.mp hf]; exact decide_eq_true ek⟩ (fun c hc => by cases hc) k4 (fun p hp ρ3 m1 m2 m3 m4 m5 m6 => ?_))
    rw [List.mem_singleton.mp hp] at m2 m3 m5 m6 ⊢
    have sV : ρ3.1 60000 = ρ.2.2.1 19744 0 := (((m4.1 60000 (by decide) (by decide)).1).trans ((k4.1 60000 (by decide) (by decide)).1).symm).trans hV.symm
    have y1 : ρ3.1 19264 = hd5 (ρ.2.2.1 19744 0) := congrArg Prod.fst (m5 (19264, .op2 .iushr (.elem (.arg 19744) (.int 0)) (.int 5)) (List.mem_cons_self))
    have y2 : ρ3.1 5282 = hd4 (ρ.2.2.1 19744 0) := congrArg Prod.fst (m5 (5282, .op2 .iand (.op2 .iushr (.elem (.arg 19744) (.int 0)) (.int 4)) (.int 1)) (List.mem_cons_of_mem _ (List.mem_cons_self)))
    have y3 : ρ3.1 19296 = hdl (ρ.2.2.1 19744 0) := congrArg Prod.fst (m5 (19296, .op2 .iand (.elem (.arg 19744) (.int 0)) (.int 15)) (List.mem_cons_of_mem _ (List.mem_cons_of_mem _ (List.mem_cons_self))))
    refine fin 0 ρ3 hk (by decide) m1 m2.1 m4 (decide_eq_true (show ρ3.1 19264 = hd5 (ρ3.1 60000) by rw [y1, sV])) (decide_eq_true (show ρ3.1 5282 = hd4 (ρ3.1 60000) by rw [y2, sV])) (decide_eq_true (show ρ3.1 19296 = hdl (ρ3.1 60000) by rw [y3, sV])) (congrArg Prod.snd (m5 (5121, .elem (.arg 5153) (.int 0)) (List.mem_cons_of_mem _ (List.mem_cons_of_mem _ (List.mem_cons_of_mem _ (List.mem_cons_self)))))) (congrArg Prod.fst (m5 (19904, .sub (.arg 19904) (.int 1)) (List.mem_cons_of_mem _ (List.mem_cons_of_mem _ (List.mem_cons_of_mem _ (List.mem_cons_of_mem _ (List.mem_cons_self))))))) (fun j hj => ?_) (fun j hj => ?_)
    · have h := m6 (19744, .arg 19744, (List.range 0).reverse.map (fun k => (Jvm.Term.int (Int32.ofNat k), Jvm.Term.elem (.arg 19744) (.int (Int32.ofNat (k + 1)))))) (List.mem_cons_self) j
      rw [bd_ev (by decide), aden_sf 0 (by decide) hj, sv_int rfl] at h
      refine (Value.int.inj h).trans ?_
      show ρ.2.2.1 19744 (Int32.ofNat (j + 1)).toNatClampNeg = _
      rw [s_nat, Int32.toInt_ofNat_small (by omega)]
      rfl
    · have h := m6 (5153, .arg 5153, (List.range 0).reverse.map (fun k => (Jvm.Term.int (Int32.ofNat k), Jvm.Term.elem (.arg 5153) (.int (Int32.ofNat (k + 1)))))) (List.mem_cons_of_mem _ List.mem_cons_self) j
      rw [bd_od (by decide), aden_sf 0 (by decide) hj, sv_long rfl] at h
      refine (Value.long.inj h).trans ?_
      show ρ.2.2.2.1 5153 (Int32.ofNat (j + 1)).toNatClampNeg = _
      rw [s_nat, Int32.toInt_ofNat_small (by omega)]
      rfl
  · have ek : ρ.1 19904 = 2 := Int32.toInt_inj.mp (by rw [hk]; rfl)
    refine AT_of (q := q_pul02) rfl rfl (SEM_runB kR_x kR_0 (Cs := []) (fun C hC => by cases hC) c_pul0_f (Q := w_pul02) hv 180 (b1 := false) (b2 := true) k_pul02 k1 ⟨k2.1, fun f hf => by rw [List.mem_singleton.mp hf]; exact decide_eq_true ek⟩ (fun c hc => by cases hc) k4 (fun p hp ρ3 m1 m2 m3 m4 m5 m6 => ?_))
    rw [List.mem_singleton.mp hp] at m2 m3 m5 m6 ⊢
    have sV : ρ3.1 60000 = ρ.2.2.1 19744 0 := (((m4.1 60000 (by decide) (by decide)).1).trans ((k4.1 60000 (by decide) (by decide)).1).symm).trans hV.symm
    have y1 : ρ3.1 19264 = hd5 (ρ.2.2.1 19744 0) := congrArg Prod.fst (m5 (19264, .op2 .iushr (.elem (.arg 19744) (.int 0)) (.int 5)) (List.mem_cons_self))
    have y2 : ρ3.1 5282 = hd4 (ρ.2.2.1 19744 0) := congrArg Prod.fst (m5 (5282, .op2 .iand (.op2 .iushr (.elem (.arg 19744) (.int 0)) (.int 4)) (.int 1)) (List.mem_cons_of_mem _ (List.mem_cons_self)))
    have y3 : ρ3.1 19296 = hdl (ρ.2.2.1 19744 0) := congrArg Prod.fst (m5 (19296, .op2 .iand (.elem (.arg 19744) (.int 0)) (.int 15)) (List.mem_cons_of_mem _ (List.mem_cons_of_mem _ (List.mem_cons_self))))
    refine fin 1 ρ3 hk (by decide) m1 m2.1 m4 (decide_eq_true (show ρ3.1 19264 = hd5 (ρ3.1 60000) by rw [y1, sV])) (decide_eq_true (show ρ3.1 5282 = hd4 (ρ3.1 60000) by rw [y2, sV])) (decide_eq_true (show ρ3.1 19296 = hdl (ρ3.1 60000) by rw [y3, sV])) (congrArg Prod.snd (m5 (5121, .elem (.arg 5153) (.int 0)) (List.mem_cons_of_mem _ (List.mem_cons_of_mem _ (List.mem_cons_of_mem _ (List.mem_cons_self)))))) (congrArg Prod.fst (m5 (19904, .sub (.arg 19904) (.int 1)) (List.mem_cons_of_mem _ (List.mem_cons_of_mem _ (List.mem_cons_of_mem _ (List.mem_cons_of_mem _ (List.mem_cons_self))))))) (fun j hj => ?_) (fun j hj => ?_)
    · have h := m6 (19744, .arg 19744, (List.range 1).reverse.map (fun k => (Jvm.Term.int (Int32.ofNat k), Jvm.Term.elem (.arg 19744) (.int (Int32.ofNat (k + 1)))))) (List.mem_cons_self) j
      rw [bd_ev (by decide), aden_sf 1 (by decide) hj, sv_int rfl] at h
      refine (Value.int.inj h).trans ?_
      show ρ.2.2.1 19744 (Int32.ofNat (j + 1)).toNatClampNeg = _
      rw [s_nat, Int32.toInt_ofNat_small (by omega)]
      rfl
    · have h := m6 (5153, .arg 5153, (List.range 1).reverse.map (fun k => (Jvm.Term.int (Int32.ofNat k), Jvm.Term.elem (.arg 5153) (.int (Int32.ofNat (k + 1)))))) (List.mem_cons_of_mem _ List.mem_cons_self) j
      rw [bd_od (by decide), aden_sf 1 (by decide) hj, sv_long rfl] at h
      refine (Value.long.inj h).trans ?_
      show ρ.2.2.2.1 5153 (Int32.ofNat (j + 1)).toNatClampNeg = _
      rw [s_nat, Int32.toInt_ofNat_small (by omega)]
      rfl
  · have ek : ρ.1 19904 = 3 := Int32.toInt_inj.mp (by rw [hk]; rfl)
    refine AT_of (q := q_pul03) rfl rfl (SEM_runB kR_x kR_0 (Cs := []) (fun C hC => by cases hC) c_pul0_f (Q := w_pul03) hv 240 (b1 := false) (b2 := true) k_pul03 k1 ⟨k2.1, fun f hf => by rw [List.mem_singleton.mp hf]; exact decide_eq_true ek⟩ (fun c hc => by cases hc) k4 (fun p hp ρ3 m1 m2 m3 m4 m5 m6 => ?_))
    rw [List.mem_singleton.mp hp] at m2 m3 m5 m6 ⊢
    have sV : ρ3.1 60000 = ρ.2.2.1 19744 0 := (((m4.1 60000 (by decide) (by decide)).1).trans ((k4.1 60000 (by decide) (by decide)).1).symm).trans hV.symm
    have y1 : ρ3.1 19264 = hd5 (ρ.2.2.1 19744 0) := congrArg Prod.fst (m5 (19264, .op2 .iushr (.elem (.arg 19744) (.int 0)) (.int 5)) (List.mem_cons_self))
    have y2 : ρ3.1 5282 = hd4 (ρ.2.2.1 19744 0) := congrArg Prod.fst (m5 (5282, .op2 .iand (.op2 .iushr (.elem (.arg 19744) (.int 0)) (.int 4)) (.int 1)) (List.mem_cons_of_mem _ (List.mem_cons_self)))
    have y3 : ρ3.1 19296 = hdl (ρ.2.2.1 19744 0) := congrArg Prod.fst (m5 (19296, .op2 .iand (.elem (.arg 19744) (.int 0)) (.int 15)) (List.mem_cons_of_mem _ (List.mem_cons_of_mem _ (List.mem_cons_self))))
    refine fin 2 ρ3 hk (by decide) m1 m2.1 m4 (decide_eq_true (show ρ3.1 19264 = hd5 (ρ3.1 60000) by rw [y1, sV])) (decide_eq_true (show ρ3.1 5282 = hd4 (ρ3.1 60000) by rw [y2, sV])) (decide_eq_true (show ρ3.1 19296 = hdl (ρ3.1 60000) by rw [y3, sV])) (congrArg Prod.snd (m5 (5121, .elem (.arg 5153) (.int 0)) (List.mem_cons_of_mem _ (List.mem_cons_of_mem _ (List.mem_cons_of_mem _ (List.mem_cons_self)))))) (congrArg Prod.fst (m5 (19904, .sub (.arg 19904) (.int 1)) (List.mem_cons_of_mem _ (List.mem_cons_of_mem _ (List.mem_cons_of_mem _ (List.mem_cons_of_mem _ (List.mem_cons_self))))))) (fun j hj => ?_) (fun j hj => ?_)
    · have h := m6 (19744, .arg 19744, (List.range 2).reverse.map (fun k => (Jvm.Term.int (Int32.ofNat k), Jvm.Term.elem (.arg 19744) (.int (Int32.ofNat (k + 1)))))) (List.mem_cons_self) j
      rw [bd_ev (by decide), aden_sf 2 (by decide) hj, sv_int rfl] at h
      refine (Value.int.inj h).trans ?_
      show ρ.2.2.1 19744 (Int32.ofNat (j + 1)).toNatClampNeg = _
      rw [s_nat, Int32.toInt_ofNat_small (by omega)]
      rfl
    · have h := m6 (5153, .arg 5153, (List.range 2).reverse.map (fun k => (Jvm.Term.int (Int32.ofNat k), Jvm.Term.elem (.arg 5153) (.int (Int32.ofNat (k + 1)))))) (List.mem_cons_of_mem _ List.mem_cons_self) j
      rw [bd_od (by decide), aden_sf 2 (by decide) hj, sv_long rfl] at h
      refine (Value.long.inj h).trans ?_
      show ρ.2.2.2.1 5153 (Int32.ofNat (j + 1)).toNatClampNeg = _
      rw [s_nat, Int32.toInt_ofNat_small (by omega)]
      rfl
  · have ek : ρ.1 19904 = 4 := Int32.toInt_inj.mp (by rw [hk]; rfl)
    refine AT_of (q := q_pul04) rfl rfl (SEM_runB kR_x kR_0 (Cs := []) (fun C hC => by cases hC) c_pul0_f (Q := w_pul04) hv 300 (b1 := false) (b2 := true) k_pul04 k1 ⟨k2.1, fun f hf => by rw [List.mem_singleton.mp hf]; exact decide_eq_true ek⟩ (fun c hc => by cases hc) k4 (fun p hp ρ3 m1 m2 m3 m4 m5 m6 => ?_))
    rw [List.mem_singleton.mp hp] at m2 m3 m5 m6 ⊢
    have sV : ρ3.1 60000 = ρ.2.2.1 19744 0 := (((m4.1 60000 (by decide) (by decide)).1).trans ((k4.1 60000 (by decide) (by decide)).1).symm).trans hV.symm
    have y1 : ρ3.1 19264 = hd5 (ρ.2.2.1 19744 0) := congrArg Prod.fst (m5 (19264, .op2 .iushr (.elem (.arg 19744) (.int 0)) (.int 5)) (List.mem_cons_self))
    have y2 : ρ3.1 5282 = hd4 (ρ.2.2.1 19744 0) := congrArg Prod.fst (m5 (5282, .op2 .iand (.op2 .iushr (.elem (.arg 19744) (.int 0)) (.int 4)) (.int 1)) (List.mem_cons_of_mem _ (List.mem_cons_self)))
    have y3 : ρ3.1 19296 = hdl (ρ.2.2.1 19744 0) := congrArg Prod.fst (m5 (19296, .op2 .iand (.elem (.arg 19744) (.int 0)) (.int 15)) (List.mem_cons_of_mem _ (List.mem_cons_of_mem _ (List.mem_cons_self))))
    refine fin 3 ρ3 hk (by decide) m1 m2.1 m4 (decide_eq_true (show ρ3.1 19264 = hd5 (ρ3.1 60000) by rw [y1, sV])) (decide_eq_true (show ρ3.1 5282 = hd4 (ρ3.1 60000) by rw [y2, sV])) (decide_eq_true (show ρ3.1 19296 = hdl (ρ3.1 60000) by rw [y3, sV])) (congrArg Prod.snd (m5 (5121, .elem (.arg 5153) (.int 0)) (List.mem_cons_of_mem _ (List.mem_cons_of_mem _ (List.mem_cons_of_mem _ (List.mem_cons_self)))))) (congrArg Prod.fst (m5 (19904, .sub (.arg 19904) (.int 1)) (List.mem_cons_of_mem _ (List.mem_cons_of_mem _ (List.mem_cons_of_mem _ (List.mem_cons_of_mem _ (List.mem_cons_self))))))) (fun j hj => ?_) (fun j hj => ?_)
    · have h := m6 (19744, .arg 19744, (List.range 3).reverse.map (fun k => (Jvm.Term.int (Int32.ofNat k), Jvm.Term.elem (.arg 19744) (.int (Int32.ofNat (k + 1)))))) (List.mem_cons_self) j
      rw [bd_ev (by decide), aden_sf 3 (by decide) hj, sv_int rfl] at h
      refine (Value.int.inj h).trans ?_
      show ρ.2.2.1 19744 (Int32.ofNat (j + 1)).toNatClampNeg = _
      rw [s_nat, Int32.toInt_ofNat_small (by omega)]
      rfl
    · have h := m6 (5153, .arg 5153, (List.range 3).reverse.map (fun k => (Jvm.Term.int (Int32.ofNat k), Jvm.Term.elem (.arg 5153) (.int (Int32.ofNat (k + 1)))))) (List.mem_cons_of_mem _ List.mem_cons_self) j
      rw [bd_od (by decide), aden_sf 3 (by decide) hj, sv_long rfl] at h
      refine (Value.long.inj h).trans ?_
      show ρ.2.2.2.1 5153 (Int32.ofNat (j + 1)).toNatClampNeg = _
      rw [s_nat, Int32.toInt_ofNat_small (by omega)]
      rfl
  · have ek : ρ.1 19904 = 5 := Int32.toInt_inj.mp (by rw [hk]; rfl)
    refine AT_of (q := q_pul05) rfl rfl (SEM_runB kR_x kR_0 (Cs := []) (fun C hC => by cases hC) c_pul0_f (Q := w_pul05) hv 360 (b1 := false) (b2 := true) k_pul05 k1 ⟨k2.1, fun f hf => by rw [List.mem_singleton.mp hf]; exact decide_eq_true ek⟩ (fun c hc => by cases hc) k4 (fun p hp ρ3 m1 m2 m3 m4 m5 m6 => ?_))
    rw [List.mem_singleton.mp hp] at m2 m3 m5 m6 ⊢
    have sV : ρ3.1 60000 = ρ.2.2.1 19744 0 := (((m4.1 60000 (by decide) (by decide)).1).trans ((k4.1 60000 (by decide) (by decide)).1).symm).trans hV.symm
    have y1 : ρ3.1 19264 = hd5 (ρ.2.2.1 19744 0) := congrArg Prod.fst (m5 (19264, .op2 .iushr (.elem (.arg 19744) (.int 0)) (.int 5)) (List.mem_cons_self))
    have y2 : ρ3.1 5282 = hd4 (ρ.2.2.1 19744 0) := congrArg Prod.fst (m5 (5282, .op2 .iand (.op2 .iushr (.elem (.arg 19744) (.int 0)) (.int 4)) (.int 1)) (List.mem_cons_of_mem _ (List.mem_cons_self)))
    have y3 : ρ3.1 19296 = hdl (ρ.2.2.1 19744 0) := congrArg Prod.fst (m5 (19296, .op2 .iand (.elem (.arg 19744) (.int 0)) (.int 15)) (List.mem_cons_of_mem _ (List.mem_cons_of_mem _ (List.mem_cons_self))))
    refine fin 4 ρ3 hk (by decide) m1 m2.1 m4 (decide_eq_true (show ρ3.1 19264 = hd5 (ρ3.1 60000) by rw [y1, sV])) (decide_eq_true (show ρ3.1 5282 = hd4 (ρ3.1 60000) by rw [y2, sV])) (decide_eq_true (show ρ3.1 19296 = hdl (ρ3.1 60000) by rw [y3, sV])) (congrArg Prod.snd (m5 (5121, .elem (.arg 5153) (.int 0)) (List.mem_cons_of_mem _ (List.mem_cons_of_mem _ (List.mem_cons_of_mem _ (List.mem_cons_self)))))) (congrArg Prod.fst (m5 (19904, .sub (.arg 19904) (.int 1)) (List.mem_cons_of_mem _ (List.mem_cons_of_mem _ (List.mem_cons_of_mem _ (List.mem_cons_of_mem _ (List.mem_cons_self))))))) (fun j hj => ?_) (fun j hj => ?_)
    · have h := m6 (19744, .arg 19744, (List.range 4).reverse.map (fun k => (Jvm.Term.int (Int32.ofNat k), Jvm.Term.elem (.arg 19744) (.int (Int32.ofNat (k + 1)))))) (List.mem_cons_self) j
      rw [bd_ev (by decide), aden_sf 4 (by decide) hj, sv_int rfl] at h
      refine (Value.int.inj h).trans ?_
      show ρ.2.2.1 19744 (Int32.ofNat (j + 1)).toNatClampNeg = _
      rw [s_nat, Int32.toInt_ofNat_small (by omega)]
      rfl
    · have h := m6 (5153, .arg 5153, (List.range 4).reverse.map (fun k => (Jvm.Term.int (Int32.ofNat k), Jvm.Term.elem (.arg 5153) (.int (Int32.ofNat (k + 1)))))) (List.mem_cons_of_mem _ List.mem_cons_self) j
      rw [bd_od (by decide), aden_sf 4 (by decide) hj, sv_long rfl] at h
      refine (Value.long.inj h).trans ?_
      show ρ.2.2.2.1 5153 (Int32.ofNat (j + 1)).toNatClampNeg = _
      rw [s_nat, Int32.toInt_ofNat_small (by omega)]
      rfl
  · have ek : ρ.1 19904 = 6 := Int32.toInt_inj.mp (by rw [hk]; rfl)
    refine AT_of (q := q_pul06) rfl rfl (SEM_runB kR_x kR_0 (Cs := []) (fun C hC => by cases hC) c_pul0_f (Q := w_pul06) hv 420 (b1 := false) (b2 := true) k_pul06 k1 ⟨k2.1, fun f hf => by rw [List.mem_singleton.mp hf]; exact decide_eq_true ek⟩ (fun c hc => by cases hc) k4 (fun p hp ρ3 m1 m2 m3 m4 m5 m6 => ?_))
    rw [List.mem_singleton.mp hp] at m2 m3 m5 m6 ⊢
    have sV : ρ3.1 60000 = ρ.2.2.1 19744 0 := (((m4.1 60000 (by decide) (by decide)).1).trans ((k4.1 60000 (by decide) (by decide)).1).symm).trans hV.symm
    have y1 : ρ3.1 19264 = hd5 (ρ.2.2.1 19744 0) := congrArg Prod.fst (m5 (19264, .op2 .iushr (.elem (.arg 19744) (.int 0)) (.int 5)) (List.mem_cons_self))
    have y2 : ρ3.1 5282 = hd4 (ρ.2.2.1 19744 0) := congrArg Prod.fst (m5 (5282, .op2 .iand (.op2 .iushr (.elem (.arg 19744) (.int 0)) (.int 4)) (.int 1)) (List.mem_cons_of_mem _ (List.mem_cons_self)))
    have y3 : ρ3.1 19296 = hdl (ρ.2.2.1 19744 0) := congrArg Prod.fst (m5 (19296, .op2 .iand (.elem (.arg 19744) (.int 0)) (.int 15)) (List.mem_cons_of_mem _ (List.mem_cons_of_mem _ (List.mem_cons_self))))
    refine fin 5 ρ3 hk (by decide) m1 m2.1 m4 (decide_eq_true (show ρ3.1 19264 = hd5 (ρ3.1 60000) by rw [y1, sV])) (decide_eq_true (show ρ3.1 5282 = hd4 (ρ3.1 60000) by rw [y2, sV])) (decide_eq_true (show ρ3.1 19296 = hdl (ρ3.1 60000) by rw [y3, sV])) (congrArg Prod.snd (m5 (5121, .elem (.arg 5153) (.int 0)) (List.mem_cons_of_mem _ (List.mem_cons_of_mem _ (List.mem_cons_of_mem _ (List.mem_cons_self)))))) (congrArg Prod.fst (m5 (19904, .sub (.arg 19904) (.int 1)) (List.mem_cons_of_mem _ (List.mem_cons_of_mem _ (List.mem_cons_of_mem _ (List.mem_cons_of_mem _ (List.mem_cons_self))))))) (fun j hj => ?_) (fun j hj => ?_)
    · have h := m6 (19744, .arg 19744, (List.range 5).reverse.map (fun k => (Jvm.Term.int (Int32.ofNat k), Jvm.Term.elem (.arg 19744) (.int (Int32.ofNat (k + 1)))))) (List.mem_cons_self) j
      rw [bd_ev (by decide), aden_sf 5 (by decide) hj, sv_int rfl] at h
      refine (Value.int.inj h).trans ?_
      show ρ.2.2.1 19744 (Int32.ofNat (j + 1)).toNatClampNeg = _
      rw [s_nat, Int32.toInt_ofNat_small (by omega)]
      rfl
    · have h := m6 (5153, .arg 5153, (List.range 5).reverse.map (fun k => (Jvm.Term.int (Int32.ofNat k), Jvm.Term.elem (.arg 5153) (.int (Int32.ofNat (k + 1)))))) (List.mem_cons_of_mem _ List.mem_cons_self) j
      rw [bd_od (by decide), aden_sf 5 (by decide) hj, sv_long rfl] at h
      refine (Value.long.inj h).trans ?_
      show ρ.2.2.2.1 5153 (Int32.ofNat (j + 1)).toNatClampNeg = _
      rw [s_nat, Int32.toInt_ofNat_small (by omega)]
      rfl
  · have ek : ρ.1 19904 = 7 := Int32.toInt_inj.mp (by rw [hk]; rfl)
    refine AT_of (q := q_pul07) rfl rfl (SEM_runB kR_x kR_0 (Cs := []) (fun C hC => by cases hC) c_pul0_f (Q := w_pul07) hv 480 (b1 := false) (b2 := true) k_pul07 k1 ⟨k2.1, fun f hf => by rw [List.mem_singleton.mp hf]; exact decide_eq_true ek⟩ (fun c hc => by cases hc) k4 (fun p hp ρ3 m1 m2 m3 m4 m5 m6 => ?_))
    rw [List.mem_singleton.mp hp] at m2 m3 m5 m6 ⊢
    have sV : ρ3.1 60000 = ρ.2.2.1 19744 0 := (((m4.1 60000 (by decide) (by decide)).1).trans ((k4.1 60000 (by decide) (by decide)).1).symm).trans hV.symm
    have y1 : ρ3.1 19264 = hd5 (ρ.2.2.1 19744 0) := congrArg Prod.fst (m5 (19264, .op2 .iushr (.elem (.arg 19744) (.int 0)) (.int 5)) (List.mem_cons_self))
    have y2 : ρ3.1 5282 = hd4 (ρ.2.2.1 19744 0) := congrArg Prod.fst (m5 (5282, .op2 .iand (.op2 .iushr (.elem (.arg 19744) (.int 0)) (.int 4)) (.int 1)) (List.mem_cons_of_mem _ (List.mem_cons_self)))
    have y3 : ρ3.1 19296 = hdl (ρ.2.2.1 19744 0) := congrArg Prod.fst (m5 (19296, .op2 .iand (.elem (.arg 19744) (.int 0)) (.int 15)) (List.mem_cons_of_mem _ (List.mem_cons_of_mem _ (List.mem_cons_self))))
    refine fin 6 ρ3 hk (by decide) m1 m2.1 m4 (decide_eq_true (show ρ3.1 19264 = hd5 (ρ3.1 60000) by rw [y1, sV])) (decide_eq_true (show ρ3.1 5282 = hd4 (ρ3.1 60000) by rw [y2, sV])) (decide_eq_true (show ρ3.1 19296 = hdl (ρ3.1 60000) by rw [y3, sV])) (congrArg Prod.snd (m5 (5121, .elem (.arg 5153) (.int 0)) (List.mem_cons_of_mem _ (List.mem_cons_of_mem _ (List.mem_cons_of_mem _ (List.mem_cons_self)))))) (congrArg Prod.fst (m5 (19904, .sub (.arg 19904) (.int 1)) (List.mem_cons_of_mem _ (List.mem_cons_of_mem _ (List.mem_cons_of_mem _ (List.mem_cons_of_mem _ (List.mem_cons_self))))))) (fun j hj => ?_) (fun j hj => ?_)
    · have h := m6 (19744, .arg 19744, (List.range 6).reverse.map (fun k => (Jvm.Term.int (Int32.ofNat k), Jvm.Term.elem (.arg 19744) (.int (Int32.ofNat (k + 1)))))) (List.mem_cons_self) j
      rw [bd_ev (by decide), aden_sf 6 (by decide) hj, sv_int rfl] at h
      refine (Value.int.inj h).trans ?_
      show ρ.2.2.1 19744 (Int32.ofNat (j + 1)).toNatClampNeg = _
      rw [s_nat, Int32.toInt_ofNat_small (by omega)]
      rfl
    · have h := m6 (5153, .arg 5153, (List.range 6).reverse.map (fun k => (Jvm.Term.int (Int32.ofNat k), Jvm.Term.elem (.arg 5153) (.int (Int32.ofNat (k + 1)))))) (List.mem_cons_of_mem _ List.mem_cons_self) j
      rw [bd_od (by decide), aden_sf 6 (by decide) hj, sv_long rfl] at h
      refine (Value.long.inj h).trans ?_
      show ρ.2.2.2.1 5153 (Int32.ofNat (j + 1)).toNatClampNeg = _
      rw [s_nat, Int32.toInt_ofNat_small (by omega)]
      rfl
  · have ek : ρ.1 19904 = 8 := Int32.toInt_inj.mp (by rw [hk]; rfl)
    refine AT_of (q := q_pul08) rfl rfl (SEM_runB kR_x kR_0 (Cs := []) (fun C hC => by cases hC) c_pul0_f (Q := w_pul08) hv 540 (b1 := false) (b2 := true) k_pul08 k1 ⟨k2.1, fun f hf => by rw [List.mem_singleton.mp hf]; exact decide_eq_true ek⟩ (fun c hc => by cases hc) k4 (fun p hp ρ3 m1 m2 m3 m4 m5 m6 => ?_))
    rw [List.mem_singleton.mp hp] at m2 m3 m5 m6 ⊢
    have sV : ρ3.1 60000 = ρ.2.2.1 19744 0 := (((m4.1 60000 (by decide) (by decide)).1).trans ((k4.1 60000 (by decide) (by decide)).1).symm).trans hV.symm
    have y1 : ρ3.1 19264 = hd5 (ρ.2.2.1 19744 0) := congrArg Prod.fst (m5 (19264, .op2 .iushr (.elem (.arg 19744) (.int 0)) (.int 5)) (List.mem_cons_self))
    have y2 : ρ3.1 5282 = hd4 (ρ.2.2.1 19744 0) := congrArg Prod.fst (m5 (5282, .op2 .iand (.op2 .iushr (.elem (.arg 19744) (.int 0)) (.int 4)) (.int 1)) (List.mem_cons_of_mem _ (List.mem_cons_self)))
    have y3 : ρ3.1 19296 = hdl (ρ.2.2.1 19744 0) := congrArg Prod.fst (m5 (19296, .op2 .iand (.elem (.arg 19744) (.int 0)) (.int 15)) (List.mem_cons_of_mem _ (List.mem_cons_of_mem _ (List.mem_cons_self))))
    refine fin 7 ρ3 hk (by decide) m1 m2.1 m4 (decide_eq_true (show ρ3.1 19264 = hd5 (ρ3.1 60000) by rw [y1, sV])) (decide_eq_true (show ρ3.1 5282 = hd4 (ρ3.1 60000) by rw [y2, sV])) (decide_eq_true (show ρ3.1 19296 = hdl (ρ3.1 60000) by rw [y3, sV])) (congrArg Prod.snd (m5 (5121, .elem (.arg 5153) (.int 0)) (List.mem_cons_of_mem _ (List.mem_cons_of_mem _ (List.mem_cons_of_mem _ (List.mem_cons_self)))))) (congrArg Prod.fst (m5 (19904, .sub (.arg 19904) (.int 1)) (List.mem_cons_of_mem _ (List.mem_cons_of_mem _ (List.mem_cons_of_mem _ (List.mem_cons_of_mem _ (List.mem_cons_self))))))) (fun j hj => ?_) (fun j hj => ?_)
    · have h := m6 (19744, .arg 19744, (List.range 7).reverse.map (fun k => (Jvm.Term.int (Int32.ofNat k), Jvm.Term.elem (.arg 19744) (.int (Int32.ofNat (k + 1)))))) (List.mem_cons_self) j
      rw [bd_ev (by decide), aden_sf 7 (by decide) hj, sv_int rfl] at h
      refine (Value.int.inj h).trans ?_
      show ρ.2.2.1 19744 (Int32.ofNat (j + 1)).toNatClampNeg = _
      rw [s_nat, Int32.toInt_ofNat_small (by omega)]
      rfl
    · have h := m6 (5153, .arg 5153, (List.range 7).reverse.map (fun k => (Jvm.Term.int (Int32.ofNat k), Jvm.Term.elem (.arg 5153) (.int (Int32.ofNat (k + 1)))))) (List.mem_cons_of_mem _ List.mem_cons_self) j
      rw [bd_od (by decide), aden_sf 7 (by decide) hj, sv_long rfl] at h
      refine (Value.long.inj h).trans ?_
      show ρ.2.2.2.1 5153 (Int32.ofNat (j + 1)).toNatClampNeg = _
      rw [s_nat, Int32.toInt_ofNat_small (by omega)]
      rfl
theorem s_pul0 {X : pX} : SREL X pF pdfl mt_all kR zWP c_pul0 := SREL_cut kR_x kR_0 (Cs := []) (fun C hC => by cases hC) (d := 1) rfl c_pul0_f (Q := [q_pul00]) (fun ρ0 hv q hq => by rw [List.mem_singleton.mp hq]; exact t_pul00 hv) 20 e_pul0
/-! ===== a frame off the in row of drive 1: pull ===== -/
noncomputable def c_pul1 : sC := ((425, 253, 2), ([.long 0], [tr 219, .int 1]), ([], [219, 242, 243, 244, 245, 246]), [((0, .elem (.arg 19776) (.int 0), .arg 60000), true), ((6, .elem (.arg 5185) (.int 0), .arg 60033), true), ((0, .arg 19936, .arg 60064), true), ((2, .int 0, .arg 19936), true), ((2, .arg 19936, .int 0), false), ((2, .int 8, .arg 19936), false), ((2, .arg 1760, .int 0), false), ((2, .int 8, .arg 1760), false), ((2, .arg 1760, .arg 19936), false), ((106, .add (.sub (.arg 1760) (.arg 19936)) (.add (.elem (.arg 1600) (.int 0)) (.elem (.arg 19776) (.int 0))), .arg 19936), true), ((107, .add (.sub (.arg 1760) (.arg 19936)) (.add (.elem (.arg 1473) (.int 0)) (.elem (.arg 5185) (.int 0))), .arg 19936), true)], ([19264, 5282, 19296, 5121, 19936], [19776, 5185]), (some (.long 0), none), [((0, .arg 19264, .op2 .iushr (.arg 60000) (.int 5)), true), ((0, .arg 5282, .op2 .iand (.op2 .iushr (.arg 60000) (.int 4)) (.int 1)), true), ((0, .arg 19296, .op2 .iand (.arg 60000) (.int 15)), true), ((6, .arg 5121, .arg 60033), true), ((0, .arg 19936, .sub (.arg 60064) (.int 1)), true), ((2, .arg 19936, .int 0), false), ((2, .int 8, .arg 19936), false), ((2, .arg 1760, .int 0), false), ((2, .int 8, .arg 1760), false), ((2, .arg 1760, .arg 19936), false), ((106, .add (.sub (.arg 1760) (.arg 19936)) (.add (.elem (.arg 1600) (.int 0)) (.elem (.arg 19776) (.int 0))), .arg 19936), true), ((107, .add (.sub (.arg 1760) (.arg 19936)) (.add (.elem (.arg 1473) (.int 0)) (.elem (.arg 5185) (.int 0))), .arg 19936), true)], ([], []))
theorem c_pul1_f : cfine zWP 65536 c_pul1 = true := by decide +kernel
noncomputable def zf98zzp_11 : sQ × Bool := ((2, .arg 19936, .int 0), false)
noncomputable def zf98zzp_12 : sQ × Bool := ((2, .int 8, .arg 19936), false)
noncomputable def zf98zzp_13 : sQ × Bool := ((2, .arg 1760, .int 0), false)
noncomputable def zf98zzp_14 : sQ × Bool := ((2, .int 8, .arg 1760), false)
noncomputable def zf98zzp_15 : sQ × Bool := ((2, .arg 1760, .arg 19936), false)
noncomputable def zf98zzp_16 : sQ × Bool := ((106, .add (.sub (.arg 1760) (.arg 19936)) (.add (.elem (.arg 1600) (.int 0)) (.elem (.arg 19776) (.int 0))), .arg 19936), true)
noncomputable def zf98zzp_17 : sQ × Bool := ((107, .add (.sub (.arg 1760) (.arg 19936)) (.add (.elem (.arg 1473) (.int 0)) (.elem (.arg 5185) (.int 0))), .arg 19936), true)
noncomputable def q_pul10 : sCut := ((fr 0 425 0 [(0, .long 0)] [], [fBot], 1), (fr 0 253 0 [(0, tr 219), (1, .int 1)] [], [fBot], 1), [((0, .elem (.arg 19776) (.int 0), .arg 60000), true), ((6, .elem (.arg 5185) (.int 0), .arg 60033), true), ((0, .arg 19936, .arg 60064), true), ((2, .int 0, .arg 19936), true), zf98zzp_11, zf98zzp_12, zf98zzp_13, zf98zzp_14, zf98zzp_15, zf98zzp_16, zf98zzp_17], [])
noncomputable def q_pul1e : sCut := ((fr 0 425 0 [(0, .long 0)] [], [fBot], 1), (fr 0 253 88 [(0, tr 219)] [], [fBot], 1), [], [])
noncomputable def q_pul1n : sCut := ((fr 0 425 0 [(0, .long 0)] [], [fBot], 1), (fr 0 253 88 [(0, tr 219)] [], [fBot], 1), [zf98zzp_7, zf98zzp_8, zf98zzp_9, zf98zzp_10, ((0, .arg 19936, .sub (.arg 60064) (.int 1)), true), zf98zzp_11, zf98zzp_12, zf98zzp_13, zf98zzp_14, zf98zzp_15, zf98zzp_16, zf98zzp_17], [])
noncomputable def q_pul11 : sCut := ((fr 0 425 0 [(0, .long 0)] [], [fBot], 1), (fr 0 253 0 [(0, tr 219), (1, .int 1)] [], [fBot], 1), [((0, .arg 19936, .int 1), true)], [])
noncomputable def w_pul11 : List (sCut × List (Nat × sT) × List (Nat × sT × List (sT × sT))) := [(q_pul1e, [(19264, .op2 .iushr (.elem (.arg 19776) (.int 0)) (.int 5)), (5282, .op2 .iand (.op2 .iushr (.elem (.arg 19776) (.int 0)) (.int 4)) (.int 1)), (19296, .op2 .iand (.elem (.arg 19776) (.int 0)) (.int 15)), (5121, .elem (.arg 5185) (.int 0)), (19936, .sub (.arg 19936) (.int 1))], [(19776, .arg 19776, (List.range 0).reverse.map (fun k => (Jvm.Term.int (Int32.ofNat k), Jvm.Term.elem (.arg 19776) (.int (Int32.ofNat (k + 1)))))), (5185, .arg 5185, (List.range 0).reverse.map (fun k => (Jvm.Term.int (Int32.ofNat k), Jvm.Term.elem (.arg 5185) (.int (Int32.ofNat (k + 1))))))])]
theorem k_pul11 : cbody kR [] (cpl1 zWP c_pul1 [q_pul1e]) (cpl2 zWP c_pul1 [q_pul1e]) (cleafB kR zWP c_pul1 w_pul11) 120 false true q_pul11.2.2.1 q_pul11.2.2.2 (cst zWP c_pul1.2.2.1.1 q_pul11.1) (cst zWP c_pul1.2.2.1.2 q_pul11.2.1) = true := by decide +kernel
noncomputable def q_pul12 : sCut := ((fr 0 425 0 [(0, .long 0)] [], [fBot], 1), (fr 0 253 0 [(0, tr 219), (1, .int 1)] [], [fBot], 1), [((0, .arg 19936, .int 2), true)], [])
noncomputable def w_pul12 : List (sCut × List (Nat × sT) × List (Nat × sT × List (sT × sT))) := [(q_pul1e, [(19264, .op2 .iushr (.elem (.arg 19776) (.int 0)) (.int 5)), (5282, .op2 .iand (.op2 .iushr (.elem (.arg 19776) (.int 0)) (.int 4)) (.int 1)), (19296, .op2 .iand (.elem (.arg 19776) (.int 0)) (.int 15)), (5121, .elem (.arg 5185) (.int 0)), (19936, .sub (.arg 19936) (.int 1))], [(19776, .arg 19776, (List.range 1).reverse.map (fun k => (Jvm.Term.int (Int32.ofNat k), Jvm.Term.elem (.arg 19776) (.int (Int32.ofNat (k + 1)))))), (5185, .arg 5185, (List.range 1).reverse.map (fun k => (Jvm.Term.int (Int32.ofNat k), Jvm.Term.elem (.arg 5185) (.int (Int32.ofNat (k + 1))))))])]
theorem k_pul12 : cbody kR [] (cpl1 zWP c_pul1 [q_pul1e]) (cpl2 zWP c_pul1 [q_pul1e]) (cleafB kR zWP c_pul1 w_pul12) 180 false true q_pul12.2.2.1 q_pul12.2.2.2 (cst zWP c_pul1.2.2.1.1 q_pul12.1) (cst zWP c_pul1.2.2.1.2 q_pul12.2.1) = true := by decide +kernel
noncomputable def q_pul13 : sCut := ((fr 0 425 0 [(0, .long 0)] [], [fBot], 1), (fr 0 253 0 [(0, tr 219), (1, .int 1)] [], [fBot], 1), [((0, .arg 19936, .int 3), true)], [])
noncomputable def w_pul13 : List (sCut × List (Nat × sT) × List (Nat × sT × List (sT × sT))) := [(q_pul1e, [(19264, .op2 .iushr (.elem (.arg 19776) (.int 0)) (.int 5)), (5282, .op2 .iand (.op2 .iushr (.elem (.arg 19776) (.int 0)) (.int 4)) (.int 1)), (19296, .op2 .iand (.elem (.arg 19776) (.int 0)) (.int 15)), (5121, .elem (.arg 5185) (.int 0)), (19936, .sub (.arg 19936) (.int 1))], [(19776, .arg 19776, (List.range 2).reverse.map (fun k => (Jvm.Term.int (Int32.ofNat k), Jvm.Term.elem (.arg 19776) (.int (Int32.ofNat (k + 1)))))), (5185, .arg 5185, (List.range 2).reverse.map (fun k => (Jvm.Term.int (Int32.ofNat k), Jvm.Term.elem (.arg 5185) (.int (Int32.ofNat (k + 1))))))])]
theorem k_pul13 : cbody kR [] (cpl1 zWP c_pul1 [q_pul1e]) (cpl2 zWP c_pul1 [q_pul1e]) (cleafB kR zWP c_pul1 w_pul13) 240 false true q_pul13.2.2.1 q_pul13.2.2.2 (cst zWP c_pul1.2.2.1.1 q_pul13.1) (cst zWP c_pul1.2.2.1.2 q_pul13.2.1) = true := by decide +kernel
noncomputable def q_pul14 : sCut := ((fr 0 425 0 [(0, .long 0)] [], [fBot], 1), (fr 0 253 0 [(0, tr 219), (1, .int 1)] [], [fBot], 1), [((0, .arg 19936, .int 4), true)], [])
noncomputable def w_pul14 : List (sCut × List (Nat × sT) × List (Nat × sT × List (sT × sT))) := [(q_pul1e, [(19264, .op2 .iushr (.elem (.arg 19776) (.int 0)) (.int 5)), (5282, .op2 .iand (.op2 .iushr (.elem (.arg 19776) (.int 0)) (.int 4)) (.int 1)), (19296, .op2 .iand (.elem (.arg 19776) (.int 0)) (.int 15)), (5121, .elem (.arg 5185) (.int 0)), (19936, .sub (.arg 19936) (.int 1))], [(19776, .arg 19776, (List.range 3).reverse.map (fun k => (Jvm.Term.int (Int32.ofNat k), Jvm.Term.elem (.arg 19776) (.int (Int32.ofNat (k + 1)))))), (5185, .arg 5185, (List.range 3).reverse.map (fun k => (Jvm.Term.int (Int32.ofNat k), Jvm.Term.elem (.arg 5185) (.int (Int32.ofNat (k + 1))))))])]
theorem k_pul14 : cbody kR [] (cpl1 zWP c_pul1 [q_pul1e]) (cpl2 zWP c_pul1 [q_pul1e]) (cleafB kR zWP c_pul1 w_pul14) 300 false true q_pul14.2.2.1 q_pul14.2.2.2 (cst zWP c_pul1.2.2.1.1 q_pul14.1) (cst zWP c_pul1.2.2.1.2 q_pul14.2.1) = true := by decide +kernel
noncomputable def q_pul15 : sCut := ((fr 0 425 0 [(0, .long 0)] [], [fBot], 1), (fr 0 253 0 [(0, tr 219), (1, .int 1)] [], [fBot], 1), [((0, .arg 19936, .int 5), true)], [])
noncomputable def w_pul15 : List (sCut × List (Nat × sT) × List (Nat × sT × List (sT × sT))) := [(q_pul1e, [(19264, .op2 .iushr (.elem (.arg 19776) (.int 0)) (.int 5)), (5282, .op2 .iand (.op2 .iushr (.elem (.arg 19776) (.int 0)) (.int 4)) (.int 1)), (19296, .op2 .iand (.elem (.arg 19776) (.int 0)) (.int 15)), (5121, .elem (.arg 5185) (.int 0)), (19936, .sub (.arg 19936) (.int 1))], [(19776, .arg 19776, (List.range 4).reverse.map (fun k => (Jvm.Term.int (Int32.ofNat k), Jvm.Term.elem (.arg 19776) (.int (Int32.ofNat (k + 1)))))), (5185, .arg 5185, (List.range 4).reverse.map (fun k => (Jvm.Term.int (Int32.ofNat k), Jvm.Term.elem (.arg 5185) (.int (Int32.ofNat (k + 1))))))])]
theorem k_pul15 : cbody kR [] (cpl1 zWP c_pul1 [q_pul1e]) (cpl2 zWP c_pul1 [q_pul1e]) (cleafB kR zWP c_pul1 w_pul15) 360 false true q_pul15.2.2.1 q_pul15.2.2.2 (cst zWP c_pul1.2.2.1.1 q_pul15.1) (cst zWP c_pul1.2.2.1.2 q_pul15.2.1) = true := by decide +kernel
noncomputable def q_pul16 : sCut := ((fr 0 425 0 [(0, .long 0)] [], [fBot], 1), (fr 0 253 0 [(0, tr 219), (1, .int 1)] [], [fBot], 1), [((0, .arg 19936, .int 6), true)], [])
noncomputable def w_pul16 : List (sCut × List (Nat × sT) × List (Nat × sT × List (sT × sT))) := [(q_pul1e, [(19264, .op2 .iushr (.elem (.arg 19776) (.int 0)) (.int 5)), (5282, .op2 .iand (.op2 .iushr (.elem (.arg 19776) (.int 0)) (.int 4)) (.int 1)), (19296, .op2 .iand (.elem (.arg 19776) (.int 0)) (.int 15)), (5121, .elem (.arg 5185) (.int 0)), (19936, .sub (.arg 19936) (.int 1))], [(19776, .arg 19776, (List.range 5).reverse.map (fun k => (Jvm.Term.int (Int32.ofNat k), Jvm.Term.elem (.arg 19776) (.int (Int32.ofNat (k + 1)))))), (5185, .arg 5185, (List.range 5).reverse.map (fun k => (Jvm.Term.int (Int32.ofNat k), Jvm.Term.elem (.arg 5185) (.int (Int32.ofNat (k + 1))))))])]
theorem k_pul16 : cbody kR [] (cpl1 zWP c_pul1 [q_pul1e]) (cpl2 zWP c_pul1 [q_pul1e]) (cleafB kR zWP c_pul1 w_pul16) 420 false true q_pul16.2.2.1 q_pul16.2.2.2 (cst zWP c_pul1.2.2.1.1 q_pul16.1) (cst zWP c_pul1.2.2.1.2 q_pul16.2.1) = true := by decide +kernel
noncomputable def q_pul17 : sCut := ((fr 0 425 0 [(0, .long 0)] [], [fBot], 1), (fr 0 253 0 [(0, tr 219), (1, .int 1)] [], [fBot], 1), [((0, .arg 19936, .int 7), true)], [])
noncomputable def w_pul17 : List (sCut × List (Nat × sT) × List (Nat × sT × List (sT × sT))) := [(q_pul1e, [(19264, .op2 .iushr (.elem (.arg 19776) (.int 0)) (.int 5)), (5282, .op2 .iand (.op2 .iushr (.elem (.arg 19776) (.int 0)) (.int 4)) (.int 1)), (19296, .op2 .iand (.elem (.arg 19776) (.int 0)) (.int 15)), (5121, .elem (.arg 5185) (.int 0)), (19936, .sub (.arg 19936) (.int 1))], [(19776, .arg 19776, (List.range 6).reverse.map (fun k => (Jvm.Term.int (Int32.ofNat k), Jvm.Term.elem (.arg 19776) (.int (Int32.ofNat (k + 1)))))), (5185, .arg 5185, (List.range 6).reverse.map (fun k => (Jvm.Term.int (Int32.ofNat k), Jvm.Term.elem (.arg 5185) (.int (Int32.ofNat (k + 1))))))])]
theorem k_pul17 : cbody kR [] (cpl1 zWP c_pul1 [q_pul1e]) (cpl2 zWP c_pul1 [q_pul1e]) (cleafB kR zWP c_pul1 w_pul17) 480 false true q_pul17.2.2.1 q_pul17.2.2.2 (cst zWP c_pul1.2.2.1.1 q_pul17.1) (cst zWP c_pul1.2.2.1.2 q_pul17.2.1) = true := by decide +kernel
noncomputable def q_pul18 : sCut := ((fr 0 425 0 [(0, .long 0)] [], [fBot], 1), (fr 0 253 0 [(0, tr 219), (1, .int 1)] [], [fBot], 1), [((0, .arg 19936, .int 8), true)], [])
noncomputable def w_pul18 : List (sCut × List (Nat × sT) × List (Nat × sT × List (sT × sT))) := [(q_pul1e, [(19264, .op2 .iushr (.elem (.arg 19776) (.int 0)) (.int 5)), (5282, .op2 .iand (.op2 .iushr (.elem (.arg 19776) (.int 0)) (.int 4)) (.int 1)), (19296, .op2 .iand (.elem (.arg 19776) (.int 0)) (.int 15)), (5121, .elem (.arg 5185) (.int 0)), (19936, .sub (.arg 19936) (.int 1))], [(19776, .arg 19776, (List.range 7).reverse.map (fun k => (Jvm.Term.int (Int32.ofNat k), Jvm.Term.elem (.arg 19776) (.int (Int32.ofNat (k + 1)))))), (5185, .arg 5185, (List.range 7).reverse.map (fun k => (Jvm.Term.int (Int32.ofNat k), Jvm.Term.elem (.arg 5185) (.int (Int32.ofNat (k + 1))))))])]
theorem k_pul18 : cbody kR [] (cpl1 zWP c_pul1 [q_pul1e]) (cpl2 zWP c_pul1 [q_pul1e]) (cleafB kR zWP c_pul1 w_pul18) 540 false true q_pul18.2.2.1 q_pul18.2.2.2 (cst zWP c_pul1.2.2.1.1 q_pul18.1) (cst zWP c_pul1.2.2.1.2 q_pul18.2.1) = true := by decide +kernel
theorem k_pul1n : cbody kR [] (cpl1 zWP c_pul1 []) (cpl2 zWP c_pul1 []) (cleaf kR zWP c_pul1 []) 60 true true q_pul1n.2.2.1 q_pul1n.2.2.2 (cst zWP c_pul1.2.2.1.1 q_pul1n.1) (cst zWP c_pul1.2.2.1.2 q_pul1n.2.1) = true := by decide +kernel
theorem e_pul1 : frun kR [] (cpl1 zWP c_pul1 [q_pul10]) (cpl2 zWP c_pul1 [q_pul10]) (cleaf kR zWP c_pul1 [q_pul10]) 20 65536 (isatP (c_pul1.2.2.2.1) c_pul1.2.2.2.2.2.2.2.1) c_pul1.2.2.2.2.2.2.2.1 (sin0 mt_all c_pul1.1.1 1 c_pul1.2.1.1 (foot zWP c_pul1.2.2.1.1)) (sin0 mt_all c_pul1.1.2.1 1 c_pul1.2.1.2 (foot zWP c_pul1.2.2.1.2)) = true := by decide +kernel
theorem t_pul10 {X : pX} {ρ0 : sR} (hv : vok X ρ0) : CUTOK X kR zWP c_pul1 1 ρ0 q_pul10 := by
  refine CUTOK_AT (fun ρ k1 k2 k3 k4 => ?_)
  have hV : ρ.2.2.1 19776 0 = ρ.1 60000 := of_decide_eq_true (k2.2 _ (List.mem_cons_self))
  have hVB : ρ.2.2.2.1 5185 0 = ρ.2.1 60033 := of_decide_eq_true (k2.2 _ (List.mem_cons_of_mem _ (List.mem_cons_self)))
  have hN : ρ.1 19936 = ρ.1 60064 := of_decide_eq_true (k2.2 _ (List.mem_cons_of_mem _ (List.mem_cons_of_mem _ (List.mem_cons_self))))
  have g1 : (0 : Int32) < ρ.1 19936 := of_decide_eq_true (k2.2 _ (List.mem_cons_of_mem _ (List.mem_cons_of_mem _ (List.mem_cons_of_mem _ (List.mem_cons_self)))))
  have g2 : ¬ (8 : Int32) < ρ.1 19936 := of_decide_eq_false (k2.2 _ (List.mem_cons_of_mem _ (List.mem_cons_of_mem _ (List.mem_cons_of_mem _ (List.mem_cons_of_mem _ (List.mem_cons_of_mem _ (List.mem_cons_self)))))))
  have g3 : ¬ ρ.1 1760 < 0 := of_decide_eq_false (k2.2 _ (List.mem_cons_of_mem _ (List.mem_cons_of_mem _ (List.mem_cons_of_mem _ (List.mem_cons_of_mem _ (List.mem_cons_of_mem _ (List.mem_cons_of_mem _ (List.mem_cons_self))))))))
  have g4 : ¬ (8 : Int32) < ρ.1 1760 := of_decide_eq_false (k2.2 _ (List.mem_cons_of_mem _ (List.mem_cons_of_mem _ (List.mem_cons_of_mem _ (List.mem_cons_of_mem _ (List.mem_cons_of_mem _ (List.mem_cons_of_mem _ (List.mem_cons_of_mem _ (List.mem_cons_self)))))))))
  have g5 : ¬ ρ.1 1760 < ρ.1 19936 := of_decide_eq_false (k2.2 _ (List.mem_cons_of_mem _ (List.mem_cons_of_mem _ (List.mem_cons_of_mem _ (List.mem_cons_of_mem _ (List.mem_cons_of_mem _ (List.mem_cons_of_mem _ (List.mem_cons_of_mem _ (List.mem_cons_of_mem _ (List.mem_cons_self))))))))))
  have f3 : sc X ρ (2, .arg 1760, .int 0) = false := k2.2 _ (List.mem_cons_of_mem _ (List.mem_cons_of_mem _ (List.mem_cons_of_mem _ (List.mem_cons_of_mem _ (List.mem_cons_of_mem _ (List.mem_cons_of_mem _ (List.mem_cons_self)))))))
  have f4 : sc X ρ (2, .int 8, .arg 1760) = false := k2.2 _ (List.mem_cons_of_mem _ (List.mem_cons_of_mem _ (List.mem_cons_of_mem _ (List.mem_cons_of_mem _ (List.mem_cons_of_mem _ (List.mem_cons_of_mem _ (List.mem_cons_of_mem _ (List.mem_cons_self))))))))
  have h6 : (List.range (ρ.1 19936).toInt.toNat).all (fun j => decide (ρ.2.2.1 1600 ((ρ.1 1760 - ρ.1 19936).toInt.toNat + j) = ρ.2.2.1 19776 j)) = true := k2.2 _ (List.mem_cons_of_mem _ (List.mem_cons_of_mem _ (List.mem_cons_of_mem _ (List.mem_cons_of_mem _ (List.mem_cons_of_mem _ (List.mem_cons_of_mem _ (List.mem_cons_of_mem _ (List.mem_cons_of_mem _ (List.mem_cons_of_mem _ (List.mem_cons_self))))))))))
  have h7 : (List.range (ρ.1 19936).toInt.toNat).all (fun j => decide (ρ.2.2.2.1 1473 ((ρ.1 1760 - ρ.1 19936).toInt.toNat + j) = ρ.2.2.2.1 5185 j)) = true := k2.2 _ (List.mem_cons_of_mem _ (List.mem_cons_of_mem _ (List.mem_cons_of_mem _ (List.mem_cons_of_mem _ (List.mem_cons_of_mem _ (List.mem_cons_of_mem _ (List.mem_cons_of_mem _ (List.mem_cons_of_mem _ (List.mem_cons_of_mem _ (List.mem_cons_of_mem _ (List.mem_cons_self)))))))))))
  have z0 : (0 : Int32).toInt = 0 := rfl
  have z8 : (8 : Int32).toInt = 8 := rfl
  rw [Int32.lt_iff_toInt_lt] at g1 g2 g3 g4 g5
  rw [z0] at g1 g3
  rw [z8] at g2 g4
  have ip : (ρ.1 1760 - ρ.1 19936).toInt = (ρ.1 1760).toInt - (ρ.1 19936).toInt := by
    rw [Int32.toInt_sub]
    exact Int.bmod_eq_of_le (by omega) (by omega)
  have i1 : (ρ.1 19936 - 1).toInt = (ρ.1 19936).toInt - 1 := by
    rw [Int32.toInt_sub]
    exact Int.bmod_eq_of_le (by show _ ≤ (ρ.1 19936).toInt - 1; omega) (by show (ρ.1 19936).toInt - 1 < _; omega)
  have fin : ∀ (m : Nat) (ρ3 : sR), (ρ.1 19936).toInt = m + 1 → m ≤ 7 → kok X ρ3 kR → vok X ρ3 → agrM 65536 c_pul1.2.2.2.2.1.1 c_pul1.2.2.2.2.1.2 ρ3 ρ0 → sc X ρ3 (0, .arg 19264, .op2 .iushr (.arg 60000) (.int 5)) = true → sc X ρ3 (0, .arg 5282, .op2 .iand (.op2 .iushr (.arg 60000) (.int 4)) (.int 1)) = true → sc X ρ3 (0, .arg 19296, .op2 .iand (.arg 60000) (.int 15)) = true → ρ3.2.1 5121 = ρ.2.2.2.1 5185 0 → ρ3.1 19936 = ρ.1 19936 - 1 → (∀ j, j < m → ρ3.2.2.1 19776 j = ρ.2.2.1 19776 (j + 1)) → (∀ j, j < m → ρ3.2.2.2.1 5185 j = ρ.2.2.2.1 5185 (j + 1)) → AT X zWP c_pul1 1 ρ0 ρ3 q_pul1e := by
    intro m ρ3 hm hm7 l1 l2 l4 e1 e2 e3 e4 e5 e6 e7
    have same : ∀ x, x < 65536 → x ∉ c_pul1.2.2.2.2.1.1 → ρ3.1 x = ρ.1 x ∧ ρ3.2.1 x = ρ.2.1 x := fun x h1 h2 => ⟨((l4.1 x h1 h2).1).trans ((k4.1 x h1 h2).1).symm, ((l4.1 x h1 h2).2).trans ((k4.1 x h1 h2).2).symm⟩
    have samA : ∀ x, x < 65536 → x ∉ c_pul1.2.2.2.2.1.2 → ρ3.2.2.1 x = ρ.2.2.1 x ∧ ρ3.2.2.2.1 x = ρ.2.2.2.1 x := fun x h1 h2 => ⟨((l4.2 x h1 h2).1).trans ((k4.2 x h1 h2).1).symm, ((l4.2 x h1 h2).2).trans ((k4.2 x h1 h2).2).symm⟩
    have s1 := (same 1760 (by decide) (by decide)).1
    have s2 := (same 60064 (by decide) (by decide)).1
    have s3 := (same 60033 (by decide) (by decide)).2
    have s4 := (samA 1600 (by decide) (by decide)).1
    have s5 := (samA 1473 (by decide) (by decide)).2
    have ip3 : (ρ3.1 1760 - ρ3.1 19936).toInt = (ρ.1 1760).toInt - (ρ.1 19936).toInt + 1 := by
      rw [Int32.toInt_sub, s1, e5, i1]
      rw [Int.bmod_eq_of_le (by omega) (by omega)]
      omega
    refine AT_of (q := q_pul1n) rfl rfl (CUT_run kR_x kR_0 (Cs := []) (fun C hC => by cases hC) c_pul1_f (Q := []) hv (fun q hq => by cases hq) 60 (b1 := true) (b2 := true) k_pul1n ρ3 l1 ⟨l2, ?_⟩ (fun c hc => by cases hc) l4)
    refine fcq e1 (fcq e2 (fcq e3 (fcq (decide_eq_true (show ρ3.2.1 5121 = ρ3.2.1 60033 by rw [e4, hVB, s3])) (fcq (decide_eq_true (show ρ3.1 19936 = ρ3.1 60064 - 1 by rw [e5, s2, hN])) (fcq (decide_eq_false ?_) (fcq (decide_eq_false ?_) (fcq (decide_eq_false ?_) (fcq (decide_eq_false ?_) (fcq (decide_eq_false ?_) (fcq ?_ (fcq ?_ (fun f hf => by cases hf))))))))))))
    · show ¬ ρ3.1 19936 < 0
      rw [Int32.lt_iff_toInt_lt, z0, e5, i1]; omega
    · show ¬ (8 : Int32) < ρ3.1 19936
      rw [Int32.lt_iff_toInt_lt, z8, e5, i1]; omega
    · show ¬ ρ3.1 1760 < 0
      rw [Int32.lt_iff_toInt_lt, z0, s1]; omega
    · show ¬ (8 : Int32) < ρ3.1 1760
      rw [Int32.lt_iff_toInt_lt, z8, s1]; omega
    · show ¬ ρ3.1 1760 < ρ3.1 19936
      rw [Int32.lt_iff_toInt_lt, s1, e5, i1]; omega
    · show (List.range (ρ3.1 19936).toInt.toNat).all (fun j => decide (ρ3.2.2.1 1600 ((ρ3.1 1760 - ρ3.1 19936).toInt.toNat + j) = ρ3.2.2.1 19776 j)) = true
      refine n106_of (fun j hj => ?_)
      rw [e5, i1] at hj
      rw [ip3, s4, e6 j (by omega)]
      have h := n106_get h6 (j := j + 1) (by omega)
      rw [ip] at h
      rw [show ((ρ.1 1760).toInt - (ρ.1 19936).toInt + 1).toNat + j = ((ρ.1 1760).toInt - (ρ.1 19936).toInt).toNat + (j + 1) by omega]
      exact h
    · show (List.range (ρ3.1 19936).toInt.toNat).all (fun j => decide (ρ3.2.2.2.1 1473 ((ρ3.1 1760 - ρ3.1 19936).toInt.toNat + j) = ρ3.2.2.2.1 5185 j)) = true
      refine n106_of (fun j hj => ?_)
      rw [e5, i1] at hj
      rw [ip3, s5, e7 j (by omega)]
      have h := n106_get h7 (j := j + 1) (by omega)
      rw [ip] at h
      rw [show ((ρ.1 1760).toInt - (ρ.1 19936).toInt + 1).toNat + j = ((ρ.1 1760).toInt - (ρ.1 19936).toInt).toNat + (j + 1) by omega]
      exact h
  rcases (show (ρ.1 19936).toInt = 1 ∨ (ρ.1 19936).toInt = 2 ∨ (ρ.1 19936).toInt = 3 ∨ (ρ.1 19936).toInt = 4 ∨ (ρ.1 19936).toInt = 5 ∨ (ρ.1 19936).toInt = 6 ∨ (ρ.1 19936).toInt = 7 ∨ (ρ.1 19936).toInt = 8 by omega) with hk | hk | hk | hk | hk | hk | hk | hk
  · have ek : ρ.1 19936 = 1 := Int32.toInt_inj.mp (by rw [hk]; rfl)
    refine AT_of (q := q_pul11) rfl rfl (SEM_runB kR_x kR_0 (Cs := []) (fun C hC => by cases hC) c_pul1_f (Q := w_pul11) hv 120 (b1 := false) (b2 := true) k_pul11 k1 ⟨k2.1, fun f hf => by rw [List.mem_singleton.mp hf]; exact decide_eq_true ek⟩ (fun c hc => by cases hc) k4 (fun p hp ρ3 m1 m2 m3 m4 m5 m6 => ?_))
    rw [List.mem_singleton.mp hp] at m2 m3 m5 m6 ⊢
    have sV : ρ3.1 60000 = ρ.2.2.1 19776 0 := (((m4.1 60000 (by decide) (by decide)).1).trans ((k4.1 60000 (by decide) (by decide)).1).symm).trans hV.symm
    have y1 : ρ3.1 19264 = hd5 (ρ.2.2.1 19776 0) := congrArg Prod.fst (m5 (19264, .op2 .iushr (.elem (.arg 19776) (.int 0)) (.int 5)) (List.mem_cons_self))
    have y2 : ρ3.1 5282 = hd4 (ρ.2.2.1 19776 0) := congrArg Prod.fst (m5 (5282, .op2 .iand (.op2 .iushr (.elem (.arg 19776) (.int 0)) (.int 4)) (.int 1)) (List.mem_cons_of_mem _ (List.mem_cons_self)))
    have y3 : ρ3.1 19296 = hdl (ρ.2.2.1 19776 0) := congrArg Prod.fst (m5 (19296, .op2 .iand (.elem (.arg 19776) (.int 0)) (.int 15)) (List.mem_cons_of_mem _ (List.mem_cons_of_mem _ (List.mem_cons_self))))
    refine fin 0 ρ3 hk (by decide) m1 m2.1 m4 (decide_eq_true (show ρ3.1 19264 = hd5 (ρ3.1 60000) by rw [y1, sV])) (decide_eq_true (show ρ3.1 5282 = hd4 (ρ3.1 60000) by rw [y2, sV])) (decide_eq_true (show ρ3.1 19296 = hdl (ρ3.1 60000) by rw [y3, sV])) (congrArg Prod.snd (m5 (5121, .elem (.arg 5185) (.int 0)) (List.mem_cons_of_mem _ (List.mem_cons_of_mem _ (List.mem_cons_of_mem _ (List.mem_cons_self)))))) (congrArg Prod.fst (m5 (19936, .sub (.arg 19936) (.int 1)) (List.mem_cons_of_mem _ (List.mem_cons_of_mem _ (List.mem_cons_of_mem _ (List.mem_cons_of_mem _ (List.mem_cons_self))))))) (fun j hj => ?_) (fun j hj => ?_)
    · have h := m6 (19776, .arg 19776, (List.range 0).reverse.map (fun k => (Jvm.Term.int (Int32.ofNat k), Jvm.Term.elem (.arg 19776) (.int (Int32.ofNat (k + 1)))))) (List.mem_cons_self) j
      rw [bd_ev (by decide), aden_sf 0 (by decide) hj, sv_int rfl] at h
      refine (Value.int.inj h).trans ?_
      show ρ.2.2.1 19776 (Int32.ofNat (j + 1)).toNatClampNeg = _
      rw [s_nat, Int32.toInt_ofNat_small (by omega)]
      rfl
    · have h := m6 (5185, .arg 5185, (List.range 0).reverse.map (fun k => (Jvm.Term.int (Int32.ofNat k), Jvm.Term.elem (.arg 5185) (.int (Int32.ofNat (k + 1)))))) (List.mem_cons_of_mem _ List.mem_cons_self) j
      rw [bd_od (by decide), aden_sf 0 (by decide) hj, sv_long rfl] at h
      refine (Value.long.inj h).trans ?_
      show ρ.2.2.2.1 5185 (Int32.ofNat (j + 1)).toNatClampNeg = _
      rw [s_nat, Int32.toInt_ofNat_small (by omega)]
      rfl
  · have ek : ρ.1 19936 = 2 := Int32.toInt_inj.mp (by rw [hk]; rfl)
    refine AT_of (q := q_pul12) rfl rfl (SEM_runB kR_x kR_0 (Cs := []) (fun C hC => by cases hC) c_pul1_f (Q := w_pul12) hv 180 (b1 := false) (b2 := true) k_pul12 k1 ⟨k2.1, fun f hf => by rw [List.mem_singleton.mp hf]; exact decide_eq_true ek⟩ (fun c hc => by cases hc) k4 (fun p hp ρ3 m1 m2 m3 m4 m5 m6 => ?_))
    rw [List.mem_singleton.mp hp] at m2 m3 m5 m6 ⊢
    have sV : ρ3.1 60000 = ρ.2.2.1 19776 0 := (((m4.1 60000 (by decide) (by decide)).1).trans ((k4.1 60000 (by decide) (by decide)).1).symm).trans hV.symm
    have y1 : ρ3.1 19264 = hd5 (ρ.2.2.1 19776 0) := congrArg Prod.fst (m5 (19264, .op2 .iushr (.elem (.arg 19776) (.int 0)) (.int 5)) (List.mem_cons_self))
    have y2 : ρ3.1 5282 = hd4 (ρ.2.2.1 19776 0) := congrArg Prod.fst (m5 (5282, .op2 .iand (.op2 .iushr (.elem (.arg 19776) (.int 0)) (.int 4)) (.int 1)) (List.mem_cons_of_mem _ (List.mem_cons_self)))
    have y3 : ρ3.1 19296 = hdl (ρ.2.2.1 19776 0) := congrArg Prod.fst (m5 (19296, .op2 .iand (.elem (.arg 19776) (.int 0)) (.int 15)) (List.mem_cons_of_mem _ (List.mem_cons_of_mem _ (List.mem_cons_self))))
    refine fin 1 ρ3 hk (by decide) m1 m2.1 m4 (decide_eq_true (show ρ3.1 19264 = hd5 (ρ3.1 60000) by rw [y1, sV])) (decide_eq_true (show ρ3.1 5282 = hd4 (ρ3.1 60000) by rw [y2, sV])) (decide_eq_true (show ρ3.1 19296 = hdl (ρ3.1 60000) by rw [y3, sV])) (congrArg Prod.snd (m5 (5121, .elem (.arg 5185) (.int 0)) (List.mem_cons_of_mem _ (List.mem_cons_of_mem _ (List.mem_cons_of_mem _ (List.mem_cons_self)))))) (congrArg Prod.fst (m5 (19936, .sub (.arg 19936) (.int 1)) (List.mem_cons_of_mem _ (List.mem_cons_of_mem _ (List.mem_cons_of_mem _ (List.mem_cons_of_mem _ (List.mem_cons_self))))))) (fun j hj => ?_) (fun j hj => ?_)
    · have h := m6 (19776, .arg 19776, (List.range 1).reverse.map (fun k => (Jvm.Term.int (Int32.ofNat k), Jvm.Term.elem (.arg 19776) (.int (Int32.ofNat (k + 1)))))) (List.mem_cons_self) j
      rw [bd_ev (by decide), aden_sf 1 (by decide) hj, sv_int rfl] at h
      refine (Value.int.inj h).trans ?_
      show ρ.2.2.1 19776 (Int32.ofNat (j + 1)).toNatClampNeg = _
      rw [s_nat, Int32.toInt_ofNat_small (by omega)]
      rfl
    · have h := m6 (5185, .arg 5185, (List.range 1).reverse.map (fun k => (Jvm.Term.int (Int32.ofNat k), Jvm.Term.elem (.arg 5185) (.int (Int32.ofNat (k + 1)))))) (List.mem_cons_of_mem _ List.mem_cons_self) j
      rw [bd_od (by decide), aden_sf 1 (by decide) hj, sv_long rfl] at h
      refine (Value.long.inj h).trans ?_
      show ρ.2.2.2.1 5185 (Int32.ofNat (j + 1)).toNatClampNeg = _
      rw [s_nat, Int32.toInt_ofNat_small (by omega)]
      rfl
  · have ek : ρ.1 19936 = 3 := Int32.toInt_inj.mp (by rw [hk]; rfl)
    refine AT_of (q := q_pul13) rfl rfl (SEM_runB kR_x kR_0 (Cs := []) (fun C hC => by cases hC) c_pul1_f (Q := w_pul13) hv 240 (b1 := false) (b2 := true) k_pul13 k1 ⟨k2.1, fun f hf => by rw [List.mem_singleton.mp hf]; exact decide_eq_true ek⟩ (fun c hc => by cases hc) k4 (fun p hp ρ3 m1 m2 m3 m4 m5 m6 => ?_))
    rw [List.mem_singleton.mp hp] at m2 m3 m5 m6 ⊢
    have sV : ρ3.1 60000 = ρ.2.2.1 19776 0 := (((m4.1 60000 (by decide) (by decide)).1).trans ((k4.1 60000 (by decide) (by decide)).1).symm).trans hV.symm
    have y1 : ρ3.1 19264 = hd5 (ρ.2.2.1 19776 0) := congrArg Prod.fst (m5 (19264, .op2 .iushr (.elem (.arg 19776) (.int 0)) (.int 5)) (List.mem_cons_self))
    have y2 : ρ3.1 5282 = hd4 (ρ.2.2.1 19776 0) := congrArg Prod.fst (m5 (5282, .op2 .iand (.op2 .iushr (.elem (.arg 19776) (.int 0)) (.int 4)) (.int 1)) (List.mem_cons_of_mem _ (List.mem_cons_self)))
    have y3 : ρ3.1 19296 = hdl (ρ.2.2.1 19776 0) := congrArg Prod.fst (m5 (19296, .op2 .iand (.elem (.arg 19776) (.int 0)) (.int 15)) (List.mem_cons_of_mem _ (List.mem_cons_of_mem _ (List.mem_cons_self))))
    refine fin 2 ρ3 hk (by decide) m1 m2.1 m4 (decide_eq_true (show ρ3.1 19264 = hd5 (ρ3.1 60000) by rw [y1, sV])) (decide_eq_true (show ρ3.1 5282 = hd4 (ρ3.1 60000) by rw [y2, sV])) (decide_eq_true (show ρ3.1 19296 = hdl (ρ3.1 60000) by rw [y3, sV])) (congrArg Prod.snd (m5 (5121, .elem (.arg 5185) (.int 0)) (List.mem_cons_of_mem _ (List.mem_cons_of_mem _ (List.mem_cons_of_mem _ (List.mem_cons_self)))))) (congrArg Prod.fst (m5 (19936, .sub (.arg 19936) (.int 1)) (List.mem_cons_of_mem _ (List.mem_cons_of_mem _ (List.mem_cons_of_mem _ (List.mem_cons_of_mem _ (List.mem_cons_self))))))) (fun j hj => ?_) (fun j hj => ?_)
    · have h := m6 (19776, .arg 19776, (List.range 2).reverse.map (fun k => (Jvm.Term.int (Int32.ofNat k), Jvm.Term.elem (.arg 19776) (.int (Int32.ofNat (k + 1)))))) (List.mem_cons_self) j
      rw [bd_ev (by decide), aden_sf 2 (by decide) hj, sv_int rfl] at h
      refine (Value.int.inj h).trans ?_
      show ρ.2.2.1 19776 (Int32.ofNat (j + 1)).toNatClampNeg = _
      rw [s_nat, Int32.toInt_ofNat_small (by omega)]
      rfl
    · have h := m6 (5185, .arg 5185, (List.range 2).reverse.map (fun k => (Jvm.Term.int (Int32.ofNat k), Jvm.Term.elem (.arg 5185) (.int (Int32.ofNat (k + 1)))))) (List.mem_cons_of_mem _ List.mem_cons_self) j
      rw [bd_od (by decide), aden_sf 2 (by decide) hj, sv_long rfl] at h
      refine (Value.long.inj h).trans ?_
      show ρ.2.2.2.1 5185 (Int32.ofNat (j + 1)).toNatClampNeg = _
      rw [s_nat, Int32.toInt_ofNat_small (by omega)]
      rfl
  · have ek : ρ.1 19936 = 4 := Int32.toInt_inj.mp (by rw [hk]; rfl)
    refine AT_of (q := q_pul14) rfl rfl (SEM_runB kR_x kR_0 (Cs := []) (fun C hC => by cases hC) c_pul1_f (Q := w_pul14) hv 300 (b1 := false) (b2 := true) k_pul14 k1 ⟨k2.1, fun f hf => by rw [List.mem_singleton.mp hf]; exact decide_eq_true ek⟩ (fun c hc => by cases hc) k4 (fun p hp ρ3 m1 m2 m3 m4 m5 m6 => ?_))
    rw [List.mem_singleton.mp hp] at m2 m3 m5 m6 ⊢
    have sV : ρ3.1 60000 = ρ.2.2.1 19776 0 := (((m4.1 60000 (by decide) (by decide)).1).trans ((k4.1 60000 (by decide) (by decide)).1).symm).trans hV.symm
    have y1 : ρ3.1 19264 = hd5 (ρ.2.2.1 19776 0) := congrArg Prod.fst (m5 (19264, .op2 .iushr (.elem (.arg 19776) (.int 0)) (.int 5)) (List.mem_cons_self))
    have y2 : ρ3.1 5282 = hd4 (ρ.2.2.1 19776 0) := congrArg Prod.fst (m5 (5282, .op2 .iand (.op2 .iushr (.elem (.arg 19776) (.int 0)) (.int 4)) (.int 1)) (List.mem_cons_of_mem _ (List.mem_cons_self)))
    have y3 : ρ3.1 19296 = hdl (ρ.2.2.1 19776 0) := congrArg Prod.fst (m5 (19296, .op2 .iand (.elem (.arg 19776) (.int 0)) (.int 15)) (List.mem_cons_of_mem _ (List.mem_cons_of_mem _ (List.mem_cons_self))))
    refine fin 3 ρ3 hk (by decide) m1 m2.1 m4 (decide_eq_true (show ρ3.1 19264 = hd5 (ρ3.1 60000) by rw [y1, sV])) (decide_eq_true (show ρ3.1 5282 = hd4 (ρ3.1 60000) by rw [y2, sV])) (decide_eq_true (show ρ3.1 19296 = hdl (ρ3.1 60000) by rw [y3, sV])) (congrArg Prod.snd (m5 (5121, .elem (.arg 5185) (.int 0)) (List.mem_cons_of_mem _ (List.mem_cons_of_mem _ (List.mem_cons_of_mem _ (List.mem_cons_self)))))) (congrArg Prod.fst (m5 (19936, .sub (.arg 19936) (.int 1)) (List.mem_cons_of_mem _ (List.mem_cons_of_mem _ (List.mem_cons_of_mem _ (List.mem_cons_of_mem _ (List.mem_cons_self))))))) (fun j hj => ?_) (fun j hj => ?_)
    · have h := m6 (19776, .arg 19776, (List.range 3).reverse.map (fun k => (Jvm.Term.int (Int32.ofNat k), Jvm.Term.elem (.arg 19776) (.int (Int32.ofNat (k + 1)))))) (List.mem_cons_self) j
      rw [bd_ev (by decide), aden_sf 3 (by decide) hj, sv_int rfl] at h
      refine (Value.int.inj h).trans ?_
      show ρ.2.2.1 19776 (Int32.ofNat (j + 1)).toNatClampNeg = _
      rw [s_nat, Int32.toInt_ofNat_small (by omega)]
      rfl
    · have h := m6 (5185, .arg 5185, (List.range 3).reverse.map (fun k => (Jvm.Term.int (Int32.ofNat k), Jvm.Term.elem (.arg 5185) (.int (Int32.ofNat (k + 1)))))) (List.mem_cons_of_mem _ List.mem_cons_self) j
      rw [bd_od (by decide), aden_sf 3 (by decide) hj, sv_long rfl] at h
      refine (Value.long.inj h).trans ?_
      show ρ.2.2.2.1 5185 (Int32.ofNat (j + 1)).toNatClampNeg = _
      rw [s_nat, Int32.toInt_ofNat_small (by omega)]
      rfl
  · have ek : ρ.1 19936 = 5 := Int32.toInt_inj.mp (by rw [hk]; rfl)
    refine AT_of (q := q_pul15) rfl rfl (SEM_runB kR_x kR_0 (Cs := []) (fun C hC => by cases hC) c_pul1_f (Q := w_pul15) hv 360 (b1 := false) (b2 := true) k_pul15 k1 ⟨k2.1, fun f hf => by rw [List.mem_singleton.mp hf]; exact decide_eq_true ek⟩ (fun c hc => by cases hc) k4 (fun p hp ρ3 m1 m2 m3 m4 m5 m6 => ?_))
    rw [List.mem_singleton.mp hp] at m2 m3 m5 m6 ⊢
    have sV : ρ3.1 60000 = ρ.2.2.1 19776 0 := (((m4.1 60000 (by decide) (by decide)).1).trans ((k4.1 60000 (by decide) (by decide)).1).symm).trans hV.symm
    have y1 : ρ3.1 19264 = hd5 (ρ.2.2.1 19776 0) := congrArg Prod.fst (m5 (19264, .op2 .iushr (.elem (.arg 19776) (.int 0)) (.int 5)) (List.mem_cons_self))
    have y2 : ρ3.1 5282 = hd4 (ρ.2.2.1 19776 0) := congrArg Prod.fst (m5 (5282, .op2 .iand (.op2 .iushr (.elem (.arg 19776) (.int 0)) (.int 4)) (.int 1)) (List.mem_cons_of_mem _ (List.mem_cons_self)))
    have y3 : ρ3.1 19296 = hdl (ρ.2.2.1 19776 0) := congrArg Prod.fst (m5 (19296, .op2 .iand (.elem (.arg 19776) (.int 0)) (.int 15)) (List.mem_cons_of_mem _ (List.mem_cons_of_mem _ (List.mem_cons_self))))
    refine fin 4 ρ3 hk (by decide) m1 m2.1 m4 (decide_eq_true (show ρ3.1 19264 = hd5 (ρ3.1 60000) by rw [y1, sV])) (decide_eq_true (show ρ3.1 5282 = hd4 (ρ3.1 60000) by rw [y2, sV])) (decide_eq_true (show ρ3.1 19296 = hdl (ρ3.1 60000) by rw [y3, sV])) (congrArg Prod.snd (m5 (5121, .elem (.arg 5185) (.int 0)) (List.mem_cons_of_mem _ (List.mem_cons_of_mem _ (List.mem_cons_of_mem _ (List.mem_cons_self)))))) (congrArg Prod.fst (m5 (19936, .sub (.arg 19936) (.int 1)) (List.mem_cons_of_mem _ (List.mem_cons_of_mem _ (List.mem_cons_of_mem _ (List.mem_cons_of_mem _ (List.mem_cons_self))))))) (fun j hj => ?_) (fun j hj => ?_)
    · have h := m6 (19776, .arg 19776, (List.range 4).reverse.map (fun k => (Jvm.Term.int (Int32.ofNat k), Jvm.Term.elem (.arg 19776) (.int (Int32.ofNat (k + 1)))))) (List.mem_cons_self) j
      rw [bd_ev (by decide), aden_sf 4 (by decide) hj, sv_int rfl] at h
      refine (Value.int.inj h).trans ?_
      show ρ.2.2.1 19776 (Int32.ofNat (j + 1)).toNatClampNeg = _
      rw [s_nat, Int32.toInt_ofNat_small (by omega)]
      rfl
    · have h := m6 (5185, .arg 5185, (List.range 4).reverse.map (fun k => (Jvm.Term.int (Int32.ofNat k), Jvm.Term.elem (.arg 5185) (.int (Int32.ofNat (k + 1)))))) (List.mem_cons_of_mem _ List.mem_cons_self) j
      rw [bd_od (by decide), aden_sf 4 (by decide) hj, sv_long rfl] at h
      refine (Value.long.inj h).trans ?_
      show ρ.2.2.2.1 5185 (Int32.ofNat (j + 1)).toNatClampNeg = _
      rw [s_nat, Int32.toInt_ofNat_small (by omega)]
      rfl
  · have ek : ρ.1 19936 = 6 := Int32.toInt_inj.mp (by rw [hk]; rfl)
    refine AT_of (q := q_pul16) rfl rfl (SEM_runB kR_x kR_0 (Cs := []) (fun C hC => by cases hC) c_pul1_f (Q := w_pul16) hv 420 (b1 := false) (b2 := true) k_pul16 k1 ⟨k2.1, fun f hf => by rw [List.mem_singleton.mp hf]; exact decide_eq_true ek⟩ (fun c hc => by cases hc) k4 (fun p hp ρ3 m1 m2 m3 m4 m5 m6 => ?_))
    rw [List.mem_singleton.mp hp] at m2 m3 m5 m6 ⊢
    have sV : ρ3.1 60000 = ρ.2.2.1 19776 0 := (((m4.1 60000 (by decide) (by decide)).1).trans ((k4.1 60000 (by decide) (by decide)).1).symm).trans hV.symm
    have y1 : ρ3.1 19264 = hd5 (ρ.2.2.1 19776 0) := congrArg Prod.fst (m5 (19264, .op2 .iushr (.elem (.arg 19776) (.int 0)) (.int 5)) (List.mem_cons_self))
    have y2 : ρ3.1 5282 = hd4 (ρ.2.2.1 19776 0) := congrArg Prod.fst (m5 (5282, .op2 .iand (.op2 .iushr (.elem (.arg 19776) (.int 0)) (.int 4)) (.int 1)) (List.mem_cons_of_mem _ (List.mem_cons_self)))
    have y3 : ρ3.1 19296 = hdl (ρ.2.2.1 19776 0) := congrArg Prod.fst (m5 (19296, .op2 .iand (.elem (.arg 19776) (.int 0)) (.int 15)) (List.mem_cons_of_mem _ (List.mem_cons_of_mem _ (List.mem_cons_self))))
    refine fin 5 ρ3 hk (by decide) m1 m2.1 m4 (decide_eq_true (show ρ3.1 19264 = hd5 (ρ3.1 60000) by rw [y1, sV])) (decide_eq_true (show ρ3.1 5282 = hd4 (ρ3.1 60000) by rw [y2, sV])) (decide_eq_true (show ρ3.1 19296 = hdl (ρ3.1 60000) by rw [y3, sV])) (congrArg Prod.snd (m5 (5121, .elem (.arg 5185) (.int 0)) (List.mem_cons_of_mem _ (List.mem_cons_of_mem _ (List.mem_cons_of_mem _ (List.mem_cons_self)))))) (congrArg Prod.fst (m5 (19936, .sub (.arg 19936) (.int 1)) (List.mem_cons_of_mem _ (List.mem_cons_of_mem _ (List.mem_cons_of_mem _ (List.mem_cons_of_mem _ (List.mem_cons_self))))))) (fun j hj => ?_) (fun j hj => ?_)
    · have h := m6 (19776, .arg 19776, (List.range 5).reverse.map (fun k => (Jvm.Term.int (Int32.ofNat k), Jvm.Term.elem (.arg 19776) (.int (Int32.ofNat (k + 1)))))) (List.mem_cons_self) j
      rw [bd_ev (by decide), aden_sf 5 (by decide) hj, sv_int rfl] at h
      refine (Value.int.inj h).trans ?_
      show ρ.2.2.1 19776 (Int32.ofNat (j + 1)).toNatClampNeg = _
      rw [s_nat, Int32.toInt_ofNat_small (by omega)]
      rfl
    · have h := m6 (5185, .arg 5185, (List.range 5).reverse.map (fun k => (Jvm.Term.int (Int32.ofNat k), Jvm.Term.elem (.arg 5185) (.int (Int32.ofNat (k + 1)))))) (List.mem_cons_of_mem _ List.mem_cons_self) j
      rw [bd_od (by decide), aden_sf 5 (by decide) hj, sv_long rfl] at h
      refine (Value.long.inj h).trans ?_
      show ρ.2.2.2.1 5185 (Int32.ofNat (j + 1)).toNatClampNeg = _
      rw [s_nat, Int32.toInt_ofNat_small (by omega)]
      rfl
  · have ek : ρ.1 19936 = 7 := Int32.toInt_inj.mp (by rw [hk]; rfl)
    refine AT_of (q := q_pul17) rfl rfl (SEM_runB kR_x kR_0 (Cs := []) (fun C hC => by cases hC) c_pul1_f (Q := w_pul17) hv 480 (b1 := false) (b2 := true) k_pul17 k1 ⟨k2.1, fun f hf => by rw [List.mem_singleton.mp hf]; exact decide_eq_true ek⟩ (fun c hc => by cases hc) k4 (fun p hp ρ3 m1 m2 m3 m4 m5 m6 => ?_))
    rw [List.mem_singleton.mp hp] at m2 m3 m5 m6 ⊢
    have sV : ρ3.1 60000 = ρ.2.2.1 19776 0 := (((m4.1 60000 (by decide) (by decide)).1).trans ((k4.1 60000 (by decide) (by decide)).1).symm).trans hV.symm
    have y1 : ρ3.1 19264 = hd5 (ρ.2.2.1 19776 0) := congrArg Prod.fst (m5 (19264, .op2 .iushr (.elem (.arg 19776) (.int 0)) (.int 5)) (List.mem_cons_self))
    have y2 : ρ3.1 5282 = hd4 (ρ.2.2.1 19776 0) := congrArg Prod.fst (m5 (5282, .op2 .iand (.op2 .iushr (.elem (.arg 19776) (.int 0)) (.int 4)) (.int 1)) (List.mem_cons_of_mem _ (List.mem_cons_self)))
    have y3 : ρ3.1 19296 = hdl (ρ.2.2.1 19776 0) := congrArg Prod.fst (m5 (19296, .op2 .iand (.elem (.arg 19776) (.int 0)) (.int 15)) (List.mem_cons_of_mem _ (List.mem_cons_of_mem _ (List.mem_cons_self))))
    refine fin 6 ρ3 hk (by decide) m1 m2.1 m4 (decide_eq_true (show ρ3.1 19264 = hd5 (ρ3.1 60000) by rw [y1, sV])) (decide_eq_true (show ρ3.1 5282 = hd4 (ρ3.1 60000) by rw [y2, sV])) (decide_eq_true (show ρ3.1 19296 = hdl (ρ3.1 60000) by rw [y3, sV])) (congrArg Prod.snd (m5 (5121, .elem (.arg 5185) (.int 0)) (List.mem_cons_of_mem _ (List.mem_cons_of_mem _ (List.mem_cons_of_mem _ (List.mem_cons_self)))))) (congrArg Prod.fst (m5 (19936, .sub (.arg 19936) (.int 1)) (List.mem_cons_of_mem _ (List.mem_cons_of_mem _ (List.mem_cons_of_mem _ (List.mem_cons_of_mem _ (List.mem_cons_self))))))) (fun j hj => ?_) (fun j hj => ?_)
    · have h := m6 (19776, .arg 19776, (List.range 6).reverse.map (fun k => (Jvm.Term.int (Int32.ofNat k), Jvm.Term.elem (.arg 19776) (.int (Int32.ofNat (k + 1)))))) (List.mem_cons_self) j
      rw [bd_ev (by decide), aden_sf 6 (by decide) hj, sv_int rfl] at h
      refine (Value.int.inj h).trans ?_
      show ρ.2.2.1 19776 (Int32.ofNat (j + 1)).toNatClampNeg = _
      rw [s_nat, Int32.toInt_ofNat_small (by omega)]
      rfl
    · have h := m6 (5185, .arg 5185, (List.range 6).reverse.map (fun k => (Jvm.Term.int (Int32.ofNat k), Jvm.Term.elem (.arg 5185) (.int (Int32.ofNat (k + 1)))))) (List.mem_cons_of_mem _ List.mem_cons_self) j
      rw [bd_od (by decide), aden_sf 6 (by decide) hj, sv_long rfl] at h
      refine (Value.long.inj h).trans ?_
      show ρ.2.2.2.1 5185 (Int32.ofNat (j + 1)).toNatClampNeg = _
      rw [s_nat, Int32.toInt_ofNat_small (by omega)]
      rfl
  · have ek : ρ.1 19936 = 8 := Int32.toInt_inj.mp (by rw [hk]; rfl)
    refine AT_of (q := q_pul18) rfl rfl (SEM_runB kR_x kR_0 (Cs := []) (fun C hC => by cases hC) c_pul1_f (Q := w_pul18) hv 540 (b1 := false) (b2 := true) k_pul18 k1 ⟨k2.1, fun f hf => by rw [List.mem_singleton.mp hf]; exact decide_eq_true ek⟩ (fun c hc => by cases hc) k4 (fun p hp ρ3 m1 m2 m3 m4 m5 m6 => ?_))
    rw [List.mem_singleton.mp hp] at m2 m3 m5 m6 ⊢
    have sV : ρ3.1 60000 = ρ.2.2.1 19776 0 := (((m4.1 60000 (by decide) (by decide)).1).trans ((k4.1 60000 (by decide) (by decide)).1).symm).trans hV.symm
    have y1 : ρ3.1 19264 = hd5 (ρ.2.2.1 19776 0) := congrArg Prod.fst (m5 (19264, .op2 .iushr (.elem (.arg 19776) (.int 0)) (.int 5)) (List.mem_cons_self))
    have y2 : ρ3.1 5282 = hd4 (ρ.2.2.1 19776 0) := congrArg Prod.fst (m5 (5282, .op2 .iand (.op2 .iushr (.elem (.arg 19776) (.int 0)) (.int 4)) (.int 1)) (List.mem_cons_of_mem _ (List.mem_cons_self)))
    have y3 : ρ3.1 19296 = hdl (ρ.2.2.1 19776 0) := congrArg Prod.fst (m5 (19296, .op2 .iand (.elem (.arg 19776) (.int 0)) (.int 15)) (List.mem_cons_of_mem _ (List.mem_cons_of_mem _ (List.mem_cons_self))))
    refine fin 7 ρ3 hk (by decide) m1 m2.1 m4 (decide_eq_true (show ρ3.1 19264 = hd5 (ρ3.1 60000) by rw [y1, sV])) (decide_eq_true (show ρ3.1 5282 = hd4 (ρ3.1 60000) by rw [y2, sV])) (decide_eq_true (show ρ3.1 19296 = hdl (ρ3.1 60000) by rw [y3, sV])) (congrArg Prod.snd (m5 (5121, .elem (.arg 5185) (.int 0)) (List.mem_cons_of_mem _ (List.mem_cons_of_mem _ (List.mem_cons_of_mem _ (List.mem_cons_self)))))) (congrArg Prod.fst (m5 (19936, .sub (.arg 19936) (.int 1)) (List.mem_cons_of_mem _ (List.mem_cons_of_mem _ (List.mem_cons_of_mem _ (List.mem_cons_of_mem _ (List.mem_cons_self))))))) (fun j hj => ?_) (fun j hj => ?_)
    · have h := m6 (19776, .arg 19776, (List.range 7).reverse.map (fun k => (Jvm.Term.int (Int32.ofNat k), Jvm.Term.elem (.arg 19776) (.int (Int32.ofNat (k + 1)))))) (List.mem_cons_self) j
      rw [bd_ev (by decide), aden_sf 7 (by decide) hj, sv_int rfl] at h
      refine (Value.int.inj h).trans ?_
      show ρ.2.2.1 19776 (Int32.ofNat (j + 1)).toNatClampNeg = _
      rw [s_nat, Int32.toInt_ofNat_small (by omega)]
      rfl
    · have h := m6 (5185, .arg 5185, (List.range 7).reverse.map (fun k => (Jvm.Term.int (Int32.ofNat k), Jvm.Term.elem (.arg 5185) (.int (Int32.ofNat (k + 1)))))) (List.mem_cons_of_mem _ List.mem_cons_self) j
      rw [bd_od (by decide), aden_sf 7 (by decide) hj, sv_long rfl] at h
      refine (Value.long.inj h).trans ?_
      show ρ.2.2.2.1 5185 (Int32.ofNat (j + 1)).toNatClampNeg = _
      rw [s_nat, Int32.toInt_ofNat_small (by omega)]
      rfl
theorem s_pul1 {X : pX} : SREL X pF pdfl mt_all kR zWP c_pul1 := SREL_cut kR_x kR_0 (Cs := []) (fun C hC => by cases hC) (d := 1) rfl c_pul1_f (Q := [q_pul10]) (fun ρ0 hv q hq => by rw [List.mem_singleton.mp hq]; exact t_pul10 hv) 20 e_pul1
/-! ===== a frame off the in row of drive 2: pull ===== -/
noncomputable def c_pul2 : sC := ((425, 253, 2), ([.long 0], [tr 219, .int 2]), ([], [219, 242, 243, 244, 245, 246]), [((0, .elem (.arg 19808) (.int 0), .arg 60000), true), ((6, .elem (.arg 5217) (.int 0), .arg 60033), true), ((0, .arg 19968, .arg 60064), true), ((2, .int 0, .arg 19968), true), ((2, .arg 19968, .int 0), false), ((2, .int 8, .arg 19968), false), ((2, .arg 1792, .int 0), false), ((2, .int 8, .arg 1792), false), ((2, .arg 1792, .arg 19968), false), ((106, .add (.sub (.arg 1792) (.arg 19968)) (.add (.elem (.arg 1632) (.int 0)) (.elem (.arg 19808) (.int 0))), .arg 19968), true), ((107, .add (.sub (.arg 1792) (.arg 19968)) (.add (.elem (.arg 1505) (.int 0)) (.elem (.arg 5217) (.int 0))), .arg 19968), true)], ([19264, 5282, 19296, 5121, 19968], [19808, 5217]), (some (.long 0), none), [((0, .arg 19264, .op2 .iushr (.arg 60000) (.int 5)), true), ((0, .arg 5282, .op2 .iand (.op2 .iushr (.arg 60000) (.int 4)) (.int 1)), true), ((0, .arg 19296, .op2 .iand (.arg 60000) (.int 15)), true), ((6, .arg 5121, .arg 60033), true), ((0, .arg 19968, .sub (.arg 60064) (.int 1)), true), ((2, .arg 19968, .int 0), false), ((2, .int 8, .arg 19968), false), ((2, .arg 1792, .int 0), false), ((2, .int 8, .arg 1792), false), ((2, .arg 1792, .arg 19968), false), ((106, .add (.sub (.arg 1792) (.arg 19968)) (.add (.elem (.arg 1632) (.int 0)) (.elem (.arg 19808) (.int 0))), .arg 19968), true), ((107, .add (.sub (.arg 1792) (.arg 19968)) (.add (.elem (.arg 1505) (.int 0)) (.elem (.arg 5217) (.int 0))), .arg 19968), true)], ([], []))
theorem c_pul2_f : cfine zWP 65536 c_pul2 = true := by decide +kernel
noncomputable def zf98zzp_18 : sQ × Bool := ((2, .arg 19968, .int 0), false)
noncomputable def zf98zzp_19 : sQ × Bool := ((2, .int 8, .arg 19968), false)
noncomputable def zf98zzp_20 : sQ × Bool := ((2, .arg 1792, .int 0), false)
noncomputable def zf98zzp_21 : sQ × Bool := ((2, .int 8, .arg 1792), false)
noncomputable def zf98zzp_22 : sQ × Bool := ((2, .arg 1792, .arg 19968), false)
noncomputable def zf98zzp_23 : sQ × Bool := ((106, .add (.sub (.arg 1792) (.arg 19968)) (.add (.elem (.arg 1632) (.int 0)) (.elem (.arg 19808) (.int 0))), .arg 19968), true)
noncomputable def zf98zzp_24 : sQ × Bool := ((107, .add (.sub (.arg 1792) (.arg 19968)) (.add (.elem (.arg 1505) (.int 0)) (.elem (.arg 5217) (.int 0))), .arg 19968), true)
noncomputable def q_pul20 : sCut := ((fr 0 425 0 [(0, .long 0)] [], [fBot], 1), (fr 0 253 0 [(0, tr 219), (1, .int 2)] [], [fBot], 1), [((0, .elem (.arg 19808) (.int 0), .arg 60000), true), ((6, .elem (.arg 5217) (.int 0), .arg 60033), true), ((0, .arg 19968, .arg 60064), true), ((2, .int 0, .arg 19968), true), zf98zzp_18, zf98zzp_19, zf98zzp_20, zf98zzp_21, zf98zzp_22, zf98zzp_23, zf98zzp_24], [])
noncomputable def q_pul2e : sCut := ((fr 0 425 0 [(0, .long 0)] [], [fBot], 1), (fr 0 253 88 [(0, tr 219)] [], [fBot], 1), [], [])
noncomputable def q_pul2n : sCut := ((fr 0 425 0 [(0, .long 0)] [], [fBot], 1), (fr 0 253 88 [(0, tr 219)] [], [fBot], 1), [zf98zzp_7, zf98zzp_8, zf98zzp_9, zf98zzp_10, ((0, .arg 19968, .sub (.arg 60064) (.int 1)), true), zf98zzp_18, zf98zzp_19, zf98zzp_20, zf98zzp_21, zf98zzp_22, zf98zzp_23, zf98zzp_24], [])
noncomputable def q_pul21 : sCut := ((fr 0 425 0 [(0, .long 0)] [], [fBot], 1), (fr 0 253 0 [(0, tr 219), (1, .int 2)] [], [fBot], 1), [((0, .arg 19968, .int 1), true)], [])
noncomputable def w_pul21 : List (sCut × List (Nat × sT) × List (Nat × sT × List (sT × sT))) := [(q_pul2e, [(19264, .op2 .iushr (.elem (.arg 19808) (.int 0)) (.int 5)), (5282, .op2 .iand (.op2 .iushr (.elem (.arg 19808) (.int 0)) (.int 4)) (.int 1)), (19296, .op2 .iand (.elem (.arg 19808) (.int 0)) (.int 15)), (5121, .elem (.arg 5217) (.int 0)), (19968, .sub (.arg 19968) (.int 1))], [(19808, .arg 19808, (List.range 0).reverse.map (fun k => (Jvm.Term.int (Int32.ofNat k), Jvm.Term.elem (.arg 19808) (.int (Int32.ofNat (k + 1)))))), (5217, .arg 5217, (List.range 0).reverse.map (fun k => (Jvm.Term.int (Int32.ofNat k), Jvm.Term.elem (.arg 5217) (.int (Int32.ofNat (k + 1))))))])]
theorem k_pul21 : cbody kR [] (cpl1 zWP c_pul2 [q_pul2e]) (cpl2 zWP c_pul2 [q_pul2e]) (cleafB kR zWP c_pul2 w_pul21) 120 false true q_pul21.2.2.1 q_pul21.2.2.2 (cst zWP c_pul2.2.2.1.1 q_pul21.1) (cst zWP c_pul2.2.2.1.2 q_pul21.2.1) = true := by decide +kernel
noncomputable def q_pul22 : sCut := ((fr 0 425 0 [(0, .long 0)] [], [fBot], 1), (fr 0 253 0 [(0, tr 219), (1, .int 2)] [], [fBot], 1), [((0, .arg 19968, .int 2), true)], [])
noncomputable def w_pul22 : List (sCut × List (Nat × sT) × List (Nat × sT × List (sT × sT))) := [(q_pul2e, [(19264, .op2 .iushr (.elem (.arg 19808) (.int 0)) (.int 5)), (5282, .op2 .iand (.op2 .iushr (.elem (.arg 19808) (.int 0)) (.int 4)) (.int 1)), (19296, .op2 .iand (.elem (.arg 19808) (.int 0)) (.int 15)), (5121, .elem (.arg 5217) (.int 0)), (19968, .sub (.arg 19968) (.int 1))], [(19808, .arg 19808, (List.range 1).reverse.map (fun k => (Jvm.Term.int (Int32.ofNat k), Jvm.Term.elem (.arg 19808) (.int (Int32.ofNat (k + 1)))))), (5217, .arg 5217, (List.range 1).reverse.map (fun k => (Jvm.Term.int (Int32.ofNat k), Jvm.Term.elem (.arg 5217) (.int (Int32.ofNat (k + 1))))))])]
theorem k_pul22 : cbody kR [] (cpl1 zWP c_pul2 [q_pul2e]) (cpl2 zWP c_pul2 [q_pul2e]) (cleafB kR zWP c_pul2 w_pul22) 180 false true q_pul22.2.2.1 q_pul22.2.2.2 (cst zWP c_pul2.2.2.1.1 q_pul22.1) (cst zWP c_pul2.2.2.1.2 q_pul22.2.1) = true := by decide +kernel
noncomputable def q_pul23 : sCut := ((fr 0 425 0 [(0, .long 0)] [], [fBot], 1), (fr 0 253 0 [(0, tr 219), (1, .int 2)] [], [fBot], 1), [((0, .arg 19968, .int 3), true)], [])
noncomputable def w_pul23 : List (sCut × List (Nat × sT) × List (Nat × sT × List (sT × sT))) := [(q_pul2e, [(19264, .op2 .iushr (.elem (.arg 19808) (.int 0)) (.int 5)), (5282, .op2 .iand (.op2 .iushr (.elem (.arg 19808) (.int 0)) (.int 4)) (.int 1)), (19296, .op2 .iand (.elem (.arg 19808) (.int 0)) (.int 15)), (5121, .elem (.arg 5217) (.int 0)), (19968, .sub (.arg 19968) (.int 1))], [(19808, .arg 19808, (List.range 2).reverse.map (fun k => (Jvm.Term.int (Int32.ofNat k), Jvm.Term.elem (.arg 19808) (.int (Int32.ofNat (k + 1)))))), (5217, .arg 5217, (List.range 2).reverse.map (fun k => (Jvm.Term.int (Int32.ofNat k), Jvm.Term.elem (.arg 5217) (.int (Int32.ofNat (k + 1))))))])]
theorem k_pul23 : cbody kR [] (cpl1 zWP c_pul2 [q_pul2e]) (cpl2 zWP c_pul2 [q_pul2e]) (cleafB kR zWP c_pul2 w_pul23) 240 false true q_pul23.2.2.1 q_pul23.2.2.2 (cst zWP c_pul2.2.2.1.1 q_pul23.1) (cst zWP c_pul2.2.2.1.2 q_pul23.2.1) = true := by decide +kernel
noncomputable def q_pul24 : sCut := ((fr 0 425 0 [(0, .long 0)] [], [fBot], 1), (fr 0 253 0 [(0, tr 219), (1, .int 2)] [], [fBot], 1), [((0, .arg 19968, .int 4), true)], [])
noncomputable def w_pul24 : List (sCut × List (Nat × sT) × List (Nat × sT × List (sT × sT))) := [(q_pul2e, [(19264, .op2 .iushr (.elem (.arg 19808) (.int 0)) (.int 5)), (5282, .op2 .iand (.op2 .iushr (.elem (.arg 19808) (.int 0)) (.int 4)) (.int 1)), (19296, .op2 .iand (.elem (.arg 19808) (.int 0)) (.int 15)), (5121, .elem (.arg 5217) (.int 0)), (19968, .sub (.arg 19968) (.int 1))], [(19808, .arg 19808, (List.range 3).reverse.map (fun k => (Jvm.Term.int (Int32.ofNat k), Jvm.Term.elem (.arg 19808) (.int (Int32.ofNat (k + 1)))))), (5217, .arg 5217, (List.range 3).reverse.map (fun k => (Jvm.Term.int (Int32.ofNat k), Jvm.Term.elem (.arg 5217) (.int (Int32.ofNat (k + 1))))))])]
theorem k_pul24 : cbody kR [] (cpl1 zWP c_pul2 [q_pul2e]) (cpl2 zWP c_pul2 [q_pul2e]) (cleafB kR zWP c_pul2 w_pul24) 300 false true q_pul24.2.2.1 q_pul24.2.2.2 (cst zWP c_pul2.2.2.1.1 q_pul24.1) (cst zWP c_pul2.2.2.1.2 q_pul24.2.1) = true := by decide +kernel
noncomputable def q_pul25 : sCut := ((fr 0 425 0 [(0, .long 0)] [], [fBot], 1), (fr 0 253 0 [(0, tr 219), (1, .int 2)] [], [fBot], 1), [((0, .arg 19968, .int 5), true)], [])
noncomputable def w_pul25 : List (sCut × List (Nat × sT) × List (Nat × sT × List (sT × sT))) := [(q_pul2e, [(19264, .op2 .iushr (.elem (.arg 19808) (.int 0)) (.int 5)), (5282, .op2 .iand (.op2 .iushr (.elem (.arg 19808) (.int 0)) (.int 4)) (.int 1)), (19296, .op2 .iand (.elem (.arg 19808) (.int 0)) (.int 15)), (5121, .elem (.arg 5217) (.int 0)), (19968, .sub (.arg 19968) (.int 1))], [(19808, .arg 19808, (List.range 4).reverse.map (fun k => (Jvm.Term.int (Int32.ofNat k), Jvm.Term.elem (.arg 19808) (.int (Int32.ofNat (k + 1)))))), (5217, .arg 5217, (List.range 4).reverse.map (fun k => (Jvm.Term.int (Int32.ofNat k), Jvm.Term.elem (.arg 5217) (.int (Int32.ofNat (k + 1))))))])]
theorem k_pul25 : cbody kR [] (cpl1 zWP c_pul2 [q_pul2e]) (cpl2 zWP c_pul2 [q_pul2e]) (cleafB kR zWP c_pul2 w_pul25) 360 false true q_pul25.2.2.1 q_pul25.2.2.2 (cst zWP c_pul2.2.2.1.1 q_pul25.1) (cst zWP c_pul2.2.2.1.2 q_pul25.2.1) = true := by decide +kernel
noncomputable def q_pul26 : sCut := ((fr 0 425 0 [(0, .long 0)] [], [fBot], 1), (fr 0 253 0 [(0, tr 219), (1, .int 2)] [], [fBot], 1), [((0, .arg 19968, .int 6), true)], [])
noncomputable def w_pul26 : List (sCut × List (Nat × sT) × List (Nat × sT × List (sT × sT))) := [(q_pul2e, [(19264, .op2 .iushr (.elem (.arg 19808) (.int 0)) (.int 5)), (5282, .op2 .iand (.op2 .iushr (.elem (.arg 19808) (.int 0)) (.int 4)) (.int 1)), (19296, .op2 .iand (.elem (.arg 19808) (.int 0)) (.int 15)), (5121, .elem (.arg 5217) (.int 0)), (19968, .sub (.arg 19968) (.int 1))], [(19808, .arg 19808, (List.range 5).reverse.map (fun k => (Jvm.Term.int (Int32.ofNat k), Jvm.Term.elem (.arg 19808) (.int (Int32.ofNat (k + 1)))))), (5217, .arg 5217, (List.range 5).reverse.map (fun k => (Jvm.Term.int (Int32.ofNat k), Jvm.Term.elem (.arg 5217) (.int (Int32.ofNat (k + 1))))))])]
theorem k_pul26 : cbody kR [] (cpl1 zWP c_pul2 [q_pul2e]) (cpl2 zWP c_pul2 [q_pul2e]) (cleafB kR zWP c_pul2 w_pul26) 420 false true q_pul26.2.2.1 q_pul26.2.2.2 (cst zWP c_pul2.2.2.1.1 q_pul26.1) (cst zWP c_pul2.2.2.1.2 q_pul26.2.1) = true := by decide +kernel
noncomputable def q_pul27 : sCut := ((fr 0 425 0 [(0, .long 0)] [], [fBot], 1), (fr 0 253 0 [(0, tr 219), (1, .int 2)] [], [fBot], 1), [((0, .arg 19968, .int 7), true)], [])
noncomputable def w_pul27 : List (sCut × List (Nat × sT) × List (Nat × sT × List (sT × sT))) := [(q_pul2e, [(19264, .op2 .iushr (.elem (.arg 19808) (.int 0)) (.int 5)), (5282, .op2 .iand (.op2 .iushr (.elem (.arg 19808) (.int 0)) (.int 4)) (.int 1)), (19296, .op2 .iand (.elem (.arg 19808) (.int 0)) (.int 15)), (5121, .elem (.arg 5217) (.int 0)), (19968, .sub (.arg 19968) (.int 1))], [(19808, .arg 19808, (List.range 6).reverse.map (fun k => (Jvm.Term.int (Int32.ofNat k), Jvm.Term.elem (.arg 19808) (.int (Int32.ofNat (k + 1)))))), (5217, .arg 5217, (List.range 6).reverse.map (fun k => (Jvm.Term.int (Int32.ofNat k), Jvm.Term.elem (.arg 5217) (.int (Int32.ofNat (k + 1))))))])]
theorem k_pul27 : cbody kR [] (cpl1 zWP c_pul2 [q_pul2e]) (cpl2 zWP c_pul2 [q_pul2e]) (cleafB kR zWP c_pul2 w_pul27) 480 false true q_pul27.2.2.1 q_pul27.2.2.2 (cst zWP c_pul2.2.2.1.1 q_pul27.1) (cst zWP c_pul2.2.2.1.2 q_pul27.2.1) = true := by decide +kernel
noncomputable def q_pul28 : sCut := ((fr 0 425 0 [(0, .long 0)] [], [fBot], 1), (fr 0 253 0 [(0, tr 219), (1, .int 2)] [], [fBot], 1), [((0, .arg 19968, .int 8), true)], [])
noncomputable def w_pul28 : List (sCut × List (Nat × sT) × List (Nat × sT × List (sT × sT))) := [(q_pul2e, [(19264, .op2 .iushr (.elem (.arg 19808) (.int 0)) (.int 5)), (5282, .op2 .iand (.op2 .iushr (.elem (.arg 19808) (.int 0)) (.int 4)) (.int 1)), (19296, .op2 .iand (.elem (.arg 19808) (.int 0)) (.int 15)), (5121, .elem (.arg 5217) (.int 0)), (19968, .sub (.arg 19968) (.int 1))], [(19808, .arg 19808, (List.range 7).reverse.map (fun k => (Jvm.Term.int (Int32.ofNat k), Jvm.Term.elem (.arg 19808) (.int (Int32.ofNat (k + 1)))))), (5217, .arg 5217, (List.range 7).reverse.map (fun k => (Jvm.Term.int (Int32.ofNat k), Jvm.Term.elem (.arg 5217) (.int (Int32.ofNat (k + 1))))))])]
theorem k_pul28 : cbody kR [] (cpl1 zWP c_pul2 [q_pul2e]) (cpl2 zWP c_pul2 [q_pul2e]) (cleafB kR zWP c_pul2 w_pul28) 540 false true q_pul28.2.2.1 q_pul28.2.2.2 (cst zWP c_pul2.2.2.1.1 q_pul28.1) (cst zWP c_pul2.2.2.1.2 q_pul28.2.1) = true := by decide +kernel
theorem k_pul2n : cbody kR [] (cpl1 zWP c_pul2 []) (cpl2 zWP c_pul2 []) (cleaf kR zWP c_pul2 []) 60 true true q_pul2n.2.2.1 q_pul2n.2.2.2 (cst zWP c_pul2.2.2.1.1 q_pul2n.1) (cst zWP c_pul2.2.2.1.2 q_pul2n.2.1) = true := by decide +kernel
theorem e_pul2 : frun kR [] (cpl1 zWP c_pul2 [q_pul20]) (cpl2 zWP c_pul2 [q_pul20]) (cleaf kR zWP c_pul2 [q_pul20]) 20 65536 (isatP (c_pul2.2.2.2.1) c_pul2.2.2.2.2.2.2.2.1) c_pul2.2.2.2.2.2.2.2.1 (sin0 mt_all c_pul2.1.1 1 c_pul2.2.1.1 (foot zWP c_pul2.2.2.1.1)) (sin0 mt_all c_pul2.1.2.1 1 c_pul2.2.1.2 (foot zWP c_pul2.2.2.1.2)) = true := by decide +kernel
theorem t_pul20 {X : pX} {ρ0 : sR} (hv : vok X ρ0) : CUTOK X kR zWP c_pul2 1 ρ0 q_pul20 := by
  refine CUTOK_AT (fun ρ k1 k2 k3 k4 => ?_)
  have hV : ρ.2.2.1 19808 0 = ρ.1 60000 := of_decide_eq_true (k2.2 _ (List.mem_cons_self))
  have hVB : ρ.2.2.2.1 5217 0 = ρ.2.1 60033 := of_decide_eq_true (k2.2 _ (List.mem_cons_of_mem _ (List.mem_cons_self)))
  have hN : ρ.1 19968 = ρ.1 60064 := of_decide_eq_true (k2.2 _ (List.mem_cons_of_mem _ (List.mem_cons_of_mem _ (List.mem_cons_self))))
  have g1 : (0 : Int32) < ρ.1 19968 := of_decide_eq_true (k2.2 _ (List.mem_cons_of_mem _ (List.mem_cons_of_mem _ (List.mem_cons_of_mem _ (List.mem_cons_self)))))
  have g2 : ¬ (8 : Int32) < ρ.1 19968 := of_decide_eq_false (k2.2 _ (List.mem_cons_of_mem _ (List.mem_cons_of_mem _ (List.mem_cons_of_mem _ (List.mem_cons_of_mem _ (List.mem_cons_of_mem _ (List.mem_cons_self)))))))
  have g3 : ¬ ρ.1 1792 < 0 := of_decide_eq_false (k2.2 _ (List.mem_cons_of_mem _ (List.mem_cons_of_mem _ (List.mem_cons_of_mem _ (List.mem_cons_of_mem _ (List.mem_cons_of_mem _ (List.mem_cons_of_mem _ (List.mem_cons_self))))))))
  have g4 : ¬ (8 : Int32) < ρ.1 1792 := of_decide_eq_false (k2.2 _ (List.mem_cons_of_mem _ (List.mem_cons_of_mem _ (List.mem_cons_of_mem _ (List.mem_cons_of_mem _ (List.mem_cons_of_mem _ (List.mem_cons_of_mem _ (List.mem_cons_of_mem _ (List.mem_cons_self)))))))))
  have g5 : ¬ ρ.1 1792 < ρ.1 19968 := of_decide_eq_false (k2.2 _ (List.mem_cons_of_mem _ (List.mem_cons_of_mem _ (List.mem_cons_of_mem _ (List.mem_cons_of_mem _ (List.mem_cons_of_mem _ (List.mem_cons_of_mem _ (List.mem_cons_of_mem _ (List.mem_cons_of_mem _ (List.mem_cons_self))))))))))
  have f3 : sc X ρ (2, .arg 1792, .int 0) = false := k2.2 _ (List.mem_cons_of_mem _ (List.mem_cons_of_mem _ (List.mem_cons_of_mem _ (List.mem_cons_of_mem _ (List.mem_cons_of_mem _ (List.mem_cons_of_mem _ (List.mem_cons_self)))))))
  have f4 : sc X ρ (2, .int 8, .arg 1792) = false := k2.2 _ (List.mem_cons_of_mem _ (List.mem_cons_of_mem _ (List.mem_cons_of_mem _ (List.mem_cons_of_mem _ (List.mem_cons_of_mem _ (List.mem_cons_of_mem _ (List.mem_cons_of_mem _ (List.mem_cons_self))))))))
  have h6 : (List.range (ρ.1 19968).toInt.toNat).all (fun j => decide (ρ.2.2.1 1632 ((ρ.1 1792 - ρ.1 19968).toInt.toNat + j) = ρ.2.2.1 19808 j)) = true := k2.2 _ (List.mem_cons_of_mem _ (List.mem_cons_of_mem _ (List.mem_cons_of_mem _ (List.mem_cons_of_mem _ (List.mem_cons_of_mem _ (List.mem_cons_of_mem _ (List.mem_cons_of_mem _ (List.mem_cons_of_mem _ (List.mem_cons_of_mem _ (List.mem_cons_self))))))))))
  have h7 : (List.range (ρ.1 19968).toInt.toNat).all (fun j => decide (ρ.2.2.2.1 1505 ((ρ.1 1792 - ρ.1 19968).toInt.toNat + j) = ρ.2.2.2.1 5217 j)) = true := k2.2 _ (List.mem_cons_of_mem _ (List.mem_cons_of_mem _ (List.mem_cons_of_mem _ (List.mem_cons_of_mem _ (List.mem_cons_of_mem _ (List.mem_cons_of_mem _ (List.mem_cons_of_mem _ (List.mem_cons_of_mem _ (List.mem_cons_of_mem _ (List.mem_cons_of_mem _ (List.mem_cons_self)))))))))))
  have z0 : (0 : Int32).toInt = 0 := rfl
  have z8 : (8 : Int32).toInt = 8 := rfl
  rw [Int32.lt_iff_toInt_lt] at g1 g2 g3 g4 g5
  rw [z0] at g1 g3
  rw [z8] at g2 g4
  have ip : (ρ.1 1792 - ρ.1 19968).toInt = (ρ.1 1792).toInt - (ρ.1 19968).toInt := by
    rw [Int32.toInt_sub]
    exact Int.bmod_eq_of_le (by omega) (by omega)
  have i1 : (ρ.1 19968 - 1).toInt = (ρ.1 19968).toInt - 1 := by
    rw [Int32.toInt_sub]
    exact Int.bmod_eq_of_le (by show _ ≤ (ρ.1 19968).toInt - 1; omega) (by show (ρ.1 19968).toInt - 1 < _; omega)
  have fin : ∀ (m : Nat) (ρ3 : sR), (ρ.1 19968).toInt = m + 1 → m ≤ 7 → kok X ρ3 kR → vok X ρ3 → agrM 65536 c_pul2.2.2.2.2.1.1 c_pul2.2.2.2.2.1.2 ρ3 ρ0 → sc X ρ3 (0, .arg 19264, .op2 .iushr (.arg 60000) (.int 5)) = true → sc X ρ3 (0, .arg 5282, .op2 .iand (.op2 .iushr (.arg 60000) (.int 4)) (.int 1)) = true → sc X ρ3 (0, .arg 19296, .op2 .iand (.arg 60000) (.int 15)) = true → ρ3.2.1 5121 = ρ.2.2.2.1 5217 0 → ρ3.1 19968 = ρ.1 19968 - 1 → (∀ j, j < m → ρ3.2.2.1 19808 j = ρ.2.2.1 19808 (j + 1)) → (∀ j, j < m → ρ3.2.2.2.1 5217 j = ρ.2.2.2.1 5217 (j + 1)) → AT X zWP c_pul2 1 ρ0 ρ3 q_pul2e := by
    intro m ρ3 hm hm7 l1 l2 l4 e1 e2 e3 e4 e5 e6 e7
    have same : ∀ x, x < 65536 → x ∉ c_pul2.2.2.2.2.1.1 → ρ3.1 x = ρ.1 x ∧ ρ3.2.1 x = ρ.2.1 x := fun x h1 h2 => ⟨((l4.1 x h1 h2).1).trans ((k4.1 x h1 h2).1).symm, ((l4.1 x h1 h2).2).trans ((k4.1 x h1 h2).2).symm⟩
    have samA : ∀ x, x < 65536 → x ∉ c_pul2.2.2.2.2.1.2 → ρ3.2.2.1 x = ρ.2.2.1 x ∧ ρ3.2.2.2.1 x = ρ.2.2.2.1 x := fun x h1 h2 => ⟨((l4.2 x h1 h2).1).trans ((k4.2 x h1 h2).1).symm, ((l4.2 x h1 h2).2).trans ((k4.2 x h1 h2).2).symm⟩
    have s1 := (same 1792 (by decide) (by decide)).1
    have s2 := (same 60064 (by decide) (by decide)).1
    have s3 := (same 60033 (by decide) (by decide)).2
    have s4 := (samA 1632 (by decide) (by decide)).1
    have s5 := (samA 1505 (by decide) (by decide)).2
    have ip3 : (ρ3.1 1792 - ρ3.1 19968).toInt = (ρ.1 1792).toInt - (ρ.1 19968).toInt + 1 := by
      rw [Int32.toInt_sub, s1, e5, i1]
      rw [Int.bmod_eq_of_le (by omega) (by omega)]
      omega
    refine AT_of (q := q_pul2n) rfl rfl (CUT_run kR_x kR_0 (Cs := []) (fun C hC => by cases hC) c_pul2_f (Q := []) hv (fun q hq => by cases hq) 60 (b1 := true) (b2 := true) k_pul2n ρ3 l1 ⟨l2, ?_⟩ (fun c hc => by cases hc) l4)
    refine fcq e1 (fcq e2 (fcq e3 (fcq (decide_eq_true (show ρ3.2.1 5121 = ρ3.2.1 60033 by rw [e4, hVB, s3])) (fcq (decide_eq_true (show ρ3.1 19968 = ρ3.1 60064 - 1 by rw [e5, s2, hN])) (fcq (decide_eq_false ?_) (fcq (decide_eq_false ?_) (fcq (decide_eq_false ?_) (fcq (decide_eq_false ?_) (fcq (decide_eq_false ?_) (fcq ?_ (fcq ?_ (fun f hf => by cases hf))))))))))))
    · show ¬ ρ3.1 19968 < 0
      rw [Int32.lt_iff_toInt_lt, z0, e5, i1]; omega
    · show ¬ (8 : Int32) < ρ3.1 19968
      rw [Int32.lt_iff_toInt_lt, z8, e5, i1]; omega
    · show ¬ ρ3.1 1792 < 0
      rw [Int32.lt_iff_toInt_lt, z0, s1]; omega
    · show ¬ (8 : Int32) < ρ3.1 1792
      rw [Int32.lt_iff_toInt_lt, z8, s1]; omega
    · show ¬ ρ3.1 1792 < ρ3.1 19968
      rw [Int32.lt_iff_toInt_lt, s1, e5, i1]; omega
    · show (List.range (ρ3.1 19968).toInt.toNat).all (fun j => decide (ρ3.2.2.1 1632 ((ρ3.1 1792 - ρ3.1 19968).toInt.toNat + j) = ρ3.2.2.1 19808 j)) = true
      refine n106_of (fun j hj => ?_)
      rw [e5, i1] at hj
      rw [ip3, s4, e6 j (by omega)]
      have h := n106_get h6 (j := j + 1) (by omega)
      rw [ip] at h
      rw [show ((ρ.1 1792).toInt - (ρ.1 19968).toInt + 1).toNat + j = ((ρ.1 1792).toInt - (ρ.1 19968).toInt).toNat + (j + 1) by omega]
      exact h
    · show (List.range (ρ3.1 19968).toInt.toNat).all (fun j => decide (ρ3.2.2.2.1 1505 ((ρ3.1 1792 - ρ3.1 19968).toInt.toNat + j) = ρ3.2.2.2.1 5217 j)) = true
      refine n106_of (fun j hj => ?_)
      rw [e5, i1] at hj
      rw [ip3, s5, e7 j (by omega)]
      have h := n106_get h7 (j := j + 1) (by omega)
      rw [ip] at h
      rw [show ((ρ.1 1792).toInt - (ρ.1 19968).toInt + 1).toNat + j = ((ρ.1 1792).toInt - (ρ.1 19968).toInt).toNat + (j + 1) by omega]
      exact h
  rcases (show (ρ.1 19968).toInt = 1 ∨ (ρ.1 19968).toInt = 2 ∨ (ρ.1 19968).toInt = 3 ∨ (ρ.1 19968).toInt = 4 ∨ (ρ.1 19968).toInt = 5 ∨ (ρ.1 19968).toInt = 6 ∨ (ρ.1 19968).toInt = 7 ∨ (ρ.1 19968).toInt = 8 by omega) with hk | hk | hk | hk | hk | hk | hk | hk
  · have ek : ρ.1 19968 = 1 := Int32.toInt_inj.mp (by rw [hk]; rfl)
    refine AT_of (q := q_pul21) rfl rfl (SEM_runB kR_x kR_0 (Cs := []) (fun C hC => by cases hC) c_pul2_f (Q := w_pul21) hv 120 (b1 := false) (b2 := true) k_pul21 k1 ⟨k2.1, fun f hf => by rw [List.mem_singleton.mp hf]; exact decide_eq_true ek⟩ (fun c hc => by cases hc) k4 (fun p hp ρ3 m1 m2 m3 m4 m5 m6 => ?_))
    rw [List.mem_singleton.mp hp] at m2 m3 m5 m6 ⊢
    have sV : ρ3.1 60000 = ρ.2.2.1 19808 0 := (((m4.1 60000 (by decide) (by decide)).1).trans ((k4.1 60000 (by decide) (by decide)).1).symm).trans hV.symm
    have y1 : ρ3.1 19264 = hd5 (ρ.2.2.1 19808 0) := congrArg Prod.fst (m5 (19264, .op2 .iushr (.elem (.arg 19808) (.int 0)) (.int 5)) (List.mem_cons_self))
    have y2 : ρ3.1 5282 = hd4 (ρ.2.2.1 19808 0) := congrArg Prod.fst (m5 (5282, .op2 .iand (.op2 .iushr (.elem (.arg 19808) (.int 0)) (.int 4)) (.int 1)) (List.mem_cons_of_mem _ (List.mem_cons_self)))
    have y3 : ρ3.1 19296 = hdl (ρ.2.2.1 19808 0) := congrArg Prod.fst (m5 (19296, .op2 .iand (.elem (.arg 19808) (.int 0)) (.int 15)) (List.mem_cons_of_mem _ (List.mem_cons_of_mem _ (List.mem_cons_self))))
    refine fin 0 ρ3 hk (by decide) m1 m2.1 m4 (decide_eq_true (show ρ3.1 19264 = hd5 (ρ3.1 60000) by rw [y1, sV])) (decide_eq_true (show ρ3.1 5282 = hd4 (ρ3.1 60000) by rw [y2, sV])) (decide_eq_true (show ρ3.1 19296 = hdl (ρ3.1 60000) by rw [y3, sV])) (congrArg Prod.snd (m5 (5121, .elem (.arg 5217) (.int 0)) (List.mem_cons_of_mem _ (List.mem_cons_of_mem _ (List.mem_cons_of_mem _ (List.mem_cons_self)))))) (congrArg Prod.fst (m5 (19968, .sub (.arg 19968) (.int 1)) (List.mem_cons_of_mem _ (List.mem_cons_of_mem _ (List.mem_cons_of_mem _ (List.mem_cons_of_mem _ (List.mem_cons_self))))))) (fun j hj => ?_) (fun j hj => ?_)
    · have h := m6 (19808, .arg 19808, (List.range 0).reverse.map (fun k => (Jvm.Term.int (Int32.ofNat k), Jvm.Term.elem (.arg 19808) (.int (Int32.ofNat (k + 1)))))) (List.mem_cons_self) j
      rw [bd_ev (by decide), aden_sf 0 (by decide) hj, sv_int rfl] at h
      refine (Value.int.inj h).trans ?_
      show ρ.2.2.1 19808 (Int32.ofNat (j + 1)).toNatClampNeg = _
      rw [s_nat, Int32.toInt_ofNat_small (by omega)]
      rfl
    · have h := m6 (5217, .arg 5217, (List.range 0).reverse.map (fun k => (Jvm.Term.int (Int32.ofNat k), Jvm.Term.elem (.arg 5217) (.int (Int32.ofNat (k + 1)))))) (List.mem_cons_of_mem _ List.mem_cons_self) j
      rw [bd_od (by decide), aden_sf 0 (by decide) hj, sv_long rfl] at h
      refine (Value.long.inj h).trans ?_
      show ρ.2.2.2.1 5217 (Int32.ofNat (j + 1)).toNatClampNeg = _
      rw [s_nat, Int32.toInt_ofNat_small (by omega)]
      rfl
  · have ek : ρ.1 19968 = 2 := Int32.toInt_inj.mp (by rw [hk]; rfl)
    refine AT_of (q := q_pul22) rfl rfl (SEM_runB kR_x kR_0 (Cs := []) (fun C hC => by cases hC) c_pul2_f (Q := w_pul22) hv 180 (b1 := false) (b2 := true) k_pul22 k1 ⟨k2.1, fun f hf => by rw [List.mem_singleton.mp hf]; exact decide_eq_true ek⟩ (fun c hc => by cases hc) k4 (fun p hp ρ3 m1 m2 m3 m4 m5 m6 => ?_))
    rw [List.mem_singleton.mp hp] at m2 m3 m5 m6 ⊢
    have sV : ρ3.1 60000 = ρ.2.2.1 19808 0 := (((m4.1 60000 (by decide) (by decide)).1).trans ((k4.1 60000 (by decide) (by decide)).1).symm).trans hV.symm
    have y1 : ρ3.1 19264 = hd5 (ρ.2.2.1 19808 0) := congrArg Prod.fst (m5 (19264, .op2 .iushr (.elem (.arg 19808) (.int 0)) (.int 5)) (List.mem_cons_self))
    have y2 : ρ3.1 5282 = hd4 (ρ.2.2.1 19808 0) := congrArg Prod.fst (m5 (5282, .op2 .iand (.op2 .iushr (.elem (.arg 19808) (.int 0)) (.int 4)) (.int 1)) (List.mem_cons_of_mem _ (List.mem_cons_self)))
    have y3 : ρ3.1 19296 = hdl (ρ.2.2.1 19808 0) := congrArg Prod.fst (m5 (19296, .op2 .iand (.elem (.arg 19808) (.int 0)) (.int 15)) (List.mem_cons_of_mem _ (List.mem_cons_of_mem _ (List.mem_cons_self))))
    refine fin 1 ρ3 hk (by decide) m1 m2.1 m4 (decide_eq_true (show ρ3.1 19264 = hd5 (ρ3.1 60000) by rw [y1, sV])) (decide_eq_true (show ρ3.1 5282 = hd4 (ρ3.1 60000) by rw [y2, sV])) (decide_eq_true (show ρ3.1 19296 = hdl (ρ3.1 60000) by rw [y3, sV])) (congrArg Prod.snd (m5 (5121, .elem (.arg 5217) (.int 0)) (List.mem_cons_of_mem _ (List.mem_cons_of_mem _ (List.mem_cons_of_mem _ (List.mem_cons_self)))))) (congrArg Prod.fst (m5 (19968, .sub (.arg 19968) (.int 1)) (List.mem_cons_of_mem _ (List.mem_cons_of_mem _ (List.mem_cons_of_mem _ (List.mem_cons_of_mem _ (List.mem_cons_self))))))) (fun j hj => ?_) (fun j hj => ?_)
    · have h := m6 (19808, .arg 19808, (List.range 1).reverse.map (fun k => (Jvm.Term.int (Int32.ofNat k), Jvm.Term.elem (.arg 19808) (.int (Int32.ofNat (k + 1)))))) (List.mem_cons_self) j
      rw [bd_ev (by decide), aden_sf 1 (by decide) hj, sv_int rfl] at h
      refine (Value.int.inj h).trans ?_
      show ρ.2.2.1 19808 (Int32.ofNat (j + 1)).toNatClampNeg = _
      rw [s_nat, Int32.toInt_ofNat_small (by omega)]
      rfl
    · have h := m6 (5217, .arg 5217, (List.range 1).reverse.map (fun k => (Jvm.Term.int (Int32.ofNat k), Jvm.Term.elem (.arg 5217) (.int (Int32.ofNat (k + 1)))))) (List.mem_cons_of_mem _ List.mem_cons_self) j
      rw [bd_od (by decide), aden_sf 1 (by decide) hj, sv_long rfl] at h
      refine (Value.long.inj h).trans ?_
      show ρ.2.2.2.1 5217 (Int32.ofNat (j + 1)).toNatClampNeg = _
      rw [s_nat, Int32.toInt_ofNat_small (by omega)]
      rfl
  · have ek : ρ.1 19968 = 3 := Int32.toInt_inj.mp (by rw [hk]; rfl)
    refine AT_of (q := q_pul23) rfl rfl (SEM_runB kR_x kR_0 (Cs := []) (fun C hC => by cases hC) c_pul2_f (Q := w_pul23) hv 240 (b1 := false) (b2 := true) k_pul23 k1 ⟨k2.1, fun f hf => by rw [List.mem_singleton.mp hf]; exact decide_eq_true ek⟩ (fun c hc => by cases hc) k4 (fun p hp ρ3 m1 m2 m3 m4 m5 m6 => ?_))
    rw [List.mem_singleton.mp hp] at m2 m3 m5 m6 ⊢
    have sV : ρ3.1 60000 = ρ.2.2.1 19808 0 := (((m4.1 60000 (by decide) (by decide)).1).trans ((k4.1 60000 (by decide) (by decide)).1).symm).trans hV.symm
    have y1 : ρ3.1 19264 = hd5 (ρ.2.2.1 19808 0) := congrArg Prod.fst (m5 (19264, .op2 .iushr (.elem (.arg 19808) (.int 0)) (.int 5)) (List.mem_cons_self))
    have y2 : ρ3.1 5282 = hd4 (ρ.2.2.1 19808 0) := congrArg Prod.fst (m5 (5282, .op2 .iand (.op2 .iushr (.elem (.arg 19808) (.int 0)) (.int 4)) (.int 1)) (List.mem_cons_of_mem _ (List.mem_cons_self)))
    have y3 : ρ3.1 19296 = hdl (ρ.2.2.1 19808 0) := congrArg Prod.fst (m5 (19296, .op2 .iand (.elem (.arg 19808) (.int 0)) (.int 15)) (List.mem_cons_of_mem _ (List.mem_cons_of_mem _ (List.mem_cons_self))))
    refine fin 2 ρ3 hk (by decide) m1 m2.1 m4 (decide_eq_true (show ρ3.1 19264 = hd5 (ρ3.1 60000) by rw [y1, sV])) (decide_eq_true (show ρ3.1 5282 = hd4 (ρ3.1 60000) by rw [y2, sV])) (decide_eq_true (show ρ3.1 19296 = hdl (ρ3.1 60000) by rw [y3, sV])) (congrArg Prod.snd (m5 (5121, .elem (.arg 5217) (.int 0)) (List.mem_cons_of_mem _ (List.mem_cons_of_mem _ (List.mem_cons_of_mem _ (List.mem_cons_self)))))) (congrArg Prod.fst (m5 (19968, .sub (.arg 19968) (.int 1)) (List.mem_cons_of_mem _ (List.mem_cons_of_mem _ (List.mem_cons_of_mem _ (List.mem_cons_of_mem _ (List.mem_cons_self))))))) (fun j hj => ?_) (fun j hj => ?_)
    · have h := m6 (19808, .arg 19808, (List.range 2).reverse.map (fun k => (Jvm.Term.int (Int32.ofNat k), Jvm.Term.elem (.arg 19808) (.int (Int32.ofNat (k + 1)))))) (List.mem_cons_self) j
      rw [bd_ev (by decide), aden_sf 2 (by decide) hj, sv_int rfl] at h
      refine (Value.int.inj h).trans ?_
      show ρ.2.2.1 19808 (Int32.ofNat (j + 1)).toNatClampNeg = _
      rw [s_nat, Int32.toInt_ofNat_small (by omega)]
      rfl
    · have h := m6 (5217, .arg 5217, (List.range 2).reverse.map (fun k => (Jvm.Term.int (Int32.ofNat k), Jvm.Term.elem (.arg 5217) (.int (Int32.ofNat (k + 1)))))) (List.mem_cons_of_mem _ List.mem_cons_self) j
      rw [bd_od (by decide), aden_sf 2 (by decide) hj, sv_long rfl] at h
      refine (Value.long.inj h).trans ?_
      show ρ.2.2.2.1 5217 (Int32.ofNat (j + 1)).toNatClampNeg = _
      rw [s_nat, Int32.toInt_ofNat_small (by omega)]
      rfl
  · have ek : ρ.1 19968 = 4 := Int32.toInt_inj.mp (by rw [hk]; rfl)
    refine AT_of (q := q_pul24) rfl rfl (SEM_runB kR_x kR_0 (Cs := []) (fun C hC => by cases hC) c_pul2_f (Q := w_pul24) hv 300 (b1 := false) (b2 := true) k_pul24 k1 ⟨k2.1, fun f hf => by rw [List.mem_singleton.mp hf]; exact decide_eq_true ek⟩ (fun c hc => by cases hc) k4 (fun p hp ρ3 m1 m2 m3 m4 m5 m6 => ?_))
    rw [List.mem_singleton.mp hp] at m2 m3 m5 m6 ⊢
    have sV : ρ3.1 60000 = ρ.2.2.1 19808 0 := (((m4.1 60000 (by decide) (by decide)).1).trans ((k4.1 60000 (by decide) (by decide)).1).symm).trans hV.symm
    have y1 : ρ3.1 19264 = hd5 (ρ.2.2.1 19808 0) := congrArg Prod.fst (m5 (19264, .op2 .iushr (.elem (.arg 19808) (.int 0)) (.int 5)) (List.mem_cons_self))
    have y2 : ρ3.1 5282 = hd4 (ρ.2.2.1 19808 0) := congrArg Prod.fst (m5 (5282, .op2 .iand (.op2 .iushr (.elem (.arg 19808) (.int 0)) (.int 4)) (.int 1)) (List.mem_cons_of_mem _ (List.mem_cons_self)))
    have y3 : ρ3.1 19296 = hdl (ρ.2.2.1 19808 0) := congrArg Prod.fst (m5 (19296, .op2 .iand (.elem (.arg 19808) (.int 0)) (.int 15)) (List.mem_cons_of_mem _ (List.mem_cons_of_mem _ (List.mem_cons_self))))
    refine fin 3 ρ3 hk (by decide) m1 m2.1 m4 (decide_eq_true (show ρ3.1 19264 = hd5 (ρ3.1 60000) by rw [y1, sV])) (decide_eq_true (show ρ3.1 5282 = hd4 (ρ3.1 60000) by rw [y2, sV])) (decide_eq_true (show ρ3.1 19296 = hdl (ρ3.1 60000) by rw [y3, sV])) (congrArg Prod.snd (m5 (5121, .elem (.arg 5217) (.int 0)) (List.mem_cons_of_mem _ (List.mem_cons_of_mem _ (List.mem_cons_of_mem _ (List.mem_cons_self)))))) (congrArg Prod.fst (m5 (19968, .sub (.arg 19968) (.int 1)) (List.mem_cons_of_mem _ (List.mem_cons_of_mem _ (List.mem_cons_of_mem _ (List.mem_cons_of_mem _ (List.mem_cons_self))))))) (fun j hj => ?_) (fun j hj => ?_)
    · have h := m6 (19808, .arg 19808, (List.range 3).reverse.map (fun k => (Jvm.Term.int (Int32.ofNat k), Jvm.Term.elem (.arg 19808) (.int (Int32.ofNat (k + 1)))))) (List.mem_cons_self) j
      rw [bd_ev (by decide), aden_sf 3 (by decide) hj, sv_int rfl] at h
      refine (Value.int.inj h).trans ?_
      show ρ.2.2.1 19808 (Int32.ofNat (j + 1)).toNatClampNeg = _
      rw [s_nat, Int32.toInt_ofNat_small (by omega)]
      rfl
    · have h := m6 (5217, .arg 5217, (List.range 3).reverse.map (fun k => (Jvm.Term.int (Int32.ofNat k), Jvm.Term.elem (.arg 5217) (.int (Int32.ofNat (k + 1)))))) (List.mem_cons_of_mem _ List.mem_cons_self) j
      rw [bd_od (by decide), aden_sf 3 (by decide) hj, sv_long rfl] at h
      refine (Value.long.inj h).trans ?_
      show ρ.2.2.2.1 5217 (Int32.ofNat (j + 1)).toNatClampNeg = _
      rw [s_nat, Int32.toInt_ofNat_small (by omega)]
      rfl
  · have ek : ρ.1 19968 = 5 := Int32.toInt_inj.mp (by rw [hk]; rfl)
    refine AT_of (q := q_pul25) rfl rfl (SEM_runB kR_x kR_0 (Cs := []) (fun C hC => by cases hC) c_pul2_f (Q := w_pul25) hv 360 (b1 := false) (b2 := true) k_pul25 k1 ⟨k2.1, fun f hf => by rw [List.mem_singleton.mp hf]; exact decide_eq_true ek⟩ (fun c hc => by cases hc) k4 (fun p hp ρ3 m1 m2 m3 m4 m5 m6 => ?_))
    rw [List.mem_singleton.mp hp] at m2 m3 m5 m6 ⊢
    have sV : ρ3.1 60000 = ρ.2.2.1 19808 0 := (((m4.1 60000 (by decide) (by decide)).1).trans ((k4.1 60000 (by decide) (by decide)).1).symm).trans hV.symm
    have y1 : ρ3.1 19264 = hd5 (ρ.2.2.1 19808 0) := congrArg Prod.fst (m5 (19264, .op2 .iushr (.elem (.arg 19808) (.int 0)) (.int 5)) (List.mem_cons_self))
    have y2 : ρ3.1 5282 = hd4 (ρ.2.2.1 19808 0) := congrArg Prod.fst (m5 (5282, .op2 .iand (.op2 .iushr (.elem (.arg 19808) (.int 0)) (.int 4)) (.int 1)) (List.mem_cons_of_mem _ (List.mem_cons_self)))
    have y3 : ρ3.1 19296 = hdl (ρ.2.2.1 19808 0) := congrArg Prod.fst (m5 (19296, .op2 .iand (.elem (.arg 19808) (.int 0)) (.int 15)) (List.mem_cons_of_mem _ (List.mem_cons_of_mem _ (List.mem_cons_self))))
    refine fin 4 ρ3 hk (by decide) m1 m2.1 m4 (decide_eq_true (show ρ3.1 19264 = hd5 (ρ3.1 60000) by rw [y1, sV])) (decide_eq_true (show ρ3.1 5282 = hd4 (ρ3.1 60000) by rw [y2, sV])) (decide_eq_true (show ρ3.1 19296 = hdl (ρ3.1 60000) by rw [y3, sV])) (congrArg Prod.snd (m5 (5121, .elem (.arg 5217) (.int 0)) (List.mem_cons_of_mem _ (List.mem_cons_of_mem _ (List.mem_cons_of_mem _ (List.mem_cons_self)))))) (congrArg Prod.fst (m5 (19968, .sub (.arg 19968) (.int 1)) (List.mem_cons_of_mem _ (List.mem_cons_of_mem _ (List.mem_cons_of_mem _ (List.mem_cons_of_mem _ (List.mem_cons_self))))))) (fun j hj => ?_) (fun j hj => ?_)
    · have h := m6 (19808, .arg 19808, (List.range 4).reverse.map (fun k => (Jvm.Term.int (Int32.ofNat k), Jvm.Term.elem (.arg 19808) (.int (Int32.ofNat (k + 1)))))) (List.mem_cons_self) j
      rw [bd_ev (by decide), aden_sf 4 (by decide) hj, sv_int rfl] at h
      refine (Value.int.inj h).trans ?_
      show ρ.2.2.1 19808 (Int32.ofNat (j + 1)).toNatClampNeg = _
      rw [s_nat, Int32.toInt_ofNat_small (by omega)]
      rfl
    · have h := m6 (5217, .arg 5217, (List.range 4).reverse.map (fun k => (Jvm.Term.int (Int32.ofNat k), Jvm.Term.elem (.arg 5217) (.int (Int32.ofNat (k + 1)))))) (List.mem_cons_of_mem _ List.mem_cons_self) j
      rw [bd_od (by decide), aden_sf 4 (by decide) hj, sv_long rfl] at h
      refine (Value.long.inj h).trans ?_
      show ρ.2.2.2.1 5217 (Int32.ofNat (j + 1)).toNatClampNeg = _
      rw [s_nat, Int32.toInt_ofNat_small (by omega)]
      rfl
  · have ek : ρ.1 19968 = 6 := Int32.toInt_inj.mp (by rw [hk]; rfl)
    refine AT_of (q := q_pul26) rfl rfl (SEM_runB kR_x kR_0 (Cs := []) (fun C hC => by cases hC) c_pul2_f (Q := w_pul26) hv 420 (b1 := false) (b2 := true) k_pul26 k1 ⟨k2.1, fun f hf => by rw [List.mem_singleton.mp hf]; exact decide_eq_true ek⟩ (fun c hc => by cases hc) k4 (fun p hp ρ3 m1 m2 m3 m4 m5 m6 => ?_))
    rw [List.mem_singleton.mp hp] at m2 m3 m5 m6 ⊢
    have sV : ρ3.1 60000 = ρ.2.2.1 19808 0 := (((m4.1 60000 (by decide) (by decide)).1).trans ((k4.1 60000 (by decide) (by decide)).1).symm).trans hV.symm
    have y1 : ρ3.1 19264 = hd5 (ρ.2.2.1 19808 0) := congrArg Prod.fst (m5 (19264, .op2 .iushr (.elem (.arg 19808) (.int 0)) (.int 5)) (List.mem_cons_self))
    have y2 : ρ3.1 5282 = hd4 (ρ.2.2.1 19808 0) := congrArg Prod.fst (m5 (5282, .op2 .iand (.op2 .iushr (.elem (.arg 19808) (.int 0)) (.int 4)) (.int 1)) (List.mem_cons_of_mem _ (List.mem_cons_self)))
    have y3 : ρ3.1 19296 = hdl (ρ.2.2.1 19808 0) := congrArg Prod.fst (m5 (19296, .op2 .iand (.elem (.arg 19808) (.int 0)) (.int 15)) (List.mem_cons_of_mem _ (List.mem_cons_of_mem _ (List.mem_cons_self))))
    refine fin 5 ρ3 hk (by decide) m1 m2.1 m4 (decide_eq_true (show ρ3.1 19264 = hd5 (ρ3.1 60000) by rw [y1, sV])) (decide_eq_true (show ρ3.1 5282 = hd4 (ρ3.1 60000) by rw [y2, sV])) (decide_eq_true (show ρ3.1 19296 = hdl (ρ3.1 60000) by rw [y3, sV])) (congrArg Prod.snd (m5 (5121, .elem (.arg 5217) (.int 0)) (List.mem_cons_of_mem _ (List.mem_cons_of_mem _ (List.mem_cons_of_mem _ (List.mem_cons_self)))))) (congrArg Prod.fst (m5 (19968, .sub (.arg 19968) (.int 1)) (List.mem_cons_of_mem _ (List.mem_cons_of_mem _ (List.mem_cons_of_mem _ (List.mem_cons_of_mem _ (List.mem_cons_self))))))) (fun j hj => ?_) (fun j hj => ?_)
    · have h := m6 (19808, .arg 19808, (List.range 5).reverse.map (fun k => (Jvm.Term.int (Int32.ofNat k), Jvm.Term.elem (.arg 19808) (.int (Int32.ofNat (k + 1)))))) (List.mem_cons_self) j
      rw [bd_ev (by decide), aden_sf 5 (by decide) hj, sv_int rfl] at h
      refine (Value.int.inj h).trans ?_
      show ρ.2.2.1 19808 (Int32.ofNat (j + 1)).toNatClampNeg = _
      rw [s_nat, Int32.toInt_ofNat_small (by omega)]
      rfl
    · have h := m6 (5217, .arg 5217, (List.range 5).reverse.map (fun k => (Jvm.Term.int (Int32.ofNat k), Jvm.Term.elem (.arg 5217) (.int (Int32.ofNat (k + 1)))))) (List.mem_cons_of_mem _ List.mem_cons_self) j
      rw [bd_od (by decide), aden_sf 5 (by decide) hj, sv_long rfl] at h
      refine (Value.long.inj h).trans ?_
      show ρ.2.2.2.1 5217 (Int32.ofNat (j + 1)).toNatClampNeg = _
      rw [s_nat, Int32.toInt_ofNat_small (by omega)]
      rfl
  · have ek : ρ.1 19968 = 7 := Int32.toInt_inj.mp (by rw [hk]; rfl)
    refine AT_of (q := q_pul27) rfl rfl (SEM_runB kR_x kR_0 (Cs := []) (fun C hC => by cases hC) c_pul2_f (Q := w_pul27) hv 480 (b1 := false) (b2 := true) k_pul27 k1 ⟨k2.1, fun f hf => by rw [List.mem_singleton.mp hf]; exact decide_eq_true ek⟩ (fun c hc => by cases hc) k4 (fun p hp ρ3 m1 m2 m3 m4 m5 m6 => ?_))
    rw [List.mem_singleton.mp hp] at m2 m3 m5 m6 ⊢
    have sV : ρ3.1 60000 = ρ.2.2.1 19808 0 := (((m4.1 60000 (by decide) (by decide)).1).trans ((k4.1 60000 (by decide) (by decide)).1).symm).trans hV.symm
    have y1 : ρ3.1 19264 = hd5 (ρ.2.2.1 19808 0) := congrArg Prod.fst (m5 (19264, .op2 .iushr (.elem (.arg 19808) (.int 0)) (.int 5)) (List.mem_cons_self))
    have y2 : ρ3.1 5282 = hd4 (ρ.2.2.1 19808 0) := congrArg Prod.fst (m5 (5282, .op2 .iand (.op2 .iushr (.elem (.arg 19808) (.int 0)) (.int 4)) (.int 1)) (List.mem_cons_of_mem _ (List.mem_cons_self)))
    have y3 : ρ3.1 19296 = hdl (ρ.2.2.1 19808 0) := congrArg Prod.fst (m5 (19296, .op2 .iand (.elem (.arg 19808) (.int 0)) (.int 15)) (List.mem_cons_of_mem _ (List.mem_cons_of_mem _ (List.mem_cons_self))))
    refine fin 6 ρ3 hk (by decide) m1 m2.1 m4 (decide_eq_true (show ρ3.1 19264 = hd5 (ρ3.1 60000) by rw [y1, sV])) (decide_eq_true (show ρ3.1 5282 = hd4 (ρ3.1 60000) by rw [y2, sV])) (decide_eq_true (show ρ3.1 19296 = hdl (ρ3.1 60000) by rw [y3, sV])) (congrArg Prod.snd (m5 (5121, .elem (.arg 5217) (.int 0)) (List.mem_cons_of_mem _ (List.mem_cons_of_mem _ (List.mem_cons_of_mem _ (List.mem_cons_self)))))) (congrArg Prod.fst (m5 (19968, .sub (.arg 19968) (.int 1)) (List.mem_cons_of_mem _ (List.mem_cons_of_mem _ (List.mem_cons_of_mem _ (List.mem_cons_of_mem _ (List.mem_cons_self))))))) (fun j hj => ?_) (fun j hj => ?_)
    · have h := m6 (19808, .arg 19808, (List.range 6).reverse.map (fun k => (Jvm.Term.int (Int32.ofNat k), Jvm.Term.elem (.arg 19808) (.int (Int32.ofNat (k + 1)))))) (List.mem_cons_self) j
      rw [bd_ev (by decide), aden_sf 6 (by decide) hj, sv_int rfl] at h
      refine (Value.int.inj h).trans ?_
      show ρ.2.2.1 19808 (Int32.ofNat (j + 1)).toNatClampNeg = _
      rw [s_nat, Int32.toInt_ofNat_small (by omega)]
      rfl
    · have h := m6 (5217, .arg 5217, (List.range 6).reverse.map (fun k => (Jvm.Term.int (Int32.ofNat k), Jvm.Term.elem (.arg 5217) (.int (Int32.ofNat (k + 1)))))) (List.mem_cons_of_mem _ List.mem_cons_self) j
      rw [bd_od (by decide), aden_sf 6 (by decide) hj, sv_long rfl] at h
      refine (Value.long.inj h).trans ?_
      show ρ.2.2.2.1 5217 (Int32.ofNat (j + 1)).toNatClampNeg = _
      rw [s_nat, Int32.toInt_ofNat_small (by omega)]
      rfl
  · have ek : ρ.1 19968 = 8 := Int32.toInt_inj.mp (by rw [hk]; rfl)
    refine AT_of (q := q_pul28) rfl rfl (SEM_runB kR_x kR_0 (Cs := []) (fun C hC => by cases hC) c_pul2_f (Q := w_pul28) hv 540 (b1 := false) (b2 := true) k_pul28 k1 ⟨k2.1, fun f hf => by rw [List.mem_singleton.mp hf]; exact decide_eq_true ek⟩ (fun c hc => by cases hc) k4 (fun p hp ρ3 m1 m2 m3 m4 m5 m6 => ?_))
    rw [List.mem_singleton.mp hp] at m2 m3 m5 m6 ⊢
    have sV : ρ3.1 60000 = ρ.2.2.1 19808 0 := (((m4.1 60000 (by decide) (by decide)).1).trans ((k4.1 60000 (by decide) (by decide)).1).symm).trans hV.symm
    have y1 : ρ3.1 19264 = hd5 (ρ.2.2.1 19808 0) := congrArg Prod.fst (m5 (19264, .op2 .iushr (.elem (.arg 19808) (.int 0)) (.int 5)) (List.mem_cons_self))
    have y2 : ρ3.1 5282 = hd4 (ρ.2.2.1 19808 0) := congrArg Prod.fst (m5 (5282, .op2 .iand (.op2 .iushr (.elem (.arg 19808) (.int 0)) (.int 4)) (.int 1)) (List.mem_cons_of_mem _ (List.mem_cons_self)))
    have y3 : ρ3.1 19296 = hdl (ρ.2.2.1 19808 0) := congrArg Prod.fst (m5 (19296, .op2 .iand (.elem (.arg 19808) (.int 0)) (.int 15)) (List.mem_cons_of_mem _ (List.mem_cons_of_mem _ (List.mem_cons_self))))
    refine fin 7 ρ3 hk (by decide) m1 m2.1 m4 (decide_eq_true (show ρ3.1 19264 = hd5 (ρ3.1 60000) by rw [y1, sV])) (decide_eq_true (show ρ3.1 5282 = hd4 (ρ3.1 60000) by rw [y2, sV])) (decide_eq_true (show ρ3.1 19296 = hdl (ρ3.1 60000) by rw [y3, sV])) (congrArg Prod.snd (m5 (5121, .elem (.arg 5217) (.int 0)) (List.mem_cons_of_mem _ (List.mem_cons_of_mem _ (List.mem_cons_of_mem _ (List.mem_cons_self)))))) (congrArg Prod.fst (m5 (19968, .sub (.arg 19968) (.int 1)) (List.mem_cons_of_mem _ (List.mem_cons_of_mem _ (List.mem_cons_of_mem _ (List.mem_cons_of_mem _ (List.mem_cons_self))))))) (fun j hj => ?_) (fun j hj => ?_)
    · have h := m6 (19808, .arg 19808, (List.range 7).reverse.map (fun k => (Jvm.Term.int (Int32.ofNat k), Jvm.Term.elem (.arg 19808) (.int (Int32.ofNat (k + 1)))))) (List.mem_cons_self) j
      rw [bd_ev (by decide), aden_sf 7 (by decide) hj, sv_int rfl] at h
      refine (Value.int.inj h).trans ?_
      show ρ.2.2.1 19808 (Int32.ofNat (j + 1)).toNatClampNeg = _
      rw [s_nat, Int32.toInt_ofNat_small (by omega)]
      rfl
    · have h := m6 (5217, .arg 5217, (List.range 7).reverse.map (fun k => (Jvm.Term.int (Int32.ofNat k), Jvm.Term.elem (.arg 5217) (.int (Int32.ofNat (k + 1)))))) (List.mem_cons_of_mem _ List.mem_cons_self) j
      rw [bd_od (by decide), aden_sf 7 (by decide) hj, sv_long rfl] at h
      refine (Value.long.inj h).trans ?_
      show ρ.2.2.2.1 5217 (Int32.ofNat (j + 1)).toNatClampNeg = _
      rw [s_nat, Int32.toInt_ofNat_small (by omega)]
      rfl
theorem s_pul2 {X : pX} : SREL X pF pdfl mt_all kR zWP c_pul2 := SREL_cut kR_x kR_0 (Cs := []) (fun C hC => by cases hC) (d := 1) rfl c_pul2_f (Q := [q_pul20]) (fun ρ0 hv q hq => by rw [List.mem_singleton.mp hq]; exact t_pul20 hv) 20 e_pul2
/-! ===== a frame off the in row of drive 3: pull ===== -/
noncomputable def c_pul3 : sC := ((425, 253, 2), ([.long 0], [tr 219, .int 3]), ([], [219, 242, 243, 244, 245, 246]), [((0, .elem (.arg 19840) (.int 0), .arg 60000), true), ((6, .elem (.arg 5249) (.int 0), .arg 60033), true), ((0, .arg 20000, .arg 60064), true), ((2, .int 0, .arg 20000), true), ((2, .arg 20000, .int 0), false), ((2, .int 8, .arg 20000), false), ((2, .arg 1824, .int 0), false), ((2, .int 8, .arg 1824), false), ((2, .arg 1824, .arg 20000), false), ((106, .add (.sub (.arg 1824) (.arg 20000)) (.add (.elem (.arg 1664) (.int 0)) (.elem (.arg 19840) (.int 0))), .arg 20000), true), ((107, .add (.sub (.arg 1824) (.arg 20000)) (.add (.elem (.arg 1537) (.int 0)) (.elem (.arg 5249) (.int 0))), .arg 20000), true)], ([19264, 5282, 19296, 5121, 20000], [19840, 5249]), (some (.long 0), none), [((0, .arg 19264, .op2 .iushr (.arg 60000) (.int 5)), true), ((0, .arg 5282, .op2 .iand (.op2 .iushr (.arg 60000) (.int 4)) (.int 1)), true), ((0, .arg 19296, .op2 .iand (.arg 60000) (.int 15)), true), ((6, .arg 5121, .arg 60033), true), ((0, .arg 20000, .sub (.arg 60064) (.int 1)), true), ((2, .arg 20000, .int 0), false), ((2, .int 8, .arg 20000), false), ((2, .arg 1824, .int 0), false), ((2, .int 8, .arg 1824), false), ((2, .arg 1824, .arg 20000), false), ((106, .add (.sub (.arg 1824) (.arg 20000)) (.add (.elem (.arg 1664) (.int 0)) (.elem (.arg 19840) (.int 0))), .arg 20000), true), ((107, .add (.sub (.arg 1824) (.arg 20000)) (.add (.elem (.arg 1537) (.int 0)) (.elem (.arg 5249) (.int 0))), .arg 20000), true)], ([], []))
theorem c_pul3_f : cfine zWP 65536 c_pul3 = true := by decide +kernel
noncomputable def zf98zzp_25 : sQ × Bool := ((2, .arg 20000, .int 0), false)
noncomputable def zf98zzp_26 : sQ × Bool := ((2, .int 8, .arg 20000), false)
noncomputable def zf98zzp_27 : sQ × Bool := ((2, .arg 1824, .int 0), false)
noncomputable def zf98zzp_28 : sQ × Bool := ((2, .int 8, .arg 1824), false)
noncomputable def zf98zzp_29 : sQ × Bool := ((2, .arg 1824, .arg 20000), false)
noncomputable def zf98zzp_30 : sQ × Bool := ((106, .add (.sub (.arg 1824) (.arg 20000)) (.add (.elem (.arg 1664) (.int 0)) (.elem (.arg 19840) (.int 0))), .arg 20000), true)
noncomputable def zf98zzp_31 : sQ × Bool := ((107, .add (.sub (.arg 1824) (.arg 20000)) (.add (.elem (.arg 1537) (.int 0)) (.elem (.arg 5249) (.int 0))), .arg 20000), true)
noncomputable def q_pul30 : sCut := ((fr 0 425 0 [(0, .long 0)] [], [fBot], 1), (fr 0 253 0 [(0, tr 219), (1, .int 3)] [], [fBot], 1), [((0, .elem (.arg 19840) (.int 0), .arg 60000), true), ((6, .elem (.arg 5249) (.int 0), .arg 60033), true), ((0, .arg 20000, .arg 60064), true), ((2, .int 0, .arg 20000), true), zf98zzp_25, zf98zzp_26, zf98zzp_27, zf98zzp_28, zf98zzp_29, zf98zzp_30, zf98zzp_31], [])
noncomputable def q_pul3e : sCut := ((fr 0 425 0 [(0, .long 0)] [], [fBot], 1), (fr 0 253 88 [(0, tr 219)] [], [fBot], 1), [], [])
noncomputable def q_pul3n : sCut := ((fr 0 425 0 [(0, .long 0)] [], [fBot], 1), (fr 0 253 88 [(0, tr 219)] [], [fBot], 1), [zf98zzp_7, zf98zzp_8, zf98zzp_9, zf98zzp_10, ((0, .arg 20000, .sub (.arg 60064) (.int 1)), true), zf98zzp_25, zf98zzp_26, zf98zzp_27, zf98zzp_28, zf98zzp_29, zf98zzp_30, zf98zzp_31], [])
noncomputable def q_pul31 : sCut := ((fr 0 425 0 [(0, .long 0)] [], [fBot], 1), (fr 0 253 0 [(0, tr 219), (1, .int 3)] [], [fBot], 1), [((0, .arg 20000, .int 1), true)], [])
noncomputable def w_pul31 : List (sCut × List (Nat × sT) × List (Nat × sT × List (sT × sT))) := [(q_pul3e, [(19264, .op2 .iushr (.elem (.arg 19840) (.int 0)) (.int 5)), (5282, .op2 .iand (.op2 .iushr (.elem (.arg 19840) (.int 0)) (.int 4)) (.int 1)), (19296, .op2 .iand (.elem (.arg 19840) (.int 0)) (.int 15)), (5121, .elem (.arg 5249) (.int 0)), (20000, .sub (.arg 20000) (.int 1))], [(19840, .arg 19840, (List.range 0).reverse.map (fun k => (Jvm.Term.int (Int32.ofNat k), Jvm.Term.elem (.arg 19840) (.int (Int32.ofNat (k + 1)))))), (5249, .arg 5249, (List.range 0).reverse.map (fun k => (Jvm.Term.int (Int32.ofNat k), Jvm.Term.elem (.arg 5249) (.int (Int32.ofNat (k + 1))))))])]
theorem k_pul31 : cbody kR [] (cpl1 zWP c_pul3 [q_pul3e]) (cpl2 zWP c_pul3 [q_pul3e]) (cleafB kR zWP c_pul3 w_pul31) 120 false true q_pul31.2.2.1 q_pul31.2.2.2 (cst zWP c_pul3.2.2.1.1 q_pul31.1) (cst zWP c_pul3.2.2.1.2 q_pul31.2.1) = true := by decide +kernel
noncomputable def q_pul32 : sCut := ((fr 0 425 0 [(0, .long 0)] [], [fBot], 1), (fr 0 253 0 [(0, tr 219), (1, .int 3)] [], [fBot], 1), [((0, .arg 20000, .int 2), true)], [])
noncomputable def w_pul32 : List (sCut × List (Nat × sT) × List (Nat × sT × List (sT × sT))) := [(q_pul3e, [(19264, .op2 .iushr (.elem (.arg 19840) (.int 0)) (.int 5)), (5282, .op2 .iand (.op2 .iushr (.elem (.arg 19840) (.int 0)) (.int 4)) (.int 1)), (19296, .op2 .iand (.elem (.arg 19840) (.int 0)) (.int 15)), (5121, .elem (.arg 5249) (.int 0)), (20000, .sub (.arg 20000) (.int 1))], [(19840, .arg 19840, (List.range 1).reverse.map (fun k => (Jvm.Term.int (Int32.ofNat k), Jvm.Term.elem (.arg 19840) (.int (Int32.ofNat (k + 1)))))), (5249, .arg 5249, (List.range 1).reverse.map (fun k => (Jvm.Term.int (Int32.ofNat k), Jvm.Term.elem (.arg 5249) (.int (Int32.ofNat (k + 1))))))])]
theorem k_pul32 : cbody kR [] (cpl1 zWP c_pul3 [q_pul3e]) (cpl2 zWP c_pul3 [q_pul3e]) (cleafB kR zWP c_pul3 w_pul32) 180 false true q_pul32.2.2.1 q_pul32.2.2.2 (cst zWP c_pul3.2.2.1.1 q_pul32.1) (cst zWP c_pul3.2.2.1.2 q_pul32.2.1) = true := by decide +kernel
noncomputable def q_pul33 : sCut := ((fr 0 425 0 [(0, .long 0)] [], [fBot], 1), (fr 0 253 0 [(0, tr 219), (1, .int 3)] [], [fBot], 1), [((0, .arg 20000, .int 3), true)], [])
noncomputable def w_pul33 : List (sCut × List (Nat × sT) × List (Nat × sT × List (sT × sT))) := [(q_pul3e, [(19264, .op2 .iushr (.elem (.arg 19840) (.int 0)) (.int 5)), (5282, .op2 .iand (.op2 .iushr (.elem (.arg 19840) (.int 0)) (.int 4)) (.int 1)), (19296, .op2 .iand (.elem (.arg 19840) (.int 0)) (.int 15)), (5121, .elem (.arg 5249) (.int 0)), (20000, .sub (.arg 20000) (.int 1))], [(19840, .arg 19840, (List.range 2).reverse.map (fun k => (Jvm.Term.int (Int32.ofNat k), Jvm.Term.elem (.arg 19840) (.int (Int32.ofNat (k + 1)))))), (5249, .arg 5249, (List.range 2).reverse.map (fun k => (Jvm.Term.int (Int32.ofNat k), Jvm.Term.elem (.arg 5249) (.int (Int32.ofNat (k + 1))))))])]
theorem k_pul33 : cbody kR [] (cpl1 zWP c_pul3 [q_pul3e]) (cpl2 zWP c_pul3 [q_pul3e]) (cleafB kR zWP c_pul3 w_pul33) 240 false true q_pul33.2.2.1 q_pul33.2.2.2 (cst zWP c_pul3.2.2.1.1 q_pul33.1) (cst zWP c_pul3.2.2.1.2 q_pul33.2.1) = true := by decide +kernel
noncomputable def q_pul34 : sCut := ((fr 0 425 0 [(0, .long 0)] [], [fBot], 1), (fr 0 253 0 [(0, tr 219), (1, .int 3)] [], [fBot], 1), [((0, .arg 20000, .int 4), true)], [])
noncomputable def w_pul34 : List (sCut × List (Nat × sT) × List (Nat × sT × List (sT × sT))) := [(q_pul3e, [(19264, .op2 .iushr (.elem (.arg 19840) (.int 0)) (.int 5)), (5282, .op2 .iand (.op2 .iushr (.elem (.arg 19840) (.int 0)) (.int 4)) (.int 1)), (19296, .op2 .iand (.elem (.arg 19840) (.int 0)) (.int 15)), (5121, .elem (.arg 5249) (.int 0)), (20000, .sub (.arg 20000) (.int 1))], [(19840, .arg 19840, (List.range 3).reverse.map (fun k => (Jvm.Term.int (Int32.ofNat k), Jvm.Term.elem (.arg 19840) (.int (Int32.ofNat (k + 1)))))), (5249, .arg 5249, (List.range 3).reverse.map (fun k => (Jvm.Term.int (Int32.ofNat k), Jvm.Term.elem (.arg 5249) (.int (Int32.ofNat (k + 1))))))])]
theorem k_pul34 : cbody kR [] (cpl1 zWP c_pul3 [q_pul3e]) (cpl2 zWP c_pul3 [q_pul3e]) (cleafB kR zWP c_pul3 w_pul34) 300 false true q_pul34.2.2.1 q_pul34.2.2.2 (cst zWP c_pul3.2.2.1.1 q_pul34.1) (cst zWP c_pul3.2.2.1.2 q_pul34.2.1) = true := by decide +kernel
noncomputable def q_pul35 : sCut := ((fr 0 425 0 [(0, .long 0)] [], [fBot], 1), (fr 0 253 0 [(0, tr 219), (1, .int 3)] [], [fBot], 1), [((0, .arg 20000, .int 5), true)], [])
noncomputable def w_pul35 : List (sCut × List (Nat × sT) × List (Nat × sT × List (sT × sT))) := [(q_pul3e, [(19264, .op2 .iushr (.elem (.arg 19840) (.int 0)) (.int 5)), (5282, .op2 .iand (.op2 .iushr (.elem (.arg 19840) (.int 0)) (.int 4)) (.int 1)), (19296, .op2 .iand (.elem (.arg 19840) (.int 0)) (.int 15)), (5121, .elem (.arg 5249) (.int 0)), (20000, .sub (.arg 20000) (.int 1))], [(19840, .arg 19840, (List.range 4).reverse.map (fun k => (Jvm.Term.int (Int32.ofNat k), Jvm.Term.elem (.arg 19840) (.int (Int32.ofNat (k + 1)))))), (5249, .arg 5249, (List.range 4).reverse.map (fun k => (Jvm.Term.int (Int32.ofNat k), Jvm.Term.elem (.arg 5249) (.int (Int32.ofNat (k + 1))))))])]
theorem k_pul35 : cbody kR [] (cpl1 zWP c_pul3 [q_pul3e]) (cpl2 zWP c_pul3 [q_pul3e]) (cleafB kR zWP c_pul3 w_pul35) 360 false true q_pul35.2.2.1 q_pul35.2.2.2 (cst zWP c_pul3.2.2.1.1 q_pul35.1) (cst zWP c_pul3.2.2.1.2 q_pul35.2.1) = true := by decide +kernel
noncomputable def q_pul36 : sCut := ((fr 0 425 0 [(0, .long 0)] [], [fBot], 1), (fr 0 253 0 [(0, tr 219), (1, .int 3)] [], [fBot], 1), [((0, .arg 20000, .int 6), true)], [])
noncomputable def w_pul36 : List (sCut × List (Nat × sT) × List (Nat × sT × List (sT × sT))) := [(q_pul3e, [(19264, .op2 .iushr (.elem (.arg 19840) (.int 0)) (.int 5)), (5282, .op2 .iand (.op2 .iushr (.elem (.arg 19840) (.int 0)) (.int 4)) (.int 1)), (19296, .op2 .iand (.elem (.arg 19840) (.int 0)) (.int 15)), (5121, .elem (.arg 5249) (.int 0)), (20000, .sub (.arg 20000) (.int 1))], [(19840, .arg 19840, (List.range 5).reverse.map (fun k => (Jvm.Term.int (Int32.ofNat k), Jvm.Term.elem (.arg 19840) (.int (Int32.ofNat (k + 1)))))), (5249, .arg 5249, (List.range 5).reverse.map (fun k => (Jvm.Term.int (Int32.ofNat k), Jvm.Term.elem (.arg 5249) (.int (Int32.ofNat (k + 1))))))])]
theorem k_pul36 : cbody kR [] (cpl1 zWP c_pul3 [q_pul3e]) (cpl2 zWP c_pul3 [q_pul3e]) (cleafB kR zWP c_pul3 w_pul36) 420 false true q_pul36.2.2.1 q_pul36.2.2.2 (cst zWP c_pul3.2.2.1.1 q_pul36.1) (cst zWP c_pul3.2.2.1.2 q_pul36.2.1) = true := by decide +kernel
noncomputable def q_pul37 : sCut := ((fr 0 425 0 [(0, .long 0)] [], [fBot], 1), (fr 0 253 0 [(0, tr 219), (1, .int 3)] [], [fBot], 1), [((0, .arg 20000, .int 7), true)], [])
noncomputable def w_pul37 : List (sCut × List (Nat × sT) × List (Nat × sT × List (sT × sT))) := [(q_pul3e, [(19264, .op2 .iushr (.elem (.arg 19840) (.int 0)) (.int 5)), (5282, .op2 .iand (.op2 .iushr (.elem (.arg 19840) (.int 0)) (.int 4)) (.int 1)), (19296, .op2 .iand (.elem (.arg 19840) (.int 0)) (.int 15)), (5121, .elem (.arg 5249) (.int 0)), (20000, .sub (.arg 20000) (.int 1))], [(19840, .arg 19840, (List.range 6).reverse.map (fun k => (Jvm.Term.int (Int32.ofNat k), Jvm.Term.elem (.arg 19840) (.int (Int32.ofNat (k + 1)))))), (5249, .arg 5249, (List.range 6).reverse.map (fun k => (Jvm.Term.int (Int32.ofNat k), Jvm.Term.elem (.arg 5249) (.int (Int32.ofNat (k + 1))))))])]
theorem k_pul37 : cbody kR [] (cpl1 zWP c_pul3 [q_pul3e]) (cpl2 zWP c_pul3 [q_pul3e]) (cleafB kR zWP c_pul3 w_pul37) 480 false true q_pul37.2.2.1 q_pul37.2.2.2 (cst zWP c_pul3.2.2.1.1 q_pul37.1) (cst zWP c_pul3.2.2.1.2 q_pul37.2.1) = true := by decide +kernel
noncomputable def q_pul38 : sCut := ((fr 0 425 0 [(0, .long 0)] [], [fBot], 1), (fr 0 253 0 [(0, tr 219), (1, .int 3)] [], [fBot], 1), [((0, .arg 20000, .int 8), true)], [])
noncomputable def w_pul38 : List (sCut × List (Nat × sT) × List (Nat × sT × List (sT × sT))) := [(q_pul3e, [(19264, .op2 .iushr (.elem (.arg 19840) (.int 0)) (.int 5)), (5282, .op2 .iand (.op2 .iushr (.elem (.arg 19840) (.int 0)) (.int 4)) (.int 1)), (19296, .op2 .iand (.elem (.arg 19840) (.int 0)) (.int 15)), (5121, .elem (.arg 5249) (.int 0)), (20000, .sub (.arg 20000) (.int 1))], [(19840, .arg 19840, (List.range 7).reverse.map (fun k => (Jvm.Term.int (Int32.ofNat k), Jvm.Term.elem (.arg 19840) (.int (Int32.ofNat (k + 1)))))), (5249, .arg 5249, (List.range 7).reverse.map (fun k => (Jvm.Term.int (Int32.ofNat k), Jvm.Term.elem (.arg 5249) (.int (Int32.ofNat (k + 1))))))])]
theorem k_pul38 : cbody kR [] (cpl1 zWP c_pul3 [q_pul3e]) (cpl2 zWP c_pul3 [q_pul3e]) (cleafB kR zWP c_pul3 w_pul38) 540 false true q_pul38.2.2.1 q_pul38.2.2.2 (cst zWP c_pul3.2.2.1.1 q_pul38.1) (cst zWP c_pul3.2.2.1.2 q_pul38.2.1) = true := by decide +kernel
theorem k_pul3n : cbody kR [] (cpl1 zWP c_pul3 []) (cpl2 zWP c_pul3 []) (cleaf kR zWP c_pul3 []) 60 true true q_pul3n.2.2.1 q_pul3n.2.2.2 (cst zWP c_pul3.2.2.1.1 q_pul3n.1) (cst zWP c_pul3.2.2.1.2 q_pul3n.2.1) = true := by decide +kernel
theorem e_pul3 : frun kR [] (cpl1 zWP c_pul3 [q_pul30]) (cpl2 zWP c_pul3 [q_pul30]) (cleaf kR zWP c_pul3 [q_pul30]) 20 65536 (isatP (c_pul3.2.2.2.1) c_pul3.2.2.2.2.2.2.2.1) c_pul3.2.2.2.2.2.2.2.1 (sin0 mt_all c_pul3.1.1 1 c_pul3.2.1.1 (foot zWP c_pul3.2.2.1.1)) (sin0 mt_all c_pul3.1.2.1 1 c_pul3.2.1.2 (foot zWP c_pul3.2.2.1.2)) = true := by decide +kernel
theorem t_pul30 {X : pX} {ρ0 : sR} (hv : vok X ρ0) : CUTOK X kR zWP c_pul3 1 ρ0 q_pul30 := by
  refine CUTOK_AT (fun ρ k1 k2 k3 k4 => ?_)
  have hV : ρ.2.2.1 19840 0 = ρ.1 60000 := of_decide_eq_true (k2.2 _ (List.mem_cons_self))
  have hVB : ρ.2.2.2.1 5249 0 = ρ.2.1 60033 := of_decide_eq_true (k2.2 _ (List.mem_cons_of_mem _ (List.mem_cons_self)))
  have hN : ρ.1 20000 = ρ.1 60064 := of_decide_eq_true (k2.2 _ (List.mem_cons_of_mem _ (List.mem_cons_of_mem _ (List.mem_cons_self))))
  have g1 : (0 : Int32) < ρ.1 20000 := of_decide_eq_true (k2.2 _ (List.mem_cons_of_mem _ (List.mem_cons_of_mem _ (List.mem_cons_of_mem _ (List.mem_cons_self)))))
  have g2 : ¬ (8 : Int32) < ρ.1 20000 := of_decide_eq_false (k2.2 _ (List.mem_cons_of_mem _ (List.mem_cons_of_mem _ (List.mem_cons_of_mem _ (List.mem_cons_of_mem _ (List.mem_cons_of_mem _ (List.mem_cons_self)))))))
  have g3 : ¬ ρ.1 1824 < 0 := of_decide_eq_false (k2.2 _ (List.mem_cons_of_mem _ (List.mem_cons_of_mem _ (List.mem_cons_of_mem _ (List.mem_cons_of_mem _ (List.mem_cons_of_mem _ (List.mem_cons_of_mem _ (List.mem_cons_self))))))))
  have g4 : ¬ (8 : Int32) < ρ.1 1824 := of_decide_eq_false (k2.2 _ (List.mem_cons_of_mem _ (List.mem_cons_of_mem _ (List.mem_cons_of_mem _ (List.mem_cons_of_mem _ (List.mem_cons_of_mem _ (List.mem_cons_of_mem _ (List.mem_cons_of_mem _ (List.mem_cons_self)))))))))
  have g5 : ¬ ρ.1 1824 < ρ.1 20000 := of_decide_eq_false (k2.2 _ (List.mem_cons_of_mem _ (List.mem_cons_of_mem _ (List.mem_cons_of_mem _ (List.mem_cons_of_mem _ (List.mem_cons_of_mem _ (List.mem_cons_of_mem _ (List.mem_cons_of_mem _ (List.mem_cons_of_mem _ (List.mem_cons_self))))))))))
  have f3 : sc X ρ (2, .arg 1824, .int 0) = false := k2.2 _ (List.mem_cons_of_mem _ (List.mem_cons_of_mem _ (List.mem_cons_of_mem _ (List.mem_cons_of_mem _ (List.mem_cons_of_mem _ (List.mem_cons_of_mem _ (List.mem_cons_self)))))))
  have f4 : sc X ρ (2, .int 8, .arg 1824) = false := k2.2 _ (List.mem_cons_of_mem _ (List.mem_cons_of_mem _ (List.mem_cons_of_mem _ (List.mem_cons_of_mem _ (List.mem_cons_of_mem _ (List.mem_cons_of_mem _ (List.mem_cons_of_mem _ (List.mem_cons_self))))))))
  have h6 : (List.range (ρ.1 20000).toInt.toNat).all (fun j => decide (ρ.2.2.1 1664 ((ρ.1 1824 - ρ.1 20000).toInt.toNat + j) = ρ.2.2.1 19840 j)) = true := k2.2 _ (List.mem_cons_of_mem _ (List.mem_cons_of_mem _ (List.mem_cons_of_mem _ (List.mem_cons_of_mem _ (List.mem_cons_of_mem _ (List.mem_cons_of_mem _ (List.mem_cons_of_mem _ (List.mem_cons_of_mem _ (List.mem_cons_of_mem _ (List.mem_cons_self))))))))))
  have h7 : (List.range (ρ.1 20000).toInt.toNat).all (fun j => decide (ρ.2.2.2.1 1537 ((ρ.1 1824 - ρ.1 20000).toInt.toNat + j) = ρ.2.2.2.1 5249 j)) = true := k2.2 _ (List.mem_cons_of_mem _ (List.mem_cons_of_mem _ (List.mem_cons_of_mem _ (List.mem_cons_of_mem _ (List.mem_cons_of_mem _ (List.mem_cons_of_mem _ (List.mem_cons_of_mem _ (List.mem_cons_of_mem _ (List.mem_cons_of_mem _ (List.mem_cons_of_mem _ (List.mem_cons_self)))))))))))
  have z0 : (0 : Int32).toInt = 0 := rfl
  have z8 : (8 : Int32).toInt = 8 := rfl
  rw [Int32.lt_iff_toInt_lt] at g1 g2 g3 g4 g5
  rw [z0] at g1 g3
  rw [z8] at g2 g4
  have ip : (ρ.1 1824 - ρ.1 20000).toInt = (ρ.1 1824).toInt - (ρ.1 20000).toInt := by
    rw [Int32.toInt_sub]
    exact Int.bmod_eq_of_le (by omega) (by omega)
  have i1 : (ρ.1 20000 - 1).toInt = (ρ.1 20000).toInt - 1 := by
    rw [Int32.toInt_sub]
    exact Int.bmod_eq_of_le (by show _ ≤ (ρ.1 20000).toInt - 1; omega) (by show (ρ.1 20000).toInt - 1 < _; omega)
  have fin : ∀ (m : Nat) (ρ3 : sR), (ρ.1 20000).toInt = m + 1 → m ≤ 7 → kok X ρ3 kR → vok X ρ3 → agrM 65536 c_pul3.2.2.2.2.1.1 c_pul3.2.2.2.2.1.2 ρ3 ρ0 → sc X ρ3 (0, .arg 19264, .op2 .iushr (.arg 60000) (.int 5)) = true → sc X ρ3 (0, .arg 5282, .op2 .iand (.op2 .iushr (.arg 60000) (.int 4)) (.int 1)) = true → sc X ρ3 (0, .arg 19296, .op2 .iand (.arg 60000) (.int 15)) = true → ρ3.2.1 5121 = ρ.2.2.2.1 5249 0 → ρ3.1 20000 = ρ.1 20000 - 1 → (∀ j, j < m → ρ3.2.2.1 19840 j = ρ.2.2.1 19840 (j + 1)) → (∀ j, j < m → ρ3.2.2.2.1 5249 j = ρ.2.2.2.1 5249 (j + 1)) → AT X zWP c_pul3 1 ρ0 ρ3 q_pul3e := by
    intro m ρ3 hm hm7 l1 l2 l4 e1 e2 e3 e4 e5 e6 e7
    have same : ∀ x, x < 65536 → x ∉ c_pul3.2.2.2.2.1.1 → ρ3.1 x = ρ.1 x ∧ ρ3.2.1 x = ρ.2.1 x := fun x h1 h2 => ⟨((l4.1 x h1 h2).1).trans ((k4.1 x h1 h2).1).symm, ((l4.1 x h1 h2).2).trans ((k4.1 x h1 h2).2).symm⟩
    have samA : ∀ x, x < 65536 → x ∉ c_pul3.2.2.2.2.1.2 → ρ3.2.2.1 x = ρ.2.2.1 x ∧ ρ3.2.2.2.1 x = ρ.2.2.2.1 x := fun x h1 h2 => ⟨((l4.2 x h1 h2).1).trans ((k4.2 x h1 h2).1).symm, ((l4.2 x h1 h2).2).trans ((k4.2 x h1 h2).2).symm⟩
    have s1 := (same 1824 (by decide) (by decide)).1
    have s2 := (same 60064 (by decide) (by decide)).1
    have s3 := (same 60033 (by decide) (by decide)).2
    have s4 := (samA 1664 (by decide) (by decide)).1
    have s5 := (samA 1537 (by decide) (by decide)).2
    have ip3 : (ρ3.1 1824 - ρ3.1 20000).toInt = (ρ.1 1824).toInt - (ρ.1 20000).toInt + 1 := by
      rw [Int32.toInt_sub, s1, e5, i1]
      rw [Int.bmod_eq_of_le (by omega) (by omega)]
      omega
    refine AT_of (q := q_pul3n) rfl rfl (CUT_run kR_x kR_0 (Cs := []) (fun C hC => by cases hC) c_pul3_f (Q := []) hv (fun q hq => by cases hq) 60 (b1 := true) (b2 := true) k_pul3n ρ3 l1 ⟨l2, ?_⟩ (fun c hc => by cases hc) l4)
    refine fcq e1 (fcq e2 (fcq e3 (fcq (decide_eq_true (show ρ3.2.1 5121 = ρ3.2.1 60033 by rw [e4, hVB, s3])) (fcq (decide_eq_true (show ρ3.1 20000 = ρ3.1 60064 - 1 by rw [e5, s2, hN])) (fcq (decide_eq_false ?_) (fcq (decide_eq_false ?_) (fcq (decide_eq_false ?_) (fcq (decide_eq_false ?_) (fcq (decide_eq_false ?_) (fcq ?_ (fcq ?_ (fun f hf => by cases hf))))))))))))
    · show ¬ ρ3.1 20000 < 0
      rw [Int32.lt_iff_toInt_lt, z0, e5, i1]; omega
    · show ¬ (8 : Int32) < ρ3.1 20000
      rw [Int32.lt_iff_toInt_lt, z8, e5, i1]; omega
    · show ¬ ρ3.1 1824 < 0
      rw [Int32.lt_iff_toInt_lt, z0, s1]; omega
    · show ¬ (8 : Int32) < ρ3.1 1824
      rw [Int32.lt_iff_toInt_lt, z8, s1]; omega
    · show ¬ ρ3.1 1824 < ρ3.1 20000
      rw [Int32.lt_iff_toInt_lt, s1, e5, i1]; omega
    · show (List.range (ρ3.1 20000).toInt.toNat).all (fun j => decide (ρ3.2.2.1 1664 ((ρ3.1 1824 - ρ3.1 20000).toInt.toNat + j) = ρ3.2.2.1 19840 j)) = true
      refine n106_of (fun j hj => ?_)
      rw [e5, i1] at hj
      rw [ip3, s4, e6 j (by omega)]
      have h := n106_get h6 (j := j + 1) (by omega)
      rw [ip] at h
      rw [show ((ρ.1 1824).toInt - (ρ.1 20000).toInt + 1).toNat + j = ((ρ.1 1824).toInt - (ρ.1 20000).toInt).toNat + (j + 1) by omega]
      exact h
    · show (List.range (ρ3.1 20000).toInt.toNat).all (fun j => decide (ρ3.2.2.2.1 1537 ((ρ3.1 1824 - ρ3.1 20000).toInt.toNat + j) = ρ3.2.2.2.1 5249 j)) = true
      refine n106_of (fun j hj => ?_)
      rw [e5, i1] at hj
      rw [ip3, s5, e7 j (by omega)]
      have h := n106_get h7 (j := j + 1) (by omega)
      rw [ip] at h
      rw [show ((ρ.1 1824).toInt - (ρ.1 20000).toInt + 1).toNat + j = ((ρ.1 1824).toInt - (ρ.1 20000).toInt).toNat + (j + 1) by omega]
      exact h
  rcases (show (ρ.1 20000).toInt = 1 ∨ (ρ.1 20000).toInt = 2 ∨ (ρ.1 20000).toInt = 3 ∨ (ρ.1 20000).toInt = 4 ∨ (ρ.1 20000).toInt = 5 ∨ (ρ.1 20000).toInt = 6 ∨ (ρ.1 20000).toInt = 7 ∨ (ρ.1 20000).toInt = 8 by omega) with hk | hk | hk | hk | hk | hk | hk | hk
  · have ek : ρ.1 20000 = 1 := Int32.toInt_inj.mp (by rw [hk]; rfl)
    refine AT_of (q := q_pul31) rfl rfl (SEM_runB kR_x kR_0 (Cs := []) (fun C hC => by cases hC) c_pul3_f (Q := w_pul31) hv 120 (b1 := false) (b2 := true) k_pul31 k1 ⟨k2.1, fun f hf => by rw [List.mem_singleton.mp hf]; exact decide_eq_true ek⟩ (fun c hc => by cases hc) k4 (fun p hp ρ3 m1 m2 m3 m4 m5 m6 => ?_))
    rw [List.mem_singleton.mp hp] at m2 m3 m5 m6 ⊢
    have sV : ρ3.1 60000 = ρ.2.2.1 19840 0 := (((m4.1 60000 (by decide) (by decide)).1).trans ((k4.1 60000 (by decide) (by decide)).1).symm).trans hV.symm
    have y1 : ρ3.1 19264 = hd5 (ρ.2.2.1 19840 0) := congrArg Prod.fst (m5 (19264, .op2 .iushr (.elem (.arg 19840) (.int 0)) (.int 5)) (List.mem_cons_self))
    have y2 : ρ3.1 5282 = hd4 (ρ.2.2.1 19840 0) := congrArg Prod.fst (m5 (5282, .op2 .iand (.op2 .iushr (.elem (.arg 19840) (.int 0)) (.int 4)) (.int 1)) (List.mem_cons_of_mem _ (List.mem_cons_self)))
    have y3 : ρ3.1 19296 = hdl (ρ.2.2.1 19840 0) := congrArg Prod.fst (m5 (19296, .op2 .iand (.elem (.arg 19840) (.int 0)) (.int 15)) (List.mem_cons_of_mem _ (List.mem_cons_of_mem _ (List.mem_cons_self))))
    refine fin 0 ρ3 hk (by decide) m1 m2.1 m4 (decide_eq_true (show ρ3.1 19264 = hd5 (ρ3.1 60000) by rw [y1, sV])) (decide_eq_true (show ρ3.1 5282 = hd4 (ρ3.1 60000) by rw [y2, sV])) (decide_eq_true (show ρ3.1 19296 = hdl (ρ3.1 60000) by rw [y3, sV])) (congrArg Prod.snd (m5 (5121, .elem (.arg 5249) (.int 0)) (List.mem_cons_of_mem _ (List.mem_cons_of_mem _ (List.mem_cons_of_mem _ (List.mem_cons_self)))))) (congrArg Prod.fst (m5 (20000, .sub (.arg 20000) (.int 1)) (List.mem_cons_of_mem _ (List.mem_cons_of_mem _ (List.mem_cons_of_mem _ (List.mem_cons_of_mem _ (List.mem_cons_self))))))) (fun j hj => ?_) (fun j hj => ?_)
    · have h := m6 (19840, .arg 19840, (List.range 0).reverse.map (fun k => (Jvm.Term.int (Int32.ofNat k), Jvm.Term.elem (.arg 19840) (.int (Int32.ofNat (k + 1)))))) (List.mem_cons_self) j
      rw [bd_ev (by decide), aden_sf 0 (by decide) hj, sv_int rfl] at h
      refine (Value.int.inj h).trans ?_
      show ρ.2.2.1 19840 (Int32.ofNat (j + 1)).toNatClampNeg = _
      rw [s_nat, Int32.toInt_ofNat_small (by omega)]
      rfl
    · have h := m6 (5249, .arg 5249, (List.range 0).reverse.map (fun k => (Jvm.Term.int (Int32.ofNat k), Jvm.Term.elem (.arg 5249) (.int (Int32.ofNat (k + 1)))))) (List.mem_cons_of_mem _ List.mem_cons_self) j
      rw [bd_od (by decide), aden_sf 0 (by decide) hj, sv_long rfl] at h
      refine (Value.long.inj h).trans ?_
      show ρ.2.2.2.1 5249 (Int32.ofNat (j + 1)).toNatClampNeg = _
      rw [s_nat, Int32.toInt_ofNat_small (by omega)]
      rfl
  · have ek : ρ.1 20000 = 2 := Int32.toInt_inj.mp (by rw [hk]; rfl)
    refine AT_of (q := q_pul32) rfl rfl (SEM_runB kR_x kR_0 (Cs := []) (fun C hC => by cases hC) c_pul3_f (Q := w_pul32) hv 180 (b1 := false) (b2 := true) k_pul32 k1 ⟨k2.1, fun f hf => by rw [List.mem_singleton.mp hf]; exact decide_eq_true ek⟩ (fun c hc => by cases hc) k4 (fun p hp ρ3 m1 m2 m3 m4 m5 m6 => ?_))
    rw [List.mem_singleton.mp hp] at m2 m3 m5 m6 ⊢
    have sV : ρ3.1 60000 = ρ.2.2.1 19840 0 := (((m4.1 60000 (by decide) (by decide)).1).trans ((k4.1 60000 (by decide) (by decide)).1).symm).trans hV.symm
    have y1 : ρ3.1 19264 = hd5 (ρ.2.2.1 19840 0) := congrArg Prod.fst (m5 (19264, .op2 .iushr (.elem (.arg 19840) (.int 0)) (.int 5)) (List.mem_cons_self))
    have y2 : ρ3.1 5282 = hd4 (ρ.2.2.1 19840 0) := congrArg Prod.fst (m5 (5282, .op2 .iand (.op2 .iushr (.elem (.arg 19840) (.int 0)) (.int 4)) (.int 1)) (List.mem_cons_of_mem _ (List.mem_cons_self)))
    have y3 : ρ3.1 19296 = hdl (ρ.2.2.1 19840 0) := congrArg Prod.fst (m5 (19296, .op2 .iand (.elem (.arg 19840) (.int 0)) (.int 15)) (List.mem_cons_of_mem _ (List.mem_cons_of_mem _ (List.mem_cons_self))))
    refine fin 1 ρ3 hk (by decide) m1 m2.1 m4 (decide_eq_true (show ρ3.1 19264 = hd5 (ρ3.1 60000) by rw [y1, sV])) (decide_eq_true (show ρ3.1 5282 = hd4 (ρ3.1 60000) by rw [y2, sV])) (decide_eq_true (show ρ3.1 19296 = hdl (ρ3.1 60000) by rw [y3, sV])) (congrArg Prod.snd (m5 (5121, .elem (.arg 5249) (.int 0)) (List.mem_cons_of_mem _ (List.mem_cons_of_mem _ (List.mem_cons_of_mem _ (List.mem_cons_self)))))) (congrArg Prod.fst (m5 (20000, .sub (.arg 20000) (.int 1)) (List.mem_cons_of_mem _ (List.mem_cons_of_mem _ (List.mem_cons_of_mem _ (List.mem_cons_of_mem _ (List.mem_cons_self))))))) (fun j hj => ?_) (fun j hj => ?_)
    · have h := m6 (19840, .arg 19840, (List.range 1).reverse.map (fun k => (Jvm.Term.int (Int32.ofNat k), Jvm.Term.elem (.arg 19840) (.int (Int32.ofNat (k + 1)))))) (List.mem_cons_self) j
      rw [bd_ev (by decide), aden_sf 1 (by decide) hj, sv_int rfl] at h
      refine (Value.int.inj h).trans ?_
      show ρ.2.2.1 19840 (Int32.ofNat (j + 1)).toNatClampNeg = _
      rw [s_nat, Int32.toInt_ofNat_small (by omega)]
      rfl
    · have h := m6 (5249, .arg 5249, (List.range 1).reverse.map (fun k => (Jvm.Term.int (Int32.ofNat k), Jvm.Term.elem (.arg 5249) (.int (Int32.ofNat (k + 1)))))) (List.mem_cons_of_mem _ List.mem_cons_self) j
      rw [bd_od (by decide), aden_sf 1 (by decide) hj, sv_long rfl] at h
      refine (Value.long.inj h).trans ?_
      show ρ.2.2.2.1 5249 (Int32.ofNat (j + 1)).toNatClampNeg = _
      rw [s_nat, Int32.toInt_ofNat_small (by omega)]
      rfl
  · have ek : ρ.1 20000 = 3 := Int32.toInt_inj.mp (by rw [hk]; rfl)
    refine AT_of (q := q_pul33) rfl rfl (SEM_runB kR_x kR_0 (Cs := []) (fun C hC => by cases hC) c_pul3_f (Q := w_pul33) hv 240 (b1 := false) (b2 := true) k_pul33 k1 ⟨k2.1, fun f hf => by rw [List.mem_singleton.mp hf]; exact decide_eq_true ek⟩ (fun c hc => by cases hc) k4 (fun p hp ρ3 m1 m2 m3 m4 m5 m6 => ?_))
    rw [List.mem_singleton.mp hp] at m2 m3 m5 m6 ⊢
    have sV : ρ3.1 60000 = ρ.2.2.1 19840 0 := (((m4.1 60000 (by decide) (by decide)).1).trans ((k4.1 60000 (by decide) (by decide)).1).symm).trans hV.symm
    have y1 : ρ3.1 19264 = hd5 (ρ.2.2.1 19840 0) := congrArg Prod.fst (m5 (19264, .op2 .iushr (.elem (.arg 19840) (.int 0)) (.int 5)) (List.mem_cons_self))
    have y2 : ρ3.1 5282 = hd4 (ρ.2.2.1 19840 0) := congrArg Prod.fst (m5 (5282, .op2 .iand (.op2 .iushr (.elem (.arg 19840) (.int 0)) (.int 4)) (.int 1)) (List.mem_cons_of_mem _ (List.mem_cons_self)))
    have y3 : ρ3.1 19296 = hdl (ρ.2.2.1 19840 0) := congrArg Prod.fst (m5 (19296, .op2 .iand (.elem (.arg 19840) (.int 0)) (.int 15)) (List.mem_cons_of_mem _ (List.mem_cons_of_mem _ (List.mem_cons_self))))
    refine fin 2 ρ3 hk (by decide) m1 m2.1 m4 (decide_eq_true (show ρ3.1 19264 = hd5 (ρ3.1 60000) by rw [y1, sV])) (decide_eq_true (show ρ3.1 5282 = hd4 (ρ3.1 60000) by rw [y2, sV])) (decide_eq_true (show ρ3.1 19296 = hdl (ρ3.1 60000) by rw [y3, sV])) (congrArg Prod.snd (m5 (5121, .elem (.arg 5249) (.int 0)) (List.mem_cons_of_mem _ (List.mem_cons_of_mem _ (List.mem_cons_of_mem _ (List.mem_cons_self)))))) (congrArg Prod.fst (m5 (20000, .sub (.arg 20000) (.int 1)) (List.mem_cons_of_mem _ (List.mem_cons_of_mem _ (List.mem_cons_of_mem _ (List.mem_cons_of_mem _ (List.mem_cons_self))))))) (fun j hj => ?_) (fun j hj => ?_)
    · have h := m6 (19840, .arg 19840, (List.range 2).reverse.map (fun k => (Jvm.Term.int (Int32.ofNat k), Jvm.Term.elem (.arg 19840) (.int (Int32.ofNat (k + 1)))))) (List.mem_cons_self) j
      rw [bd_ev (by decide), aden_sf 2 (by decide) hj, sv_int rfl] at h
      refine (Value.int.inj h).trans ?_
      show ρ.2.2.1 19840 (Int32.ofNat (j + 1)).toNatClampNeg = _
      rw [s_nat, Int32.toInt_ofNat_small (by omega)]
      rfl
    · have h := m6 (5249, .arg 5249, (List.range 2).reverse.map (fun k => (Jvm.Term.int (Int32.ofNat k), Jvm.Term.elem (.arg 5249) (.int (Int32.ofNat (k + 1)))))) (List.mem_cons_of_mem _ List.mem_cons_self) j
      rw [bd_od (by decide), aden_sf 2 (by decide) hj, sv_long rfl] at h
      refine (Value.long.inj h).trans ?_
      show ρ.2.2.2.1 5249 (Int32.ofNat (j + 1)).toNatClampNeg = _
      rw [s_nat, Int32.toInt_ofNat_small (by omega)]
      rfl
  · have ek : ρ.1 20000 = 4 := Int32.toInt_inj.mp (by rw [hk]; rfl)
    refine AT_of (q := q_pul34) rfl rfl (SEM_runB kR_x kR_0 (Cs := []) (fun C hC => by cases hC) c_pul3_f (Q := w_pul34) hv 300 (b1 := false) (b2 := true) k_pul34 k1 ⟨k2.1, fun f hf => by rw [List.mem_singleton.mp hf]; exact decide_eq_true ek⟩ (fun c hc => by cases hc) k4 (fun p hp ρ3 m1 m2 m3 m4 m5 m6 => ?_))
    rw [List.mem_singleton.mp hp] at m2 m3 m5 m6 ⊢
    have sV : ρ3.1 60000 = ρ.2.2.1 19840 0 := (((m4.1 60000 (by decide) (by decide)).1).trans ((k4.1 60000 (by decide) (by decide)).1).symm).trans hV.symm
    have y1 : ρ3.1 19264 = hd5 (ρ.2.2.1 19840 0) := congrArg Prod.fst (m5 (19264, .op2 .iushr (.elem (.arg 19840) (.int 0)) (.int 5)) (List.mem_cons_self))
    have y2 : ρ3.1 5282 = hd4 (ρ.2.2.1 19840 0) := congrArg Prod.fst (m5 (5282, .op2 .iand (.op2 .iushr (.elem (.arg 19840) (.int 0)) (.int 4)) (.int 1)) (List.mem_cons_of_mem _ (List.mem_cons_self)))
    have y3 : ρ3.1 19296 = hdl (ρ.2.2.1 19840 0) := congrArg Prod.fst (m5 (19296, .op2 .iand (.elem (.arg 19840) (.int 0)) (.int 15)) (List.mem_cons_of_mem _ (List.mem_cons_of_mem _ (List.mem_cons_self))))
    refine fin 3 ρ3 hk (by decide) m1 m2.1 m4 (decide_eq_true (show ρ3.1 19264 = hd5 (ρ3.1 60000) by rw [y1, sV])) (decide_eq_true (show ρ3.1 5282 = hd4 (ρ3.1 60000) by rw [y2, sV])) (decide_eq_true (show ρ3.1 19296 = hdl (ρ3.1 60000) by rw [y3, sV])) (congrArg Prod.snd (m5 (5121, .elem (.arg 5249) (.int 0)) (List.mem_cons_of_mem _ (List.mem_cons_of_mem _ (List.mem_cons_of_mem _ (List.mem_cons_self)))))) (congrArg Prod.fst (m5 (20000, .sub (.arg 20000) (.int 1)) (List.mem_cons_of_mem _ (List.mem_cons_of_mem _ (List.mem_cons_of_mem _ (List.mem_cons_of_mem _ (List.mem_cons_self))))))) (fun j hj => ?_) (fun j hj => ?_)
    · have h := m6 (19840, .arg 19840, (List.range 3).reverse.map (fun k => (Jvm.Term.int (Int32.ofNat k), Jvm.Term.elem (.arg 19840) (.int (Int32.ofNat (k + 1)))))) (List.mem_cons_self) j
      rw [bd_ev (by decide), aden_sf 3 (by decide) hj, sv_int rfl] at h
      refine (Value.int.inj h).trans ?_
      show ρ.2.2.1 19840 (Int32.ofNat (j + 1)).toNatClampNeg = _
      rw [s_nat, Int32.toInt_ofNat_small (by omega)]
      rfl
    · have h := m6 (5249, .arg 5249, (List.range 3).reverse.map (fun k => (Jvm.Term.int (Int32.ofNat k), Jvm.Term.elem (.arg 5249) (.int (Int32.ofNat (k + 1)))))) (List.mem_cons_of_mem _ List.mem_cons_self) j
      rw [bd_od (by decide), aden_sf 3 (by decide) hj, sv_long rfl] at h
      refine (Value.long.inj h).trans ?_
      show ρ.2.2.2.1 5249 (Int32.ofNat (j + 1)).toNatClampNeg = _
      rw [s_nat, Int32.toInt_ofNat_small (by omega)]
      rfl
  · have ek : ρ.1 20000 = 5 := Int32.toInt_inj.mp (by rw [hk]; rfl)
    refine AT_of (q := q_pul35) rfl rfl (SEM_runB kR_x kR_0 (Cs := []) (fun C hC => by cases hC) c_pul3_f (Q := w_pul35) hv 360 (b1 := false) (b2 := true) k_pul35 k1 ⟨k2.1, fun f hf => by rw [List.mem_singleton.mp hf]; exact decide_eq_true ek⟩ (fun c hc => by cases hc) k4 (fun p hp ρ3 m1 m2 m3 m4 m5 m6 => ?_))
    rw [List.mem_singleton.mp hp] at m2 m3 m5 m6 ⊢
    have sV : ρ3.1 60000 = ρ.2.2.1 19840 0 := (((m4.1 60000 (by decide) (by decide)).1).trans ((k4.1 60000 (by decide) (by decide)).1).symm).trans hV.symm
    have y1 : ρ3.1 19264 = hd5 (ρ.2.2.1 19840 0) := congrArg Prod.fst (m5 (19264, .op2 .iushr (.elem (.arg 19840) (.int 0)) (.int 5)) (List.mem_cons_self))
    have y2 : ρ3.1 5282 = hd4 (ρ.2.2.1 19840 0) := congrArg Prod.fst (m5 (5282, .op2 .iand (.op2 .iushr (.elem (.arg 19840) (.int 0)) (.int 4)) (.int 1)) (List.mem_cons_of_mem _ (List.mem_cons_self)))
    have y3 : ρ3.1 19296 = hdl (ρ.2.2.1 19840 0) := congrArg Prod.fst (m5 (19296, .op2 .iand (.elem (.arg 19840) (.int 0)) (.int 15)) (List.mem_cons_of_mem _ (List.mem_cons_of_mem _ (List.mem_cons_self))))
    refine fin 4 ρ3 hk (by decide) m1 m2.1 m4 (decide_eq_true (show ρ3.1 19264 = hd5 (ρ3.1 60000) by rw [y1, sV])) (decide_eq_true (show ρ3.1 5282 = hd4 (ρ3.1 60000) by rw [y2, sV])) (decide_eq_true (show ρ3.1 19296 = hdl (ρ3.1 60000) by rw [y3, sV])) (congrArg Prod.snd (m5 (5121, .elem (.arg 5249) (.int 0)) (List.mem_cons_of_mem _ (List.mem_cons_of_mem _ (List.mem_cons_of_mem _ (List.mem_cons_self)))))) (congrArg Prod.fst (m5 (20000, .sub (.arg 20000) (.int 1)) (List.mem_cons_of_mem _ (List.mem_cons_of_mem _ (List.mem_cons_of_mem _ (List.mem_cons_of_mem _ (List.mem_cons_self))))))) (fun j hj => ?_) (fun j hj => ?_)
    · have h := m6 (19840, .arg 19840, (List.range 4).reverse.map (fun k => (Jvm.Term.int (Int32.ofNat k), Jvm.Term.elem (.arg 19840) (.int (Int32.ofNat (k + 1)))))) (List.mem_cons_self) j
      rw [bd_ev (by decide), aden_sf 4 (by decide) hj, sv_int rfl] at h
      refine (Value.int.inj h).trans ?_
      show ρ.2.2.1 19840 (Int32.ofNat (j + 1)).toNatClampNeg = _
      rw [s_nat, Int32.toInt_ofNat_small (by omega)]
      rfl
    · have h := m6 (5249, .arg 5249, (List.range 4).reverse.map (fun k => (Jvm.Term.int (Int32.ofNat k), Jvm.Term.elem (.arg 5249) (.int (Int32.ofNat (k + 1)))))) (List.mem_cons_of_mem _ List.mem_cons_self) j
      rw [bd_od (by decide), aden_sf 4 (by decide) hj, sv_long rfl] at h
      refine (Value.long.inj h).trans ?_
      show ρ.2.2.2.1 5249 (Int32.ofNat (j + 1)).toNatClampNeg = _
      rw [s_nat, Int32.toInt_ofNat_small (by omega)]
      rfl
  · have ek : ρ.1 20000 = 6 := Int32.toInt_inj.mp (by rw [hk]; rfl)
    refine AT_of (q := q_pul36) rfl rfl (SEM_runB kR_x kR_0 (Cs := []) (fun C hC => by cases hC) c_pul3_f (Q := w_pul36) hv 420 (b1 := false) (b2 := true) k_pul36 k1 ⟨k2.1, fun f hf => by rw [List.mem_singleton.mp hf]; exact decide_eq_true ek⟩ (fun c hc => by cases hc) k4 (fun p hp ρ3 m1 m2 m3 m4 m5 m6 => ?_))
    rw [List.mem_singleton.mp hp] at m2 m3 m5 m6 ⊢
    have sV : ρ3.1 60000 = ρ.2.2.1 19840 0 := (((m4.1 60000 (by decide) (by decide)).1).trans ((k4.1 60000 (by decide) (by decide)).1).symm).trans hV.symm
    have y1 : ρ3.1 19264 = hd5 (ρ.2.2.1 19840 0) := congrArg Prod.fst (m5 (19264, .op2 .iushr (.elem (.arg 19840) (.int 0)) (.int 5)) (List.mem_cons_self))
    have y2 : ρ3.1 5282 = hd4 (ρ.2.2.1 19840 0) := congrArg Prod.fst (m5 (5282, .op2 .iand (.op2 .iushr (.elem (.arg 19840) (.int 0)) (.int 4)) (.int 1)) (List.mem_cons_of_mem _ (List.mem_cons_self)))
    have y3 : ρ3.1 19296 = hdl (ρ.2.2.1 19840 0) := congrArg Prod.fst (m5 (19296, .op2 .iand (.elem (.arg 19840) (.int 0)) (.int 15)) (List.mem_cons_of_mem _ (List.mem_cons_of_mem _ (List.mem_cons_self))))
    refine fin 5 ρ3 hk (by decide) m1 m2.1 m4 (decide_eq_true (show ρ3.1 19264 = hd5 (ρ3.1 60000) by rw [y1, sV])) (decide_eq_true (show ρ3.1 5282 = hd4 (ρ3.1 60000) by rw [y2, sV])) (decide_eq_true (show ρ3.1 19296 = hdl (ρ3.1 60000) by rw [y3, sV])) (congrArg Prod.snd (m5 (5121, .elem (.arg 5249) (.int 0)) (List.mem_cons_of_mem _ (List.mem_cons_of_mem _ (List.mem_cons_of_mem _ (List.mem_cons_self)))))) (congrArg Prod.fst (m5 (20000, .sub (.arg 20000) (.int 1)) (List.mem_cons_of_mem _ (List.mem_cons_of_mem _ (List.mem_cons_of_mem _ (List.mem_cons_of_mem _ (List.mem_cons_self))))))) (fun j hj => ?_) (fun j hj => ?_)
    · have h := m6 (19840, .arg 19840, (List.range 5).reverse.map (fun k => (Jvm.Term.int (Int32.ofNat k), Jvm.Term.elem (.arg 19840) (.int (Int32.ofNat (k + 1)))))) (List.mem_cons_self) j
      rw [bd_ev (by decide), aden_sf 5 (by decide) hj, sv_int rfl] at h
      refine (Value.int.inj h).trans ?_
      show ρ.2.2.1 19840 (Int32.ofNat (j + 1)).toNatClampNeg = _
      rw [s_nat, Int32.toInt_ofNat_small (by omega)]
      rfl
    · have h := m6 (5249, .arg 5249, (List.range 5).reverse.map (fun k => (Jvm.Term.int (Int32.ofNat k), Jvm.Term.elem (.arg 5249) (.int (Int32.ofNat (k + 1)))))) (List.mem_cons_of_mem _ List.mem_cons_self) j
      rw [bd_od (by decide), aden_sf 5 (by decide) hj, sv_long rfl] at h
      refine (Value.long.inj h).trans ?_
      show ρ.2.2.2.1 5249 (Int32.ofNat (j + 1)).toNatClampNeg = _
      rw [s_nat, Int32.toInt_ofNat_small (by omega)]
      rfl
  · have ek : ρ.1 20000 = 7 := Int32.toInt_inj.mp (by rw [hk]; rfl)
    refine AT_of (q := q_pul37) rfl rfl (SEM_runB kR_x kR_0 (Cs := []) (fun C hC => by cases hC) c_pul3_f (Q := w_pul37) hv 480 (b1 := false) (b2 := true) k_pul37 k1 ⟨k2.1, fun f hf => by rw [List.mem_singleton.mp hf]; exact decide_eq_true ek⟩ (fun c hc => by cases hc) k4 (fun p hp ρ3 m1 m2 m3 m4 m5 m6 => ?_))
    rw [List.mem_singleton.mp hp] at m2 m3 m5 m6 ⊢
    have sV : ρ3.1 60000 = ρ.2.2.1 19840 0 := (((m4.1 60000 (by decide) (by decide)).1).trans ((k4.1 60000 (by decide) (by decide)).1).symm).trans hV.symm
    have y1 : ρ3.1 19264 = hd5 (ρ.2.2.1 19840 0) := congrArg Prod.fst (m5 (19264, .op2 .iushr (.elem (.arg 19840) (.int 0)) (.int 5)) (List.mem_cons_self))
    have y2 : ρ3.1 5282 = hd4 (ρ.2.2.1 19840 0) := congrArg Prod.fst (m5 (5282, .op2 .iand (.op2 .iushr (.elem (.arg 19840) (.int 0)) (.int 4)) (.int 1)) (List.mem_cons_of_mem _ (List.mem_cons_self)))
    have y3 : ρ3.1 19296 = hdl (ρ.2.2.1 19840 0) := congrArg Prod.fst (m5 (19296, .op2 .iand (.elem (.arg 19840) (.int 0)) (.int 15)) (List.mem_cons_of_mem _ (List.mem_cons_of_mem _ (List.mem_cons_self))))
    refine fin 6 ρ3 hk (by decide) m1 m2.1 m4 (decide_eq_true (show ρ3.1 19264 = hd5 (ρ3.1 60000) by rw [y1, sV])) (decide_eq_true (show ρ3.1 5282 = hd4 (ρ3.1 60000) by rw [y2, sV])) (decide_eq_true (show ρ3.1 19296 = hdl (ρ3.1 60000) by rw [y3, sV])) (congrArg Prod.snd (m5 (5121, .elem (.arg 5249) (.int 0)) (List.mem_cons_of_mem _ (List.mem_cons_of_mem _ (List.mem_cons_of_mem _ (List.mem_cons_self)))))) (congrArg Prod.fst (m5 (20000, .sub (.arg 20000) (.int 1)) (List.mem_cons_of_mem _ (List.mem_cons_of_mem _ (List.mem_cons_of_mem _ (List.mem_cons_of_mem _ (List.mem_cons_self))))))) (fun j hj => ?_) (fun j hj => ?_)
    · have h := m6 (19840, .arg 19840, (List.range 6).reverse.map (fun k => (Jvm.Term.int (Int32.ofNat k), Jvm.Term.elem (.arg 19840) (.int (Int32.ofNat (k + 1)))))) (List.mem_cons_self) j
      rw [bd_ev (by decide), aden_sf 6 (by decide) hj, sv_int rfl] at h
      refine (Value.int.inj h).trans ?_
      show ρ.2.2.1 19840 (Int32.ofNat (j + 1)).toNatClampNeg = _
      rw [s_nat, Int32.toInt_ofNat_small (by omega)]
      rfl
    · have h := m6 (5249, .arg 5249, (List.range 6).reverse.map (fun k => (Jvm.Term.int (Int32.ofNat k), Jvm.Term.elem (.arg 5249) (.int (Int32.ofNat (k + 1)))))) (List.mem_cons_of_mem _ List.mem_cons_self) j
      rw [bd_od (by decide), aden_sf 6 (by decide) hj, sv_long rfl] at h
      refine (Value.long.inj h).trans ?_
      show ρ.2.2.2.1 5249 (Int32.ofNat (j + 1)).toNatClampNeg = _
      rw [s_nat, Int32.toInt_ofNat_small (by omega)]
      rfl
  · have ek : ρ.1 20000 = 8 := Int32.toInt_inj.mp (by rw [hk]; rfl)
    refine AT_of (q := q_pul38) rfl rfl (SEM_runB kR_x kR_0 (Cs := []) (fun C hC => by cases hC) c_pul3_f (Q := w_pul38) hv 540 (b1 := false) (b2 := true) k_pul38 k1 ⟨k2.1, fun f hf => by rw [List.mem_singleton.mp hf]; exact decide_eq_true ek⟩ (fun c hc => by cases hc) k4 (fun p hp ρ3 m1 m2 m3 m4 m5 m6 => ?_))
    rw [List.mem_singleton.mp hp] at m2 m3 m5 m6 ⊢
    have sV : ρ3.1 60000 = ρ.2.2.1 19840 0 := (((m4.1 60000 (by decide) (by decide)).1).trans ((k4.1 60000 (by decide) (by decide)).1).symm).trans hV.symm
    have y1 : ρ3.1 19264 = hd5 (ρ.2.2.1 19840 0) := congrArg Prod.fst (m5 (19264, .op2 .iushr (.elem (.arg 19840) (.int 0)) (.int 5)) (List.mem_cons_self))
    have y2 : ρ3.1 5282 = hd4 (ρ.2.2.1 19840 0) := congrArg Prod.fst (m5 (5282, .op2 .iand (.op2 .iushr (.elem (.arg 19840) (.int 0)) (.int 4)) (.int 1)) (List.mem_cons_of_mem _ (List.mem_cons_self)))
    have y3 : ρ3.1 19296 = hdl (ρ.2.2.1 19840 0) := congrArg Prod.fst (m5 (19296, .op2 .iand (.elem (.arg 19840) (.int 0)) (.int 15)) (List.mem_cons_of_mem _ (List.mem_cons_of_mem _ (List.mem_cons_self))))
    refine fin 7 ρ3 hk (by decide) m1 m2.1 m4 (decide_eq_true (show ρ3.1 19264 = hd5 (ρ3.1 60000) by rw [y1, sV])) (decide_eq_true (show ρ3.1 5282 = hd4 (ρ3.1 60000) by rw [y2, sV])) (decide_eq_true (show ρ3.1 19296 = hdl (ρ3.1 60000) by rw [y3, sV])) (congrArg Prod.snd (m5 (5121, .elem (.arg 5249) (.int 0)) (List.mem_cons_of_mem _ (List.mem_cons_of_mem _ (List.mem_cons_of_mem _ (List.mem_cons_self)))))) (congrArg Prod.fst (m5 (20000, .sub (.arg 20000) (.int 1)) (List.mem_cons_of_mem _ (List.mem_cons_of_mem _ (List.mem_cons_of_mem _ (List.mem_cons_of_mem _ (List.mem_cons_self))))))) (fun j hj => ?_) (fun j hj => ?_)
    · have h := m6 (19840, .arg 19840, (List.range 7).reverse.map (fun k => (Jvm.Term.int (Int32.ofNat k), Jvm.Term.elem (.arg 19840) (.int (Int32.ofNat (k + 1)))))) (List.mem_cons_self) j
      rw [bd_ev (by decide), aden_sf 7 (by decide) hj, sv_int rfl] at h
      refine (Value.int.inj h).trans ?_
      show ρ.2.2.1 19840 (Int32.ofNat (j + 1)).toNatClampNeg = _
      rw [s_nat, Int32.toInt_ofNat_small (by omega)]
      rfl
    · have h := m6 (5249, .arg 5249, (List.range 7).reverse.map (fun k => (Jvm.Term.int (Int32.ofNat k), Jvm.Term.elem (.arg 5249) (.int (Int32.ofNat (k + 1)))))) (List.mem_cons_of_mem _ List.mem_cons_self) j
      rw [bd_od (by decide), aden_sf 7 (by decide) hj, sv_long rfl] at h
      refine (Value.long.inj h).trans ?_
      show ρ.2.2.2.1 5249 (Int32.ofNat (j + 1)).toNatClampNeg = _
      rw [s_nat, Int32.toInt_ofNat_small (by omega)]
      rfl
theorem s_pul3 {X : pX} : SREL X pF pdfl mt_all kR zWP c_pul3 := SREL_cut kR_x kR_0 (Cs := []) (fun C hC => by cases hC) (d := 1) rfl c_pul3_f (Q := [q_pul30]) (fun ρ0 hv q hq => by rw [List.mem_singleton.mp hq]; exact t_pul30 hv) 20 e_pul3
