/-! ===== rows that are shifted ===== -/
theorem aden_sf {X : pX} {ρ : sR} {b : sT} {f : Nat → sT} {j : Nat} : ∀ m : Nat, m ≤ 100 → j < m → aden X ρ b ((List.range m).reverse.map (fun k => (Jvm.Term.int (Int32.ofNat k), f k))) j = sv X ρ (f j)
  | 0, _, h => by omega
  | m + 1, h1, h2 => by
    rw [List.range_succ, List.reverse_append, List.reverse_singleton, List.singleton_append, List.map_cons]
    have e : (sd X ρ (Jvm.Term.int (Int32.ofNat m))).1.toNatClampNeg = m := by
      show (Int32.ofNat m).toNatClampNeg = m
      rw [s_nat, Int32.toInt_ofNat_small (by omega)]
      omega
    unfold aden
    dsimp only
    rw [e]
    by_cases h : m = j
    · rw [if_pos h, h]
    · rw [if_neg h]
      exact aden_sf m (by omega) (by omega)
theorem bd_ev {X : pX} {ρ : sR} {a j : Nat} (h : a % 2 = 0) : bden X ρ (.arg a) j = .int (ρ.2.2.1 a j) := by
  unfold bden
  dsimp only
  rw [if_neg (by omega)]
theorem bd_od {X : pX} {ρ : sR} {a j : Nat} (h : a % 2 = 1) : bden X ρ (.arg a) j = .long (ρ.2.2.2.1 a j) := by
  unfold bden
  dsimp only
  rw [if_pos (by omega)]
theorem n106_get {α : Type} [DecidableEq α] {f g : Nat → α} {p n : Int} (h : (List.range n.toNat).all (fun j => decide (f (p.toNat + j) = g j)) = true) {j : Nat} (hj : (j : Int) < n) : f (p.toNat + j) = g j := of_decide_eq_true (List.all_eq_true.mp h j (List.mem_range.mpr (by omega)))
theorem n106_of {α : Type} [DecidableEq α] {f g : Nat → α} {p n : Int} (h : ∀ j : Nat, (j : Int) < n → f (p.toNat + j) = g j) : (List.range n.toNat).all (fun j => decide (f (p.toNat + j) = g j)) = true := List.all_eq_true.mpr (fun j hj => decide_eq_true (h j (by have := List.mem_range.mp hj; omega)))
noncomputable def hd5 (x : Int32) : Int32 := (x.toUInt32 >>> ((5 : Int32).toUInt32 &&& Int32.toUInt32 31)).toInt32
noncomputable def hd4 (x : Int32) : Int32 := (x.toUInt32 >>> ((4 : Int32).toUInt32 &&& Int32.toUInt32 31)).toInt32 &&& 1
noncomputable def hdl (x : Int32) : Int32 := x &&& 15
theorem fcq {X : pX} {ρ : sR} {f : sQ × Bool} {r : sFs} (h : sc X ρ f.1 = f.2) (hr : fall X ρ r) : fall X ρ (f :: r) := fun g hg => by
  rcases List.mem_cons.mp hg with hg | hg
  · rw [hg]; exact h
  · exact hr g hg
/-! ===== a frame off the in row of the master: pull ===== -/
noncomputable def c_pull4 : sC := ((425, 253, 2), ([.long 0], [tr 219, .int 4]), ([], [219, 242, 243, 244, 245, 246]), [((0, .elem (.arg 19872) (.int 0), .arg 60000), true), ((6, .elem (.arg 5281) (.int 0), .arg 60033), true), ((0, .arg 20032, .arg 60064), true), ((2, .int 0, .arg 20032), true), ((2, .arg 20032, .int 0), false), ((2, .int 8, .arg 20032), false), ((2, .arg 1856, .int 0), false), ((2, .int 8, .arg 1856), false), ((2, .arg 1856, .arg 20032), false), ((106, .add (.sub (.arg 1856) (.arg 20032)) (.add (.elem (.arg 1696) (.int 0)) (.elem (.arg 19872) (.int 0))), .arg 20032), true), ((107, .add (.sub (.arg 1856) (.arg 20032)) (.add (.elem (.arg 1569) (.int 0)) (.elem (.arg 5281) (.int 0))), .arg 20032), true)], ([19264, 5282, 19296, 5121, 20032], [19872, 5281]), (some (.long 0), none), [((0, .arg 19264, .op2 .iushr (.arg 60000) (.int 5)), true), ((0, .arg 5282, .op2 .iand (.op2 .iushr (.arg 60000) (.int 4)) (.int 1)), true), ((0, .arg 19296, .op2 .iand (.arg 60000) (.int 15)), true), ((6, .arg 5121, .arg 60033), true), ((0, .arg 20032, .sub (.arg 60064) (.int 1)), true), ((2, .arg 20032, .int 0), false), ((2, .int 8, .arg 20032), false), ((2, .arg 1856, .int 0), false), ((2, .int 8, .arg 1856), false), ((2, .arg 1856, .arg 20032), false), ((106, .add (.sub (.arg 1856) (.arg 20032)) (.add (.elem (.arg 1696) (.int 0)) (.elem (.arg 19872) (.int 0))), .arg 20032), true), ((107, .add (.sub (.arg 1856) (.arg 20032)) (.add (.elem (.arg 1569) (.int 0)) (.elem (.arg 5281) (.int 0))), .arg 20032), true)], ([], []))
theorem c_pull4_f : cfine zH 65536 c_pull4 = true := by decide +kernel
noncomputable def q_pull40 : sCut := ((fr 0 425 0 [(0, .long 0)] [], [fBot], 1), (fr 0 253 0 [(0, tr 219), (1, .int 4)] [], [fBot], 1), [((0, .elem (.arg 19872) (.int 0), .arg 60000), true), ((6, .elem (.arg 5281) (.int 0), .arg 60033), true), ((0, .arg 20032, .arg 60064), true), ((2, .int 0, .arg 20032), true), ((2, .arg 20032, .int 0), false), ((2, .int 8, .arg 20032), false), ((2, .arg 1856, .int 0), false), ((2, .int 8, .arg 1856), false), ((2, .arg 1856, .arg 20032), false), ((106, .add (.sub (.arg 1856) (.arg 20032)) (.add (.elem (.arg 1696) (.int 0)) (.elem (.arg 19872) (.int 0))), .arg 20032), true), ((107, .add (.sub (.arg 1856) (.arg 20032)) (.add (.elem (.arg 1569) (.int 0)) (.elem (.arg 5281) (.int 0))), .arg 20032), true)], [])
noncomputable def q_pull4e : sCut := ((fr 0 425 0 [(0, .long 0)] [], [fBot], 1), (fr 0 253 88 [(0, tr 219)] [], [fBot], 1), [], [])
noncomputable def q_pull4n : sCut := ((fr 0 425 0 [(0, .long 0)] [], [fBot], 1), (fr 0 253 88 [(0, tr 219)] [], [fBot], 1), [((0, .arg 19264, .op2 .iushr (.arg 60000) (.int 5)), true), ((0, .arg 5282, .op2 .iand (.op2 .iushr (.arg 60000) (.int 4)) (.int 1)), true), ((0, .arg 19296, .op2 .iand (.arg 60000) (.int 15)), true), ((6, .arg 5121, .arg 60033), true), ((0, .arg 20032, .sub (.arg 60064) (.int 1)), true), ((2, .arg 20032, .int 0), false), ((2, .int 8, .arg 20032), false), ((2, .arg 1856, .int 0), false), ((2, .int 8, .arg 1856), false), ((2, .arg 1856, .arg 20032), false), ((106, .add (.sub (.arg 1856) (.arg 20032)) (.add (.elem (.arg 1696) (.int 0)) (.elem (.arg 19872) (.int 0))), .arg 20032), true), ((107, .add (.sub (.arg 1856) (.arg 20032)) (.add (.elem (.arg 1569) (.int 0)) (.elem (.arg 5281) (.int 0))), .arg 20032), true)], [])
noncomputable def q_pull41 : sCut := ((fr 0 425 0 [(0, .long 0)] [], [fBot], 1), (fr 0 253 0 [(0, tr 219), (1, .int 4)] [], [fBot], 1), [((0, .arg 20032, .int 1), true)], [])
noncomputable def w_pull41 : List (sCut × List (Nat × sT) × List (Nat × sT × List (sT × sT))) := [(q_pull4e, [(19264, .op2 .iushr (.elem (.arg 19872) (.int 0)) (.int 5)), (5282, .op2 .iand (.op2 .iushr (.elem (.arg 19872) (.int 0)) (.int 4)) (.int 1)), (19296, .op2 .iand (.elem (.arg 19872) (.int 0)) (.int 15)), (5121, .elem (.arg 5281) (.int 0)), (20032, .sub (.arg 20032) (.int 1))], [(19872, .arg 19872, (List.range 0).reverse.map (fun k => (Jvm.Term.int (Int32.ofNat k), Jvm.Term.elem (.arg 19872) (.int (Int32.ofNat (k + 1)))))), (5281, .arg 5281, (List.range 0).reverse.map (fun k => (Jvm.Term.int (Int32.ofNat k), Jvm.Term.elem (.arg 5281) (.int (Int32.ofNat (k + 1))))))])]
theorem k_pull41 : cbody kR [] (cpl1 zH c_pull4 [q_pull4e]) (cpl2 zH c_pull4 [q_pull4e]) (cleafB kR zH c_pull4 w_pull41) 120 false true q_pull41.2.2.1 q_pull41.2.2.2 (cst zH c_pull4.2.2.1.1 q_pull41.1) (cst zH c_pull4.2.2.1.2 q_pull41.2.1) = true := by decide +kernel
noncomputable def q_pull42 : sCut := ((fr 0 425 0 [(0, .long 0)] [], [fBot], 1), (fr 0 253 0 [(0, tr 219), (1, .int 4)] [], [fBot], 1), [((0, .arg 20032, .int 2), true)], [])
noncomputable def w_pull42 : List (sCut × List (Nat × sT) × List (Nat × sT × List (sT × sT))) := [(q_pull4e, [(19264, .op2 .iushr (.elem (.arg 19872) (.int 0)) (.int 5)), (5282, .op2 .iand (.op2 .iushr (.elem (.arg 19872) (.int 0)) (.int 4)) (.int 1)), (19296, .op2 .iand (.elem (.arg 19872) (.int 0)) (.int 15)), (5121, .elem (.arg 5281) (.int 0)), (20032, .sub (.arg 20032) (.int 1))], [(19872, .arg 19872, (List.range 1).reverse.map (fun k => (Jvm.Term.int (Int32.ofNat k), Jvm.Term.elem (.arg 19872) (.int (Int32.ofNat (k + 1)))))), (5281, .arg 5281, (List.range 1).reverse.map (fun k => (Jvm.Term.int (Int32.ofNat k), Jvm.Term.elem (.arg 5281) (.int (Int32.ofNat (k + 1))))))])]
theorem k_pull42 : cbody kR [] (cpl1 zH c_pull4 [q_pull4e]) (cpl2 zH c_pull4 [q_pull4e]) (cleafB kR zH c_pull4 w_pull42) 180 false true q_pull42.2.2.1 q_pull42.2.2.2 (cst zH c_pull4.2.2.1.1 q_pull42.1) (cst zH c_pull4.2.2.1.2 q_pull42.2.1) = true := by decide +kernel
noncomputable def q_pull43 : sCut := ((fr 0 425 0 [(0, .long 0)] [], [fBot], 1), (fr 0 253 0 [(0, tr 219), (1, .int 4)] [], [fBot], 1), [((0, .arg 20032, .int 3), true)], [])
noncomputable def w_pull43 : List (sCut × List (Nat × sT) × List (Nat × sT × List (sT × sT))) := [(q_pull4e, [(19264, .op2 .iushr (.elem (.arg 19872) (.int 0)) (.int 5)), (5282, .op2 .iand (.op2 .iushr (.elem (.arg 19872) (.int 0)) (.int 4)) (.int 1)), (19296, .op2 .iand (.elem (.arg 19872) (.int 0)) (.int 15)), (5121, .elem (.arg 5281) (.int 0)), (20032, .sub (.arg 20032) (.int 1))], [(19872, .arg 19872, (List.range 2).reverse.map (fun k => (Jvm.Term.int (Int32.ofNat k), Jvm.Term.elem (.arg 19872) (.int (Int32.ofNat (k + 1)))))), (5281, .arg 5281, (List.range 2).reverse.map (fun k => (Jvm.Term.int (Int32.ofNat k), Jvm.Term.elem (.arg 5281) (.int (Int32.ofNat (k + 1))))))])]
theorem k_pull43 : cbody kR [] (cpl1 zH c_pull4 [q_pull4e]) (cpl2 zH c_pull4 [q_pull4e]) (cleafB kR zH c_pull4 w_pull43) 240 false true q_pull43.2.2.1 q_pull43.2.2.2 (cst zH c_pull4.2.2.1.1 q_pull43.1) (cst zH c_pull4.2.2.1.2 q_pull43.2.1) = true := by decide +kernel
noncomputable def q_pull44 : sCut := ((fr 0 425 0 [(0, .long 0)] [], [fBot], 1), (fr 0 253 0 [(0, tr 219), (1, .int 4)] [], [fBot], 1), [((0, .arg 20032, .int 4), true)], [])
noncomputable def w_pull44 : List (sCut × List (Nat × sT) × List (Nat × sT × List (sT × sT))) := [(q_pull4e, [(19264, .op2 .iushr (.elem (.arg 19872) (.int 0)) (.int 5)), (5282, .op2 .iand (.op2 .iushr (.elem (.arg 19872) (.int 0)) (.int 4)) (.int 1)), (19296, .op2 .iand (.elem (.arg 19872) (.int 0)) (.int 15)), (5121, .elem (.arg 5281) (.int 0)), (20032, .sub (.arg 20032) (.int 1))], [(19872, .arg 19872, (List.range 3).reverse.map (fun k => (Jvm.Term.int (Int32.ofNat k), Jvm.Term.elem (.arg 19872) (.int (Int32.ofNat (k + 1)))))), (5281, .arg 5281, (List.range 3).reverse.map (fun k => (Jvm.Term.int (Int32.ofNat k), Jvm.Term.elem (.arg 5281) (.int (Int32.ofNat (k + 1))))))])]
theorem k_pull44 : cbody kR [] (cpl1 zH c_pull4 [q_pull4e]) (cpl2 zH c_pull4 [q_pull4e]) (cleafB kR zH c_pull4 w_pull44) 300 false true q_pull44.2.2.1 q_pull44.2.2.2 (cst zH c_pull4.2.2.1.1 q_pull44.1) (cst zH c_pull4.2.2.1.2 q_pull44.2.1) = true := by decide +kernel
noncomputable def q_pull45 : sCut := ((fr 0 425 0 [(0, .long 0)] [], [fBot], 1), (fr 0 253 0 [(0, tr 219), (1, .int 4)] [], [fBot], 1), [((0, .arg 20032, .int 5), true)], [])
noncomputable def w_pull45 : List (sCut × List (Nat × sT) × List (Nat × sT × List (sT × sT))) := [(q_pull4e, [(19264, .op2 .iushr (.elem (.arg 19872) (.int 0)) (.int 5)), (5282, .op2 .iand (.op2 .iushr (.elem (.arg 19872) (.int 0)) (.int 4)) (.int 1)), (19296, .op2 .iand (.elem (.arg 19872) (.int 0)) (.int 15)), (5121, .elem (.arg 5281) (.int 0)), (20032, .sub (.arg 20032) (.int 1))], [(19872, .arg 19872, (List.range 4).reverse.map (fun k => (Jvm.Term.int (Int32.ofNat k), Jvm.Term.elem (.arg 19872) (.int (Int32.ofNat (k + 1)))))), (5281, .arg 5281, (List.range 4).reverse.map (fun k => (Jvm.Term.int (Int32.ofNat k), Jvm.Term.elem (.arg 5281) (.int (Int32.ofNat (k + 1))))))])]
theorem k_pull45 : cbody kR [] (cpl1 zH c_pull4 [q_pull4e]) (cpl2 zH c_pull4 [q_pull4e]) (cleafB kR zH c_pull4 w_pull45) 360 false true q_pull45.2.2.1 q_pull45.2.2.2 (cst zH c_pull4.2.2.1.1 q_pull45.1) (cst zH c_pull4.2.2.1.2 q_pull45.2.1) = true := by decide +kernel
noncomputable def q_pull46 : sCut := ((fr 0 425 0 [(0, .long 0)] [], [fBot], 1), (fr 0 253 0 [(0, tr 219), (1, .int 4)] [], [fBot], 1), [((0, .arg 20032, .int 6), true)], [])
noncomputable def w_pull46 : List (sCut × List (Nat × sT) × List (Nat × sT × List (sT × sT))) := [(q_pull4e, [(19264, .op2 .iushr (.elem (.arg 19872) (.int 0)) (.int 5)), (5282, .op2 .iand (.op2 .iushr (.elem (.arg 19872) (.int 0)) (.int 4)) (.int 1)), (19296, .op2 .iand (.elem (.arg 19872) (.int 0)) (.int 15)), (5121, .elem (.arg 5281) (.int 0)), (20032, .sub (.arg 20032) (.int 1))], [(19872, .arg 19872, (List.range 5).reverse.map (fun k => (Jvm.Term.int (Int32.ofNat k), Jvm.Term.elem (.arg 19872) (.int (Int32.ofNat (k + 1)))))), (5281, .arg 5281, (List.range 5).reverse.map (fun k => (Jvm.Term.int (Int32.ofNat k), Jvm.Term.elem (.arg 5281) (.int (Int32.ofNat (k + 1))))))])]
theorem k_pull46 : cbody kR [] (cpl1 zH c_pull4 [q_pull4e]) (cpl2 zH c_pull4 [q_pull4e]) (cleafB kR zH c_pull4 w_pull46) 420 false true q_pull46.2.2.1 q_pull46.2.2.2 (cst zH c_pull4.2.2.1.1 q_pull46.1) (cst zH c_pull4.2.2.1.2 q_pull46.2.1) = true := by decide +kernel
noncomputable def q_pull47 : sCut := ((fr 0 425 0 [(0, .long 0)] [], [fBot], 1), (fr 0 253 0 [(0, tr 219), (1, .int 4)] [], [fBot], 1), [((0, .arg 20032, .int 7), true)], [])
noncomputable def w_pull47 : List (sCut × List (Nat × sT) × List (Nat × sT × List (sT × sT))) := [(q_pull4e, [(19264, .op2 .iushr (.elem (.arg 19872) (.int 0)) (.int 5)), (5282, .op2 .iand (.op2 .iushr (.elem (.arg 19872) (.int 0)) (.int 4)) (.int 1)), (19296, .op2 .iand (.elem (.arg 19872) (.int 0)) (.int 15)), (5121, .elem (.arg 5281) (.int 0)), (20032, .sub (.arg 20032) (.int 1))], [(19872, .arg 19872, (List.range 6).reverse.map (fun k => (Jvm.Term.int (Int32.ofNat k), Jvm.Term.elem (.arg 19872) (.int (Int32.ofNat (k + 1)))))), (5281, .arg 5281, (List.range 6).reverse.map (fun k => (Jvm.Term.int (Int32.ofNat k), Jvm.Term.elem (.arg 5281) (.int (Int32.ofNat (k + 1))))))])]
theorem k_pull47 : cbody kR [] (cpl1 zH c_pull4 [q_pull4e]) (cpl2 zH c_pull4 [q_pull4e]) (cleafB kR zH c_pull4 w_pull47) 480 false true q_pull47.2.2.1 q_pull47.2.2.2 (cst zH c_pull4.2.2.1.1 q_pull47.1) (cst zH c_pull4.2.2.1.2 q_pull47.2.1) = true := by decide +kernel
noncomputable def q_pull48 : sCut := ((fr 0 425 0 [(0, .long 0)] [], [fBot], 1), (fr 0 253 0 [(0, tr 219), (1, .int 4)] [], [fBot], 1), [((0, .arg 20032, .int 8), true)], [])
noncomputable def w_pull48 : List (sCut × List (Nat × sT) × List (Nat × sT × List (sT × sT))) := [(q_pull4e, [(19264, .op2 .iushr (.elem (.arg 19872) (.int 0)) (.int 5)), (5282, .op2 .iand (.op2 .iushr (.elem (.arg 19872) (.int 0)) (.int 4)) (.int 1)), (19296, .op2 .iand (.elem (.arg 19872) (.int 0)) (.int 15)), (5121, .elem (.arg 5281) (.int 0)), (20032, .sub (.arg 20032) (.int 1))], [(19872, .arg 19872, (List.range 7).reverse.map (fun k => (Jvm.Term.int (Int32.ofNat k), Jvm.Term.elem (.arg 19872) (.int (Int32.ofNat (k + 1)))))), (5281, .arg 5281, (List.range 7).reverse.map (fun k => (Jvm.Term.int (Int32.ofNat k), Jvm.Term.elem (.arg 5281) (.int (Int32.ofNat (k + 1))))))])]
theorem k_pull48 : cbody kR [] (cpl1 zH c_pull4 [q_pull4e]) (cpl2 zH c_pull4 [q_pull4e]) (cleafB kR zH c_pull4 w_pull48) 540 false true q_pull48.2.2.1 q_pull48.2.2.2 (cst zH c_pull4.2.2.1.1 q_pull48.1) (cst zH c_pull4.2.2.1.2 q_pull48.2.1) = true := by decide +kernel
theorem k_pull4n : cbody kR [] (cpl1 zH c_pull4 []) (cpl2 zH c_pull4 []) (cleaf kR zH c_pull4 []) 60 true true q_pull4n.2.2.1 q_pull4n.2.2.2 (cst zH c_pull4.2.2.1.1 q_pull4n.1) (cst zH c_pull4.2.2.1.2 q_pull4n.2.1) = true := by decide +kernel
theorem e_pull4 : frun kR [] (cpl1 zH c_pull4 [q_pull40]) (cpl2 zH c_pull4 [q_pull40]) (cleaf kR zH c_pull4 [q_pull40]) 20 65536 (isatP (c_pull4.2.2.2.1) c_pull4.2.2.2.2.2.2.2.1) c_pull4.2.2.2.2.2.2.2.1 (sin0 mt_all c_pull4.1.1 1 c_pull4.2.1.1 (foot zH c_pull4.2.2.1.1)) (sin0 mt_all c_pull4.1.2.1 1 c_pull4.2.1.2 (foot zH c_pull4.2.2.1.2)) = true := by decide +kernel
theorem t_pull40 {X : pX} {ρ0 : sR} (hv : vok X ρ0) : CUTOK X kR zH c_pull4 1 ρ0 q_pull40 := by
  refine CUTOK_AT (fun ρ k1 k2 k3 k4 => ?_)
  have hV : ρ.2.2.1 19872 0 = ρ.1 60000 := of_decide_eq_true (k2.2 _ (List.mem_cons_self))
  have hVB : ρ.2.2.2.1 5281 0 = ρ.2.1 60033 := of_decide_eq_true (k2.2 _ (List.mem_cons_of_mem _ (List.mem_cons_self)))
  have hN : ρ.1 20032 = ρ.1 60064 := of_decide_eq_true (k2.2 _ (List.mem_cons_of_mem _ (List.mem_cons_of_mem _ (List.mem_cons_self))))
  have g1 : (0 : Int32) < ρ.1 20032 := of_decide_eq_true (k2.2 _ (List.mem_cons_of_mem _ (List.mem_cons_of_mem _ (List.mem_cons_of_mem _ (List.mem_cons_self)))))
  have g2 : ¬ (8 : Int32) < ρ.1 20032 := of_decide_eq_false (k2.2 _ (List.mem_cons_of_mem _ (List.mem_cons_of_mem _ (List.mem_cons_of_mem _ (List.mem_cons_of_mem _ (List.mem_cons_of_mem _ (List.mem_cons_self)))))))
  have g3 : ¬ ρ.1 1856 < 0 := of_decide_eq_false (k2.2 _ (List.mem_cons_of_mem _ (List.mem_cons_of_mem _ (List.mem_cons_of_mem _ (List.mem_cons_of_mem _ (List.mem_cons_of_mem _ (List.mem_cons_of_mem _ (List.mem_cons_self))))))))
  have g4 : ¬ (8 : Int32) < ρ.1 1856 := of_decide_eq_false (k2.2 _ (List.mem_cons_of_mem _ (List.mem_cons_of_mem _ (List.mem_cons_of_mem _ (List.mem_cons_of_mem _ (List.mem_cons_of_mem _ (List.mem_cons_of_mem _ (List.mem_cons_of_mem _ (List.mem_cons_self)))))))))
  have g5 : ¬ ρ.1 1856 < ρ.1 20032 := of_decide_eq_false (k2.2 _ (List.mem_cons_of_mem _ (List.mem_cons_of_mem _ (List.mem_cons_of_mem _ (List.mem_cons_of_mem _ (List.mem_cons_of_mem _ (List.mem_cons_of_mem _ (List.mem_cons_of_mem _ (List.mem_cons_of_mem _ (List.mem_cons_self))))))))))
  have f3 : sc X ρ (2, .arg 1856, .int 0) = false := k2.2 _ (List.mem_cons_of_mem _ (List.mem_cons_of_mem _ (List.mem_cons_of_mem _ (List.mem_cons_of_mem _ (List.mem_cons_of_mem _ (List.mem_cons_of_mem _ (List.mem_cons_self)))))))
  have f4 : sc X ρ (2, .int 8, .arg 1856) = false := k2.2 _ (List.mem_cons_of_mem _ (List.mem_cons_of_mem _ (List.mem_cons_of_mem _ (List.mem_cons_of_mem _ (List.mem_cons_of_mem _ (List.mem_cons_of_mem _ (List.mem_cons_of_mem _ (List.mem_cons_self))))))))
  have h6 : (List.range (ρ.1 20032).toInt.toNat).all (fun j => decide (ρ.2.2.1 1696 ((ρ.1 1856 - ρ.1 20032).toInt.toNat + j) = ρ.2.2.1 19872 j)) = true := k2.2 _ (List.mem_cons_of_mem _ (List.mem_cons_of_mem _ (List.mem_cons_of_mem _ (List.mem_cons_of_mem _ (List.mem_cons_of_mem _ (List.mem_cons_of_mem _ (List.mem_cons_of_mem _ (List.mem_cons_of_mem _ (List.mem_cons_of_mem _ (List.mem_cons_self))))))))))
  have h7 : (List.range (ρ.1 20032).toInt.toNat).all (fun j => decide (ρ.2.2.2.1 1569 ((ρ.1 1856 - ρ.1 20032).toInt.toNat + j) = ρ.2.2.2.1 5281 j)) = true := k2.2 _ (List.mem_cons_of_mem _ (List.mem_cons_of_mem _ (List.mem_cons_of_mem _ (List.mem_cons_of_mem _ (List.mem_cons_of_mem _ (List.mem_cons_of_mem _ (List.mem_cons_of_mem _ (List.mem_cons_of_mem _ (List.mem_cons_of_mem _ (List.mem_cons_of_mem _ (List.mem_cons_self)))))))))))
  have z0 : (0 : Int32).toInt = 0 := rfl
  have z8 : (8 : Int32).toInt = 8 := rfl
  rw [Int32.lt_iff_toInt_lt] at g1 g2 g3 g4 g5
  rw [z0] at g1 g3
  rw [z8] at g2 g4
  have ip : (ρ.1 1856 - ρ.1 20032).toInt = (ρ.1 1856).toInt - (ρ.1 20032).toInt := by
    rw [Int32.toInt_sub]
    exact Int.bmod_eq_of_le (by omega) (by omega)
  have i1 : (ρ.1 20032 - 1).toInt = (ρ.1 20032).toInt - 1 := by
    rw [Int32.toInt_sub]
    exact Int.bmod_eq_of_le (by show _ ≤ (ρ.1 20032).toInt - 1; omega) (by show (ρ.1 20032).toInt - 1 < _; omega)
  have fin : ∀ (m : Nat) (ρ3 : sR), (ρ.1 20032).toInt = m + 1 → m ≤ 7 → kok X ρ3 kR → vok X ρ3 → agrM 65536 c_pull4.2.2.2.2.1.1 c_pull4.2.2.2.2.1.2 ρ3 ρ0 → sc X ρ3 (0, .arg 19264, .op2 .iushr (.arg 60000) (.int 5)) = true → sc X ρ3 (0, .arg 5282, .op2 .iand (.op2 .iushr (.arg 60000) (.int 4)) (.int 1)) = true → sc X ρ3 (0, .arg 19296, .op2 .iand (.arg 60000) (.int 15)) = true → ρ3.2.1 5121 = ρ.2.2.2.1 5281 0 → ρ3.1 20032 = ρ.1 20032 - 1 → (∀ j, j < m → ρ3.2.2.1 19872 j = ρ.2.2.1 19872 (j + 1)) → (∀ j, j < m → ρ3.2.2.2.1 5281 j = ρ.2.2.2.1 5281 (j + 1)) → AT X zH c_pull4 1 ρ0 ρ3 q_pull4e := by
    intro m ρ3 hm hm7 l1 l2 l4 e1 e2 e3 e4 e5 e6 e7
    have same : ∀ x, x < 65536 → x ∉ c_pull4.2.2.2.2.1.1 → ρ3.1 x = ρ.1 x ∧ ρ3.2.1 x = ρ.2.1 x := fun x h1 h2 => ⟨((l4.1 x h1 h2).1).trans ((k4.1 x h1 h2).1).symm, ((l4.1 x h1 h2).2).trans ((k4.1 x h1 h2).2).symm⟩
    have samA : ∀ x, x < 65536 → x ∉ c_pull4.2.2.2.2.1.2 → ρ3.2.2.1 x = ρ.2.2.1 x ∧ ρ3.2.2.2.1 x = ρ.2.2.2.1 x := fun x h1 h2 => ⟨((l4.2 x h1 h2).1).trans ((k4.2 x h1 h2).1).symm, ((l4.2 x h1 h2).2).trans ((k4.2 x h1 h2).2).symm⟩
    have s1 := (same 1856 (by decide) (by decide)).1
    have s2 := (same 60064 (by decide) (by decide)).1
    have s3 := (same 60033 (by decide) (by decide)).2
    have s4 := (samA 1696 (by decide) (by decide)).1
    have s5 := (samA 1569 (by decide) (by decide)).2
    have ip3 : (ρ3.1 1856 - ρ3.1 20032).toInt = (ρ.1 1856).toInt - (ρ.1 20032).toInt + 1 := by
      rw [Int32.toInt_sub, s1, e5, i1]
      rw [Int.bmod_eq_of_le (by omega) (by omega)]
      omega
    refine AT_of (q := q_pull4n) rfl rfl (CUT_run kR_x kR_0 (Cs := []) (fun C hC => by cases hC) c_pull4_f (Q := []) hv (fun q hq => by cases hq) 60 (b1 := true) (b2 := true) k_pull4n ρ3 l1 ⟨l2, ?_⟩ (fun c hc => by cases hc) l4)
    refine fcq e1 (fcq e2 (fcq e3 (fcq (decide_eq_true (show ρ3.2.1 5121 = ρ3.2.1 60033 by rw [e4, hVB, s3])) (fcq (decide_eq_true (show ρ3.1 20032 = ρ3.1 60064 - 1 by rw [e5, s2, hN])) (fcq (decide_eq_false ?_) (fcq (decide_eq_false ?_) (fcq (decide_eq_false ?_) (fcq (decide_eq_false ?_) (fcq (decide_eq_false ?_) (fcq ?_ (fcq ?_ (fun f hf => by cases hf))))))))))))
    · show ¬ ρ3.1 20032 < 0
      rw [Int32.lt_iff_toInt_lt, z0, e5, i1]; omega
    · show ¬ (8 : Int32) < ρ3.1 20032
      rw [Int32.lt_iff_toInt_lt, z8, e5, i1]; omega
    · show ¬ ρ3.1 1856 < 0
      rw [Int32.lt_iff_toInt_lt, z0, s1]; omega
    · show ¬ (8 : Int32) < ρ3.1 1856
      rw [Int32.lt_iff_toInt_lt, z8, s1]; omega
    · show ¬ ρ3.1 1856 < ρ3.1 20032
      rw [Int32.lt_iff_toInt_lt, s1, e5, i1]; omega
    · show (List.range (ρ3.1 20032).toInt.toNat).all (fun j => decide (ρ3.2.2.1 1696 ((ρ3.1 1856 - ρ3.1 20032).toInt.toNat + j) = ρ3.2.2.1 19872 j)) = true
      refine n106_of (fun j hj => ?_)
      rw [e5, i1] at hj
      rw [ip3, s4, e6 j (by omega)]
      have h := n106_get h6 (j := j + 1) (by omega)
      rw [ip] at h
      rw [show ((ρ.1 1856).toInt - (ρ.1 20032).toInt + 1).toNat + j = ((ρ.1 1856).toInt - (ρ.1 20032).toInt).toNat + (j + 1) by omega]
      exact h
    · show (List.range (ρ3.1 20032).toInt.toNat).all (fun j => decide (ρ3.2.2.2.1 1569 ((ρ3.1 1856 - ρ3.1 20032).toInt.toNat + j) = ρ3.2.2.2.1 5281 j)) = true
      refine n106_of (fun j hj => ?_)
      rw [e5, i1] at hj
      rw [ip3, s5, e7 j (by omega)]
      have h := n106_get h7 (j := j + 1) (by omega)
      rw [ip] at h
      rw [show ((ρ.1 1856).toInt - (ρ.1 20032).toInt + 1).toNat + j = ((ρ.1 1856).toInt - (ρ.1 20032).toInt).toNat + (j + 1) by omega]
      exact h
  rcases (show (ρ.1 20032).toInt = 1 ∨ (ρ.1 20032).toInt = 2 ∨ (ρ.1 20032).toInt = 3 ∨ (ρ.1 20032).toInt = 4 ∨ (ρ.1 20032).toInt = 5 ∨ (ρ.1 20032).toInt = 6 ∨ (ρ.1 20032).toInt = 7 ∨ (ρ.1 20032).toInt = 8 by omega) with hk | hk | hk | hk | hk | hk | hk | hk
  · have ek : ρ.1 20032 = 1 := Int32.toInt_inj.mp (by rw [hk]; rfl)
    refine AT_of (q := q_pull41) rfl rfl (SEM_runB kR_x kR_0 (Cs := []) (fun C hC => by cases hC) c_pull4_f (Q := w_pull41) hv 120 (b1 := false) (b2 := true) k_pull41 k1 ⟨k2.1, fun f hf => by rw [List.mem_singleton.mp hf]; exact decide_eq_true ek⟩ (fun c hc => by cases hc) k4 (fun p hp ρ3 m1 m2 m3 m4 m5 m6 => ?_))
    rw [List.mem_singleton.mp hp] at m2 m3 m5 m6 ⊢
    have sV : ρ3.1 60000 = ρ.2.2.1 19872 0 := (((m4.1 60000 (by decide) (by decide)).1).trans ((k4.1 60000 (by decide) (by decide)).1).symm).trans hV.symm
    have y1 : ρ3.1 19264 = hd5 (ρ.2.2.1 19872 0) := congrArg Prod.fst (m5 (19264, .op2 .iushr (.elem (.arg 19872) (.int 0)) (.int 5)) (List.mem_cons_self))
    have y2 : ρ3.1 5282 = hd4 (ρ.2.2.1 19872 0) := congrArg Prod.fst (m5 (5282, .op2 .iand (.op2 .iushr (.elem (.arg 19872) (.int 0)) (.int 4)) (.int 1)) (List.mem_cons_of_mem _ (List.mem_cons_self)))
    have y3 : ρ3.1 19296 = hdl (ρ.2.2.1 19872 0) := congrArg Prod.fst (m5 (19296, .op2 .iand (.elem (.arg 19872) (.int 0)) (.int 15)) (List.mem_cons_of_mem _ (List.mem_cons_of_mem _ (List.mem_cons_self))))
    refine fin 0 ρ3 hk (by decide) m1 m2.1 m4 (decide_eq_true (show ρ3.1 19264 = hd5 (ρ3.1 60000) by rw [y1, sV])) (decide_eq_true (show ρ3.1 5282 = hd4 (ρ3.1 60000) by rw [y2, sV])) (decide_eq_true (show ρ3.1 19296 = hdl (ρ3.1 60000) by rw [y3, sV])) (congrArg Prod.snd (m5 (5121, .elem (.arg 5281) (.int 0)) (List.mem_cons_of_mem _ (List.mem_cons_of_mem _ (List.mem_cons_of_mem _ (List.mem_cons_self)))))) (congrArg Prod.fst (m5 (20032, .sub (.arg 20032) (.int 1)) (List.mem_cons_of_mem _ (List.mem_cons_of_mem _ (List.mem_cons_of_mem _ (List.mem_cons_of_mem _ (List.mem_cons_self))))))) (fun j hj => ?_) (fun j hj => ?_)
    · have h := m6 (19872, .arg 19872, (List.range 0).reverse.map (fun k => (Jvm.Term.int (Int32.ofNat k), Jvm.Term.elem (.arg 19872) (.int (Int32.ofNat (k + 1)))))) (List.mem_cons_self) j
      rw [bd_ev (by decide), aden_sf 0 (by decide) hj, sv_int rfl] at h
      refine (Value.int.inj h).trans ?_
      show ρ.2.2.1 19872 (Int32.ofNat (j + 1)).toNatClampNeg = _
      rw [s_nat, Int32.toInt_ofNat_small (by omega)]
      rfl
    · have h := m6 (5281, .arg 5281, (List.range 0).reverse.map (fun k => (Jvm.Term.int (Int32.ofNat k), Jvm.Term.elem (.arg 5281) (.int (Int32.ofNat (k + 1)))))) (List.mem_cons_of_mem _ List.mem_cons_self) j
      rw [bd_od (by decide), aden_sf 0 (by decide) hj, sv_long rfl] at h
      refine (Value.long.inj h).trans ?_
      show ρ.2.2.2.1 5281 (Int32.ofNat (j + 1)).toNatClampNeg = _
      rw [s_nat, Int32.toInt_ofNat_small (by omega)]
      rfl
  · have ek : ρ.1 20032 = 2 := Int32.toInt_inj.mp (by rw [hk]; rfl)
    refine AT_of (q := q_pull42) rfl rfl (SEM_runB kR_x kR_0 (Cs := []) (fun C hC => by cases hC) c_pull4_f (Q := w_pull42) hv 180 (b1 := false) (b2 := true) k_pull42 k1 ⟨k2.1, fun f hf => by rw [List.mem_singleton.mp hf]; exact decide_eq_true ek⟩ (fun c hc => by cases hc) k4 (fun p hp ρ3 m1 m2 m3 m4 m5 m6 => ?_))
    rw [List.mem_singleton.mp hp] at m2 m3 m5 m6 ⊢
    have sV : ρ3.1 60000 = ρ.2.2.1 19872 0 := (((m4.1 60000 (by decide) (by decide)).1).trans ((k4.1 60000 (by decide) (by decide)).1).symm).trans hV.symm
    have y1 : ρ3.1 19264 = hd5 (ρ.2.2.1 19872 0) := congrArg Prod.fst (m5 (19264, .op2 .iushr (.elem (.arg 19872) (.int 0)) (.int 5)) (List.mem_cons_self))
    have y2 : ρ3.1 5282 = hd4 (ρ.2.2.1 19872 0) := congrArg Prod.fst (m5 (5282, .op2 .iand (.op2 .iushr (.elem (.arg 19872) (.int 0)) (.int 4)) (.int 1)) (List.mem_cons_of_mem _ (List.mem_cons_self)))
    have y3 : ρ3.1 19296 = hdl (ρ.2.2.1 19872 0) := congrArg Prod.fst (m5 (19296, .op2 .iand (.elem (.arg 19872) (.int 0)) (.int 15)) (List.mem_cons_of_mem _ (List.mem_cons_of_mem _ (List.mem_cons_self))))
    refine fin 1 ρ3 hk (by decide) m1 m2.1 m4 (decide_eq_true (show ρ3.1 19264 = hd5 (ρ3.1 60000) by rw [y1, sV])) (decide_eq_true (show ρ3.1 5282 = hd4 (ρ3.1 60000) by rw [y2, sV])) (decide_eq_true (show ρ3.1 19296 = hdl (ρ3.1 60000) by rw [y3, sV])) (congrArg Prod.snd (m5 (5121, .elem (.arg 5281) (.int 0)) (List.mem_cons_of_mem _ (List.mem_cons_of_mem _ (List.mem_cons_of_mem _ (List.mem_cons_self)))))) (congrArg Prod.fst (m5 (20032, .sub (.arg 20032) (.int 1)) (List.mem_cons_of_mem _ (List.mem_cons_of_mem _ (List.mem_cons_of_mem _ (List.mem_cons_of_mem _ (List.mem_cons_self))))))) (fun j hj => ?_) (fun j hj => ?_)
    · have h := m6 (19872, .arg 19872, (List.range 1).reverse.map (fun k => (Jvm.Term.int (Int32.ofNat k), Jvm.Term.elem (.arg 19872) (.int (Int32.ofNat (k + 1)))))) (List.mem_cons_self) j
      rw [bd_ev (by decide), aden_sf 1 (by decide) hj, sv_int rfl] at h
      refine (Value.int.inj h).trans ?_
      show ρ.2.2.1 19872 (Int32.ofNat (j + 1)).toNatClampNeg = _
      rw [s_nat, Int32.toInt_ofNat_small (by omega)]
      rfl
    · have h := m6 (5281, .arg 5281, (List.range 1).reverse.map (fun k => (Jvm.Term.int (Int32.ofNat k), Jvm.Term.elem (.arg 5281) (.int (Int32.ofNat (k + 1)))))) (List.mem_cons_of_mem _ List.mem_cons_self) j
      rw [bd_od (by decide), aden_sf 1 (by decide) hj, sv_long rfl] at h
      refine (Value.long.inj h).trans ?_
      show ρ.2.2.2.1 5281 (Int32.ofNat (j + 1)).toNatClampNeg = _
      rw [s_nat, Int32.toInt_ofNat_small (by omega)]
      rfl
  · have ek : ρ.1 20032 = 3 := Int32.toInt_inj.mp (by rw [hk]; rfl)
    refine AT_of (q := q_pull43) rfl rfl (SEM_runB kR_x kR_0 (Cs := []) (fun C hC => by cases hC) c_pull4_f (Q := w_pull43) hv 240 (b1 := false) (b2 := true) k_pull43 k1 ⟨k2.1, fun f hf => by rw [List.mem_singleton.mp hf]; exact decide_eq_true ek⟩ (fun c hc => by cases hc) k4 (fun p hp ρ3 m1 m2 m3 m4 m5 m6 => ?_))
    rw [List.mem_singleton.mp hp] at m2 m3 m5 m6 ⊢
    have sV : ρ3.1 60000 = ρ.2.2.1 19872 0 := (((m4.1 60000 (by decide) (by decide)).1).trans ((k4.1 60000 (by decide) (by decide)).1).symm).trans hV.symm
    have y1 : ρ3.1 19264 = hd5 (ρ.2.2.1 19872 0) := congrArg Prod.fst (m5 (19264, .op2 .iushr (.elem (.arg 19872) (.int 0)) (.int 5)) (List.mem_cons_self))
    have y2 : ρ3.1 5282 = hd4 (ρ.2.2.1 19872 0) := congrArg Prod.fst (m5 (5282, .op2 .iand (.op2 .iushr (.elem (.arg 19872) (.int 0)) (.int 4)) (.int 1)) (List.mem_cons_of_mem _ (List.mem_cons_self)))
    have y3 : ρ3.1 19296 = hdl (ρ.2.2.1 19872 0) := congrArg Prod.fst (m5 (19296, .op2 .iand (.elem (.arg 19872) (.int 0)) (.int 15)) (List.mem_cons_of_mem _ (List.mem_cons_of_mem _ (List.mem_cons_self))))
    refine fin 2 ρ3 hk (by decide) m1 m2.1 m4 (decide_eq_true (show ρ3.1 19264 = hd5 (ρ3.1 60000) by rw [y1, sV])) (decide_eq_true (show ρ3.1 5282 = hd4 (ρ3.1 60000) by rw [y2, sV])) (decide_eq_true (show ρ3.1 19296 = hdl (ρ3.1 60000) by rw [y3, sV])) (congrArg Prod.snd (m5 (5121, .elem (.arg 5281) (.int 0)) (List.mem_cons_of_mem _ (List.mem_cons_of_mem _ (List.mem_cons_of_mem _ (List.mem_cons_self)))))) (congrArg Prod.fst (m5 (20032, .sub (.arg 20032) (.int 1)) (List.mem_cons_of_mem _ (List.mem_cons_of_mem _ (List.mem_cons_of_mem _ (List.mem_cons_of_mem _ (List.mem_cons_self))))))) (fun j hj => ?_) (fun j hj => ?_)
    · have h := m6 (19872, .arg 19872, (List.range 2).reverse.map (fun k => (Jvm.Term.int (Int32.ofNat k), Jvm.Term.elem (.arg 19872) (.int (Int32.ofNat (k + 1)))))) (List.mem_cons_self) j
      rw [bd_ev (by decide), aden_sf 2 (by decide) hj, sv_int rfl] at h
      refine (Value.int.inj h).trans ?_
      show ρ.2.2.1 19872 (Int32.ofNat (j + 1)).toNatClampNeg = _
      rw [s_nat, Int32.toInt_ofNat_small (by omega)]
      rfl
    · have h := m6 (5281, .arg 5281, (List.range 2).reverse.map (fun k => (Jvm.Term.int (Int32.ofNat k), Jvm.Term.elem (.arg 5281) (.int (Int32.ofNat (k + 1)))))) (List.mem_cons_of_mem _ List.mem_cons_self) j
      rw [bd_od (by decide), aden_sf 2 (by decide) hj, sv_long rfl] at h
      refine (Value.long.inj h).trans ?_
      show ρ.2.2.2.1 5281 (Int32.ofNat (j + 1)).toNatClampNeg = _
      rw [s_nat, Int32.toInt_ofNat_small (by omega)]
      rfl
  · have ek : ρ.1 20032 = 4 := Int32.toInt_inj.mp (by rw [hk]; rfl)
    refine AT_of (q := q_pull44) rfl rfl (SEM_runB kR_x kR_0 (Cs := []) (fun C hC => by cases hC) c_pull4_f (Q := w_pull44) hv 300 (b1 := false) (b2 := true) k_pull44 k1 ⟨k2.1, fun f hf => by rw [List.mem_singleton.mp hf]; exact decide_eq_true ek⟩ (fun c hc => by cases hc) k4 (fun p hp ρ3 m1 m2 m3 m4 m5 m6 => ?_))
    rw [List.mem_singleton.mp hp] at m2 m3 m5 m6 ⊢
    have sV : ρ3.1 60000 = ρ.2.2.1 19872 0 := (((m4.1 60000 (by decide) (by decide)).1).trans ((k4.1 60000 (by decide) (by decide)).1).symm).trans hV.symm
    have y1 : ρ3.1 19264 = hd5 (ρ.2.2.1 19872 0) := congrArg Prod.fst (m5 (19264, .op2 .iushr (.elem (.arg 19872) (.int 0)) (.int 5)) (List.mem_cons_self))
    have y2 : ρ3.1 5282 = hd4 (ρ.2.2.1 19872 0) := congrArg Prod.fst (m5 (5282, .op2 .iand (.op2 .iushr (.elem (.arg 19872) (.int 0)) (.int 4)) (.int 1)) (List.mem_cons_of_mem _ (List.mem_cons_self)))
    have y3 : ρ3.1 19296 = hdl (ρ.2.2.1 19872 0) := congrArg Prod.fst (m5 (19296, .op2 .iand (.elem (.arg 19872) (.int 0)) (.int 15)) (List.mem_cons_of_mem _ (List.mem_cons_of_mem _ (List.mem_cons_self))))
    refine fin 3 ρ3 hk (by decide) m1 m2.1 m4 (decide_eq_true (show ρ3.1 19264 = hd5 (ρ3.1 60000) by rw [y1, sV])) (decide_eq_true (show ρ3.1 5282 = hd4 (ρ3.1 60000) by rw [y2, sV])) (decide_eq_true (show ρ3.1 19296 = hdl (ρ3.1 60000) by rw [y3, sV])) (congrArg Prod.snd (m5 (5121, .elem (.arg 5281) (.int 0)) (List.mem_cons_of_mem _ (List.mem_cons_of_mem _ (List.mem_cons_of_mem _ (List.mem_cons_self)))))) (congrArg Prod.fst (m5 (20032, .sub (.arg 20032) (.int 1)) (List.mem_cons_of_mem _ (List.mem_cons_of_mem _ (List.mem_cons_of_mem _ (List.mem_cons_of_mem _ (List.mem_cons_self))))))) (fun j hj => ?_) (fun j hj => ?_)
    · have h := m6 (19872, .arg 19872, (List.range 3).reverse.map (fun k => (Jvm.Term.int (Int32.ofNat k), Jvm.Term.elem (.arg 19872) (.int (Int32.ofNat (k + 1)))))) (List.mem_cons_self) j
      rw [bd_ev (by decide), aden_sf 3 (by decide) hj, sv_int rfl] at h
      refine (Value.int.inj h).trans ?_
      show ρ.2.2.1 19872 (Int32.ofNat (j + 1)).toNatClampNeg = _
      rw [s_nat, Int32.toInt_ofNat_small (by omega)]
      rfl
    · have h := m6 (5281, .arg 5281, (List.range 3).reverse.map (fun k => (Jvm.Term.int (Int32.ofNat k), Jvm.Term.elem (.arg 5281) (.int (Int32.ofNat (k + 1)))))) (List.mem_cons_of_mem _ List.mem_cons_self) j
      rw [bd_od (by decide), aden_sf 3 (by decide) hj, sv_long rfl] at h
      refine (Value.long.inj h).trans ?_
      show ρ.2.2.2.1 5281 (Int32.ofNat (j + 1)).toNatClampNeg = _
      rw [s_nat, Int32.toInt_ofNat_small (by omega)]
      rfl
  · have ek : ρ.1 20032 = 5 := Int32.toInt_inj.mp (by rw [hk]; rfl)
    refine AT_of (q := q_pull45) rfl rfl (SEM_runB kR_x kR_0 (Cs := []) (fun C hC => by cases hC) c_pull4_f (Q := w_pull45) hv 360 (b1 := false) (b2 := true) k_pull45 k1 ⟨k2.1, fun f hf => by rw [List.mem_singleton.mp hf]; exact decide_eq_true ek⟩ (fun c hc => by cases hc) k4 (fun p hp ρ3 m1 m2 m3 m4 m5 m6 => ?_))
    rw [List.mem_singleton.mp hp] at m2 m3 m5 m6 ⊢
    have sV : ρ3.1 60000 = ρ.2.2.1 19872 0 := (((m4.1 60000 (by decide) (by decide)).1).trans ((k4.1 60000 (by decide) (by decide)).1).symm).trans hV.symm
    have y1 : ρ3.1 19264 = hd5 (ρ.2.2.1 19872 0) := congrArg Prod.fst (m5 (19264, .op2 .iushr (.elem (.arg 19872) (.int 0)) (.int 5)) (List.mem_cons_self))
    have y2 : ρ3.1 5282 = hd4 (ρ.2.2.1 19872 0) := congrArg Prod.fst (m5 (5282, .op2 .iand (.op2 .iushr (.elem (.arg 19872) (.int 0)) (.int 4)) (.int 1)) (List.mem_cons_of_mem _ (List.mem_cons_self)))
    have y3 : ρ3.1 19296 = hdl (ρ.2.2.1 19872 0) := congrArg Prod.fst (m5 (19296, .op2 .iand (.elem (.arg 19872) (.int 0)) (.int 15)) (List.mem_cons_of_mem _ (List.mem_cons_of_mem _ (List.mem_cons_self))))
    refine fin 4 ρ3 hk (by decide) m1 m2.1 m4 (decide_eq_true (show ρ3.1 19264 = hd5 (ρ3.1 60000) by rw [y1, sV])) (decide_eq_true (show ρ3.1 5282 = hd4 (ρ3.1 60000) by rw [y2, sV])) (decide_eq_true (show ρ3.1 19296 = hdl (ρ3.1 60000) by rw [y3, sV])) (congrArg Prod.snd (m5 (5121, .elem (.arg 5281) (.int 0)) (List.mem_cons_of_mem _ (List.mem_cons_of_mem _ (List.mem_cons_of_mem _ (List.mem_cons_self)))))) (congrArg Prod.fst (m5 (20032, .sub (.arg 20032) (.int 1)) (List.mem_cons_of_mem _ (List.mem_cons_of_mem _ (List.mem_cons_of_mem _ (List.mem_cons_of_mem _ (List.mem_cons_self))))))) (fun j hj => ?_) (fun j hj => ?_)
    · have h := m6 (19872, .arg 19872, (List.range 4).reverse.map (fun k => (Jvm.Term.int (Int32.ofNat k), Jvm.Term.elem (.arg 19872) (.int (Int32.ofNat (k + 1)))))) (List.mem_cons_self) j
      rw [bd_ev (by decide), aden_sf 4 (by decide) hj, sv_int rfl] at h
      refine (Value.int.inj h).trans ?_
      show ρ.2.2.1 19872 (Int32.ofNat (j + 1)).toNatClampNeg = _
      rw [s_nat, Int32.toInt_ofNat_small (by omega)]
      rfl
    · have h := m6 (5281, .arg 5281, (List.range 4).reverse.map (fun k => (Jvm.Term.int (Int32.ofNat k), Jvm.Term.elem (.arg 5281) (.int (Int32.ofNat (k + 1)))))) (List.mem_cons_of_mem _ List.mem_cons_self) j
      rw [bd_od (by decide), aden_sf 4 (by decide) hj, sv_long rfl] at h
      refine (Value.long.inj h).trans ?_
      show ρ.2.2.2.1 5281 (Int32.ofNat (j + 1)).toNatClampNeg = _
      rw [s_nat, Int32.toInt_ofNat_small (by omega)]
      rfl
  · have ek : ρ.1 20032 = 6 := Int32.toInt_inj.mp (by rw [hk]; rfl)
    refine AT_of (q := q_pull46) rfl rfl (SEM_runB kR_x kR_0 (Cs := []) (fun C hC => by cases hC) c_pull4_f (Q := w_pull46) hv 420 (b1 := false) (b2 := true) k_pull46 k1 ⟨k2.1, fun f hf => by rw [List.mem_singleton.mp hf]; exact decide_eq_true ek⟩ (fun c hc => by cases hc) k4 (fun p hp ρ3 m1 m2 m3 m4 m5 m6 => ?_))
    rw [List.mem_singleton.mp hp] at m2 m3 m5 m6 ⊢
    have sV : ρ3.1 60000 = ρ.2.2.1 19872 0 := (((m4.1 60000 (by decide) (by decide)).1).trans ((k4.1 60000 (by decide) (by decide)).1).symm).trans hV.symm
    have y1 : ρ3.1 19264 = hd5 (ρ.2.2.1 19872 0) := congrArg Prod.fst (m5 (19264, .op2 .iushr (.elem (.arg 19872) (.int 0)) (.int 5)) (List.mem_cons_self))
    have y2 : ρ3.1 5282 = hd4 (ρ.2.2.1 19872 0) := congrArg Prod.fst (m5 (5282, .op2 .iand (.op2 .iushr (.elem (.arg 19872) (.int 0)) (.int 4)) (.int 1)) (List.mem_cons_of_mem _ (List.mem_cons_self)))
    have y3 : ρ3.1 19296 = hdl (ρ.2.2.1 19872 0) := congrArg Prod.fst (m5 (19296, .op2 .iand (.elem (.arg 19872) (.int 0)) (.int 15)) (List.mem_cons_of_mem _ (List.mem_cons_of_mem _ (List.mem_cons_self))))
    refine fin 5 ρ3 hk (by decide) m1 m2.1 m4 (decide_eq_true (show ρ3.1 19264 = hd5 (ρ3.1 60000) by rw [y1, sV])) (decide_eq_true (show ρ3.1 5282 = hd4 (ρ3.1 60000) by rw [y2, sV])) (decide_eq_true (show ρ3.1 19296 = hdl (ρ3.1 60000) by rw [y3, sV])) (congrArg Prod.snd (m5 (5121, .elem (.arg 5281) (.int 0)) (List.mem_cons_of_mem _ (List.mem_cons_of_mem _ (List.mem_cons_of_mem _ (List.mem_cons_self)))))) (congrArg Prod.fst (m5 (20032, .sub (.arg 20032) (.int 1)) (List.mem_cons_of_mem _ (List.mem_cons_of_mem _ (List.mem_cons_of_mem _ (List.mem_cons_of_mem _ (List.mem_cons_self))))))) (fun j hj => ?_) (fun j hj => ?_)
    · have h := m6 (19872, .arg 19872, (List.range 5).reverse.map (fun k => (Jvm.Term.int (Int32.ofNat k), Jvm.Term.elem (.arg 19872) (.int (Int32.ofNat (k + 1)))))) (List.mem_cons_self) j
      rw [bd_ev (by decide), aden_sf 5 (by decide) hj, sv_int rfl] at h
      refine (Value.int.inj h).trans ?_
      show ρ.2.2.1 19872 (Int32.ofNat (j + 1)).toNatClampNeg = _
      rw [s_nat, Int32.toInt_ofNat_small (by omega)]
      rfl
    · have h := m6 (5281, .arg 5281, (List.range 5).reverse.map (fun k => (Jvm.Term.int (Int32.ofNat k), Jvm.Term.elem (.arg 5281) (.int (Int32.ofNat (k + 1)))))) (List.mem_cons_of_mem _ List.mem_cons_self) j
      rw [bd_od (by decide), aden_sf 5 (by decide) hj, sv_long rfl] at h
      refine (Value.long.inj h).trans ?_
      show ρ.2.2.2.1 5281 (Int32.ofNat (j + 1)).toNatClampNeg = _
      rw [s_nat, Int32.toInt_ofNat_small (by omega)]
      rfl
  · have ek : ρ.1 20032 = 7 := Int32.toInt_inj.mp (by rw [hk]; rfl)
    refine AT_of (q := q_pull47) rfl rfl (SEM_runB kR_x kR_0 (Cs := []) (fun C hC => by cases hC) c_pull4_f (Q := w_pull47) hv 480 (b1 := false) (b2 := true) k_pull47 k1 ⟨k2.1, fun f hf => by rw [List.mem_singleton.mp hf]; exact decide_eq_true ek⟩ (fun c hc => by cases hc) k4 (fun p hp ρ3 m1 m2 m3 m4 m5 m6 => ?_))
    rw [List.mem_singleton.mp hp] at m2 m3 m5 m6 ⊢
    have sV : ρ3.1 60000 = ρ.2.2.1 19872 0 := (((m4.1 60000 (by decide) (by decide)).1).trans ((k4.1 60000 (by decide) (by decide)).1).symm).trans hV.symm
    have y1 : ρ3.1 19264 = hd5 (ρ.2.2.1 19872 0) := congrArg Prod.fst (m5 (19264, .op2 .iushr (.elem (.arg 19872) (.int 0)) (.int 5)) (List.mem_cons_self))
    have y2 : ρ3.1 5282 = hd4 (ρ.2.2.1 19872 0) := congrArg Prod.fst (m5 (5282, .op2 .iand (.op2 .iushr (.elem (.arg 19872) (.int 0)) (.int 4)) (.int 1)) (List.mem_cons_of_mem _ (List.mem_cons_self)))
    have y3 : ρ3.1 19296 = hdl (ρ.2.2.1 19872 0) := congrArg Prod.fst (m5 (19296, .op2 .iand (.elem (.arg 19872) (.int 0)) (.int 15)) (List.mem_cons_of_mem _ (List.mem_cons_of_mem _ (List.mem_cons_self))))
    refine fin 6 ρ3 hk (by decide) m1 m2.1 m4 (decide_eq_true (show ρ3.1 19264 = hd5 (ρ3.1 60000) by rw [y1, sV])) (decide_eq_true (show ρ3.1 5282 = hd4 (ρ3.1 60000) by rw [y2, sV])) (decide_eq_true (show ρ3.1 19296 = hdl (ρ3.1 60000) by rw [y3, sV])) (congrArg Prod.snd (m5 (5121, .elem (.arg 5281) (.int 0)) (List.mem_cons_of_mem _ (List.mem_cons_of_mem _ (List.mem_cons_of_mem _ (List.mem_cons_self)))))) (congrArg Prod.fst (m5 (20032, .sub (.arg 20032) (.int 1)) (List.mem_cons_of_mem _ (List.mem_cons_of_mem _ (List.mem_cons_of_mem _ (List.mem_cons_of_mem _ (List.mem_cons_self))))))) (fun j hj => ?_) (fun j hj => ?_)
    · have h := m6 (19872, .arg 19872, (List.range 6).reverse.map (fun k => (Jvm.Term.int (Int32.ofNat k), Jvm.Term.elem (.arg 19872) (.int (Int32.ofNat (k + 1)))))) (List.mem_cons_self) j
      rw [bd_ev (by decide), aden_sf 6 (by decide) hj, sv_int rfl] at h
      refine (Value.int.inj h).trans ?_
      show ρ.2.2.1 19872 (Int32.ofNat (j + 1)).toNatClampNeg = _
      rw [s_nat, Int32.toInt_ofNat_small (by omega)]
      rfl
    · have h := m6 (5281, .arg 5281, (List.range 6).reverse.map (fun k => (Jvm.Term.int (Int32.ofNat k), Jvm.Term.elem (.arg 5281) (.int (Int32.ofNat (k + 1)))))) (List.mem_cons_of_mem _ List.mem_cons_self) j
      rw [bd_od (by decide), aden_sf 6 (by decide) hj, sv_long rfl] at h
      refine (Value.long.inj h).trans ?_
      show ρ.2.2.2.1 5281 (Int32.ofNat (j + 1)).toNatClampNeg = _
      rw [s_nat, Int32.toInt_ofNat_small (by omega)]
      rfl
  · have ek : ρ.1 20032 = 8 := Int32.toInt_inj.mp (by rw [hk]; rfl)
    refine AT_of (q := q_pull48) rfl rfl (SEM_runB kR_x kR_0 (Cs := []) (fun C hC => by cases hC) c_pull4_f (Q := w_pull48) hv 540 (b1 := false) (b2 := true) k_pull48 k1 ⟨k2.1, fun f hf => by rw [List.mem_singleton.mp hf]; exact decide_eq_true ek⟩ (fun c hc => by cases hc) k4 (fun p hp ρ3 m1 m2 m3 m4 m5 m6 => ?_))
    rw [List.mem_singleton.mp hp] at m2 m3 m5 m6 ⊢
    have sV : ρ3.1 60000 = ρ.2.2.1 19872 0 := (((m4.1 60000 (by decide) (by decide)).1).trans ((k4.1 60000 (by decide) (by decide)).1).symm).trans hV.symm
    have y1 : ρ3.1 19264 = hd5 (ρ.2.2.1 19872 0) := congrArg Prod.fst (m5 (19264, .op2 .iushr (.elem (.arg 19872) (.int 0)) (.int 5)) (List.mem_cons_self))
    have y2 : ρ3.1 5282 = hd4 (ρ.2.2.1 19872 0) := congrArg Prod.fst (m5 (5282, .op2 .iand (.op2 .iushr (.elem (.arg 19872) (.int 0)) (.int 4)) (.int 1)) (List.mem_cons_of_mem _ (List.mem_cons_self)))
    have y3 : ρ3.1 19296 = hdl (ρ.2.2.1 19872 0) := congrArg Prod.fst (m5 (19296, .op2 .iand (.elem (.arg 19872) (.int 0)) (.int 15)) (List.mem_cons_of_mem _ (List.mem_cons_of_mem _ (List.mem_cons_self))))
    refine fin 7 ρ3 hk (by decide) m1 m2.1 m4 (decide_eq_true (show ρ3.1 19264 = hd5 (ρ3.1 60000) by rw [y1, sV])) (decide_eq_true (show ρ3.1 5282 = hd4 (ρ3.1 60000) by rw [y2, sV])) (decide_eq_true (show ρ3.1 19296 = hdl (ρ3.1 60000) by rw [y3, sV])) (congrArg Prod.snd (m5 (5121, .elem (.arg 5281) (.int 0)) (List.mem_cons_of_mem _ (List.mem_cons_of_mem _ (List.mem_cons_of_mem _ (List.mem_cons_self)))))) (congrArg Prod.fst (m5 (20032, .sub (.arg 20032) (.int 1)) (List.mem_cons_of_mem _ (List.mem_cons_of_mem _ (List.mem_cons_of_mem _ (List.mem_cons_of_mem _ (List.mem_cons_self))))))) (fun j hj => ?_) (fun j hj => ?_)
    · have h := m6 (19872, .arg 19872, (List.range 7).reverse.map (fun k => (Jvm.Term.int (Int32.ofNat k), Jvm.Term.elem (.arg 19872) (.int (Int32.ofNat (k + 1)))))) (List.mem_cons_self) j
      rw [bd_ev (by decide), aden_sf 7 (by decide) hj, sv_int rfl] at h
      refine (Value.int.inj h).trans ?_
      show ρ.2.2.1 19872 (Int32.ofNat (j + 1)).toNatClampNeg = _
      rw [s_nat, Int32.toInt_ofNat_small (by omega)]
      rfl
    · have h := m6 (5281, .arg 5281, (List.range 7).reverse.map (fun k => (Jvm.Term.int (Int32.ofNat k), Jvm.Term.elem (.arg 5281) (.int (Int32.ofNat (k + 1)))))) (List.mem_cons_of_mem _ List.mem_cons_self) j
      rw [bd_od (by decide), aden_sf 7 (by decide) hj, sv_long rfl] at h
      refine (Value.long.inj h).trans ?_
      show ρ.2.2.2.1 5281 (Int32.ofNat (j + 1)).toNatClampNeg = _
      rw [s_nat, Int32.toInt_ofNat_small (by omega)]
      rfl
theorem s_pull4 {X : pX} : SREL X pF pdfl mt_all kR zH c_pull4 := SREL_cut kR_x kR_0 (Cs := []) (fun C hC => by cases hC) (d := 1) rfl c_pull4_f (Q := [q_pull40]) (fun ρ0 hv q hq => by rw [List.mem_singleton.mp hq]; exact t_pull40 hv) 20 e_pull4
