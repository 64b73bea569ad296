/-! ===== a block goes down: Job.sendBlock and askBlock ===== -/
noncomputable def c_sblk : sC := ((83, 375, 8), ([tr 203, .arg 60036], [tr 219]), ([2, 3, 8, 9, 14, 15, 203, 204], [219, 237, 238, 239, 240, 241, 335]), [((0, .arg 19552, .arg 60036), true), ((2, .arg 60036, .int 1), false), ((2, .int 127, .arg 60036), false), ((0, .arg 19488, .mul (.arg 17952) (.int 7)), true), ((2, .arg 17952, .int 0), false), ((2, .int 22, .arg 17952), false)], ([1418, 1312, 17792, 18048, 17856, 17984, 19584, 19520, 60192], [1536, 1409]), (some (.int 0), none), [((0, .arg 17856, .int 6), true), ((0, .arg 17984, .arg 19584), true), ((2, .arg 17984, .int 1), false), ((2, .int 127, .arg 17984), false)], ([([((0, .arg 1292, .int 0), false)], (2, .mul (.arg 17952) (.int 7), .arg 1292), true), ([((0, .arg 1292, .int 0), true)], (0, .arg 17952, .int 0), true)], [([((0, .arg 1292, .int 0), false)], (2, .mul (.add (.arg 17952) (.arg 17984)) (.int 7), .add (.arg 1292) (.int 7)), true), ([((0, .arg 1292, .int 0), true)], (2, .mul (.add (.arg 17952) (.arg 17984)) (.int 7), .int 8), true), ([((2, .mul (.add (.arg 17952) (.arg 17984)) (.int 7), .arg 1292), true)], (0, .arg 19520, .int 0), true), ([((2, .mul (.add (.arg 17952) (.arg 17984)) (.int 7), .arg 1292), false)], (0, .arg 19520, .int 1), true)]))
theorem c_sblk_f : cfine zJ 65536 c_sblk = true := by decide +kernel
noncomputable def q_bk : sCut := ((fr 0 83 25 [(0, tr 203), (2, .arg 60192), (3, .add (.arg 19584) (.int 1))] [], [fBot], 7), (fr 0 375 6 [(0, tr 219)] [], [fBot], 7), [], [])
noncomputable def q_bkL : sCut := ((fr 0 83 25 [(0, tr 203), (2, .arg 60192), (3, .add (.arg 19584) (.int 1))] [], [fBot], 7), (fr 0 375 6 [(0, tr 219)] [], [fBot], 7), [((2, .arg 17984, .add (.arg 19584) (.int 1)), false), ((0, .add (.arg 19584) (.int 1), .arg 60192), true), ((2, .arg 19584, .arg 19552), true), ((0, .arg 19520, .int 0), true), ((2, .add (.add (.arg 19488) (.mul (.int 7) (.arg 19584))) (.int 7), .arg 1292), false), ((2, .add (.add (.arg 19488) (.mul (.arg 19584) (.int 7))) (.int 7), .arg 1292), false), ((0, .add (.arg 19488) (.mul (.int 7) (.arg 19584)), .mul (.sub (.add (.arg 17952) (.add (.arg 19584) (.int 1))) (.int 1)) (.int 7)), true), ((0, .add (.arg 19488) (.mul (.arg 19584) (.int 7)), .mul (.sub (.add (.arg 17952) (.add (.arg 19584) (.int 1))) (.int 1)) (.int 7)), true), ((0, .mul (.sub (.add (.arg 17952) (.add (.arg 19584) (.int 1))) (.int 1)) (.int 7), .add (.arg 19488) (.mul (.int 7) (.arg 19584))), true), ((0, .mul (.sub (.add (.arg 17952) (.add (.arg 19584) (.int 1))) (.int 1)) (.int 7), .add (.arg 19488) (.mul (.arg 19584) (.int 7))), true), ((2, .mul (.sub (.add (.arg 17952) (.add (.arg 19584) (.int 1))) (.int 1)) (.int 7), .int 0), false), ((2, .int 160, .mul (.sub (.add (.arg 17952) (.add (.arg 19584) (.int 1))) (.int 1)) (.int 7)), false), ((2, .arg 19584, .int 0), false), ((2, .int 126, .arg 19584), false)], [])
noncomputable def w_bkL : List (sCut × List (Nat × sT)) := [(q_bk, [(19584, .add (.arg 19584) (.int 1)), (19520, .int 1), (60192, .arg 60192), (17984, .arg 17984), (17856, .arg 17856)])]
theorem k_bkL : cbody kR [(zJR, c_reqj), (zJ, c_sev)] (cpl1 zJ c_sblk (w_bkL.map (fun p => p.1))) (cpl2 zJ c_sblk (w_bkL.map (fun p => p.1))) (cleafS kR zJ c_sblk w_bkL) 200 true true q_bkL.2.2.1 q_bkL.2.2.2 (cst zJ c_sblk.2.2.1.1 q_bkL.1) (cst zJ c_sblk.2.2.1.2 q_bkL.2.1) = true := by decide +kernel
noncomputable def q_bkK : sCut := ((fr 0 83 25 [(0, tr 203), (2, .arg 60192), (3, .add (.arg 19584) (.int 1))] [], [fBot], 7), (fr 0 375 6 [(0, tr 219)] [], [fBot], 7), [((2, .arg 17984, .add (.arg 19584) (.int 1)), false), ((0, .add (.arg 19584) (.int 1), .arg 60192), false), ((2, .arg 19584, .arg 19552), true), ((0, .arg 19520, .int 0), true), ((2, .add (.add (.arg 19488) (.mul (.int 7) (.arg 19584))) (.int 7), .arg 1292), true), ((2, .add (.add (.arg 19488) (.mul (.arg 19584) (.int 7))) (.int 7), .arg 1292), true), ((0, .add (.arg 19488) (.mul (.int 7) (.arg 19584)), .mul (.sub (.add (.arg 17952) (.add (.arg 19584) (.int 1))) (.int 1)) (.int 7)), true), ((0, .add (.arg 19488) (.mul (.arg 19584) (.int 7)), .mul (.sub (.add (.arg 17952) (.add (.arg 19584) (.int 1))) (.int 1)) (.int 7)), true), ((0, .mul (.sub (.add (.arg 17952) (.add (.arg 19584) (.int 1))) (.int 1)) (.int 7), .add (.arg 19488) (.mul (.int 7) (.arg 19584))), true), ((0, .mul (.sub (.add (.arg 17952) (.add (.arg 19584) (.int 1))) (.int 1)) (.int 7), .add (.arg 19488) (.mul (.arg 19584) (.int 7))), true), ((2, .mul (.sub (.add (.arg 17952) (.add (.arg 19584) (.int 1))) (.int 1)) (.int 7), .int 0), false), ((2, .int 160, .mul (.sub (.add (.arg 17952) (.add (.arg 19584) (.int 1))) (.int 1)) (.int 7)), false), ((2, .arg 19584, .int 0), false), ((2, .int 126, .arg 19584), false)], [])
noncomputable def w_bkK : List (sCut × List (Nat × sT)) := [(q_bk, [(19584, .add (.arg 19584) (.int 1)), (19520, .int 0), (60192, .arg 60192), (17984, .arg 17984), (17856, .arg 17856)])]
theorem k_bkK : cbody kR [(zJR, c_reqj), (zJ, c_sev)] (cpl1 zJ c_sblk (w_bkK.map (fun p => p.1))) (cpl2 zJ c_sblk (w_bkK.map (fun p => p.1))) (cleafS kR zJ c_sblk w_bkK) 200 true true q_bkK.2.2.1 q_bkK.2.2.2 (cst zJ c_sblk.2.2.1.1 q_bkK.1) (cst zJ c_sblk.2.2.1.2 q_bkK.2.1) = true := by decide +kernel
noncomputable def q_bkx1a : sCut := ((fr 0 83 25 [(0, tr 203), (2, .arg 60192), (3, .add (.arg 19584) (.int 1))] [], [fBot], 7), (fr 0 375 6 [(0, tr 219)] [], [fBot], 7), [((2, .arg 19584, .arg 19552), true), ((0, .arg 19520, .int 1), true), ((2, .mul (.add (.arg 17952) (.arg 17984)) (.int 7), .arg 1292), false), ((0, .arg 1292, .int 0), false), ((2, .mul (.add (.arg 17952) (.arg 17984)) (.int 7), .add (.arg 1292) (.int 7)), true), ((2, .arg 17984, .add (.arg 19584) (.int 1)), true), ((0, .arg 17856, .int 6), true), ((0, .arg 17984, .arg 19584), true), ((2, .arg 17984, .int 1), false), ((2, .int 127, .arg 17984), false)], [])
theorem k_bkx1a : cbody kR [] (cpl1 zJ c_sblk []) (cpl2 zJ c_sblk []) (cleaf kR zJ c_sblk []) 60 true true q_bkx1a.2.2.1 q_bkx1a.2.2.2 (cst zJ c_sblk.2.2.1.1 q_bkx1a.1) (cst zJ c_sblk.2.2.1.2 q_bkx1a.2.1) = true := by decide +kernel
theorem t_bkx1a {X : pX} {ρ0 : sR} (hv : vok X ρ0) : CUTOK X kR zJ c_sblk 7 ρ0 q_bkx1a := CUT_run kR_x kR_0 (Cs := []) (fun C hC => by cases hC) c_sblk_f (Q := []) hv (fun q hq => by cases hq) 60 (b1 := true) (b2 := true) k_bkx1a
noncomputable def q_bkx1b : sCut := ((fr 0 83 25 [(0, tr 203), (2, .arg 60192), (3, .add (.arg 19584) (.int 1))] [], [fBot], 7), (fr 0 375 6 [(0, tr 219)] [], [fBot], 7), [((2, .arg 19584, .arg 19552), false), ((0, .arg 19520, .int 1), true), ((2, .mul (.add (.arg 17952) (.arg 17984)) (.int 7), .arg 1292), false), ((0, .arg 1292, .int 0), false), ((2, .mul (.add (.arg 17952) (.arg 17984)) (.int 7), .add (.arg 1292) (.int 7)), true), ((2, .arg 17984, .add (.arg 19584) (.int 1)), true), ((0, .arg 17856, .int 6), true), ((0, .arg 17984, .arg 19584), true), ((2, .arg 17984, .int 1), false), ((2, .int 127, .arg 17984), false)], [])
theorem k_bkx1b : cbody kR [] (cpl1 zJ c_sblk []) (cpl2 zJ c_sblk []) (cleaf kR zJ c_sblk []) 60 true true q_bkx1b.2.2.1 q_bkx1b.2.2.2 (cst zJ c_sblk.2.2.1.1 q_bkx1b.1) (cst zJ c_sblk.2.2.1.2 q_bkx1b.2.1) = true := by decide +kernel
theorem t_bkx1b {X : pX} {ρ0 : sR} (hv : vok X ρ0) : CUTOK X kR zJ c_sblk 7 ρ0 q_bkx1b := CUT_run kR_x kR_0 (Cs := []) (fun C hC => by cases hC) c_sblk_f (Q := []) hv (fun q hq => by cases hq) 60 (b1 := true) (b2 := true) k_bkx1b
noncomputable def q_bkx2a : sCut := ((fr 0 83 25 [(0, tr 203), (2, .arg 60192), (3, .add (.arg 19584) (.int 1))] [], [fBot], 7), (fr 0 375 6 [(0, tr 219)] [], [fBot], 7), [((2, .arg 19584, .arg 19552), true), ((0, .arg 19520, .int 1), true), ((2, .mul (.add (.arg 17952) (.arg 17984)) (.int 7), .arg 1292), false), ((0, .arg 1292, .int 0), true), ((2, .mul (.add (.arg 17952) (.arg 17984)) (.int 7), .int 8), true), ((2, .arg 17984, .add (.arg 19584) (.int 1)), true), ((0, .arg 17856, .int 6), true), ((0, .arg 17984, .arg 19584), true), ((2, .arg 17984, .int 1), false), ((2, .int 127, .arg 17984), false)], [])
theorem k_bkx2a : cbody kR [] (cpl1 zJ c_sblk []) (cpl2 zJ c_sblk []) (cleaf kR zJ c_sblk []) 60 true true q_bkx2a.2.2.1 q_bkx2a.2.2.2 (cst zJ c_sblk.2.2.1.1 q_bkx2a.1) (cst zJ c_sblk.2.2.1.2 q_bkx2a.2.1) = true := by decide +kernel
theorem t_bkx2a {X : pX} {ρ0 : sR} (hv : vok X ρ0) : CUTOK X kR zJ c_sblk 7 ρ0 q_bkx2a := CUT_run kR_x kR_0 (Cs := []) (fun C hC => by cases hC) c_sblk_f (Q := []) hv (fun q hq => by cases hq) 60 (b1 := true) (b2 := true) k_bkx2a
noncomputable def q_bkx2b : sCut := ((fr 0 83 25 [(0, tr 203), (2, .arg 60192), (3, .add (.arg 19584) (.int 1))] [], [fBot], 7), (fr 0 375 6 [(0, tr 219)] [], [fBot], 7), [((2, .arg 19584, .arg 19552), false), ((0, .arg 19520, .int 1), true), ((2, .mul (.add (.arg 17952) (.arg 17984)) (.int 7), .arg 1292), false), ((0, .arg 1292, .int 0), true), ((2, .mul (.add (.arg 17952) (.arg 17984)) (.int 7), .int 8), true), ((2, .arg 17984, .add (.arg 19584) (.int 1)), true), ((0, .arg 17856, .int 6), true), ((0, .arg 17984, .arg 19584), true), ((2, .arg 17984, .int 1), false), ((2, .int 127, .arg 17984), false)], [])
theorem k_bkx2b : cbody kR [] (cpl1 zJ c_sblk []) (cpl2 zJ c_sblk []) (cleaf kR zJ c_sblk []) 60 true true q_bkx2b.2.2.1 q_bkx2b.2.2.2 (cst zJ c_sblk.2.2.1.1 q_bkx2b.1) (cst zJ c_sblk.2.2.1.2 q_bkx2b.2.1) = true := by decide +kernel
theorem t_bkx2b {X : pX} {ρ0 : sR} (hv : vok X ρ0) : CUTOK X kR zJ c_sblk 7 ρ0 q_bkx2b := CUT_run kR_x kR_0 (Cs := []) (fun C hC => by cases hC) c_sblk_f (Q := []) hv (fun q hq => by cases hq) 60 (b1 := true) (b2 := true) k_bkx2b
noncomputable def q_bkx3b : sCut := ((fr 0 83 25 [(0, tr 203), (2, .arg 60192), (3, .add (.arg 19584) (.int 1))] [], [fBot], 7), (fr 0 375 6 [(0, tr 219)] [], [fBot], 7), [((2, .arg 19584, .arg 19552), false), ((0, .arg 19520, .int 0), true), ((2, .mul (.add (.arg 17952) (.arg 17984)) (.int 7), .arg 1292), true), ((0, .arg 1292, .int 0), false), ((2, .mul (.add (.arg 17952) (.arg 17984)) (.int 7), .add (.arg 1292) (.int 7)), true), ((2, .arg 17984, .add (.arg 19584) (.int 1)), true), ((0, .arg 17856, .int 6), true), ((0, .arg 17984, .arg 19584), true), ((2, .arg 17984, .int 1), false), ((2, .int 127, .arg 17984), false)], [])
theorem k_bkx3b : cbody kR [] (cpl1 zJ c_sblk []) (cpl2 zJ c_sblk []) (cleaf kR zJ c_sblk []) 60 true true q_bkx3b.2.2.1 q_bkx3b.2.2.2 (cst zJ c_sblk.2.2.1.1 q_bkx3b.1) (cst zJ c_sblk.2.2.1.2 q_bkx3b.2.1) = true := by decide +kernel
theorem t_bkx3b {X : pX} {ρ0 : sR} (hv : vok X ρ0) : CUTOK X kR zJ c_sblk 7 ρ0 q_bkx3b := CUT_run kR_x kR_0 (Cs := []) (fun C hC => by cases hC) c_sblk_f (Q := []) hv (fun q hq => by cases hq) 60 (b1 := true) (b2 := true) k_bkx3b
noncomputable def q_bk000 : sCut := ((fr 0 83 25 [(0, tr 203), (2, .arg 60192), (3, .add (.arg 19584) (.int 1))] [], [fBot], 7), (fr 0 375 6 [(0, tr 219)] [], [fBot], 7), [((2, .int 0, .arg 1292), false), ((0, .arg 60192, .sub (.int 1) (.arg 17952)), true), ((0, .arg 17984, .arg 60036), true), ((2, .arg 60192, .arg 60036), false), ((0, .arg 19584, .int 0), true), ((0, .arg 19520, .int 0), true), ((0, .arg 17856, .int 6), true), ((0, .arg 19552, .arg 60036), true), ((2, .arg 60036, .int 1), false), ((2, .int 127, .arg 60036), false), ((0, .arg 19488, .mul (.arg 17952) (.int 7)), true), ((2, .arg 17952, .int 0), false), ((2, .int 22, .arg 17952), false)], [([((0, .arg 1292, .int 0), false)], (2, .mul (.arg 17952) (.int 7), .arg 1292), true), ([((0, .arg 1292, .int 0), true)], (0, .arg 17952, .int 0), true)])
noncomputable def q_bk001 : sCut := ((fr 0 83 25 [(0, tr 203), (2, .arg 60192), (3, .add (.arg 19584) (.int 1))] [], [fBot], 7), (fr 0 375 6 [(0, tr 219)] [], [fBot], 7), [((2, .int 0, .arg 1292), false), ((0, .arg 60192, .sub (.int 1) (.arg 17952)), true), ((0, .arg 17984, .arg 60192), true), ((2, .arg 60192, .arg 60036), true), ((0, .arg 19584, .int 0), true), ((0, .arg 19520, .int 0), true), ((0, .arg 17856, .int 6), true), ((0, .arg 19552, .arg 60036), true), ((2, .arg 60036, .int 1), false), ((2, .int 127, .arg 60036), false), ((0, .arg 19488, .mul (.arg 17952) (.int 7)), true), ((2, .arg 17952, .int 0), false), ((2, .int 22, .arg 17952), false)], [([((0, .arg 1292, .int 0), false)], (2, .mul (.arg 17952) (.int 7), .arg 1292), true), ([((0, .arg 1292, .int 0), true)], (0, .arg 17952, .int 0), true)])
noncomputable def q_bk010 : sCut := ((fr 0 83 25 [(0, tr 203), (2, .arg 60192), (3, .add (.arg 19584) (.int 1))] [], [fBot], 7), (fr 0 375 6 [(0, tr 219)] [], [fBot], 7), [((2, .int 0, .arg 1292), true), ((0, .arg 60192, .sub (.div (.add (.arg 1292) (.int 6)) (.int 7)) (.arg 17952)), true), ((0, .arg 17984, .arg 60036), true), ((2, .arg 60192, .arg 60036), false), ((0, .arg 19584, .int 0), true), ((0, .arg 19520, .int 0), true), ((0, .arg 17856, .int 6), true), ((0, .arg 19552, .arg 60036), true), ((2, .arg 60036, .int 1), false), ((2, .int 127, .arg 60036), false), ((0, .arg 19488, .mul (.arg 17952) (.int 7)), true), ((2, .arg 17952, .int 0), false), ((2, .int 22, .arg 17952), false)], [([((0, .arg 1292, .int 0), false)], (2, .mul (.arg 17952) (.int 7), .arg 1292), true), ([((0, .arg 1292, .int 0), true)], (0, .arg 17952, .int 0), true)])
noncomputable def q_bk011 : sCut := ((fr 0 83 25 [(0, tr 203), (2, .arg 60192), (3, .add (.arg 19584) (.int 1))] [], [fBot], 7), (fr 0 375 6 [(0, tr 219)] [], [fBot], 7), [((2, .int 0, .arg 1292), true), ((0, .arg 60192, .sub (.div (.add (.arg 1292) (.int 6)) (.int 7)) (.arg 17952)), true), ((0, .arg 17984, .arg 60192), true), ((2, .arg 60192, .arg 60036), true), ((0, .arg 19584, .int 0), true), ((0, .arg 19520, .int 0), true), ((0, .arg 17856, .int 6), true), ((0, .arg 19552, .arg 60036), true), ((2, .arg 60036, .int 1), false), ((2, .int 127, .arg 60036), false), ((0, .arg 19488, .mul (.arg 17952) (.int 7)), true), ((2, .arg 17952, .int 0), false), ((2, .int 22, .arg 17952), false)], [([((0, .arg 1292, .int 0), false)], (2, .mul (.arg 17952) (.int 7), .arg 1292), true), ([((0, .arg 1292, .int 0), true)], (0, .arg 17952, .int 0), true)])
theorem e_sblk : frun kR [] (cpl1 zJ c_sblk [q_bk000, q_bk001, q_bk010, q_bk011]) (cpl2 zJ c_sblk [q_bk000, q_bk001, q_bk010, q_bk011]) (cleaf kR zJ c_sblk [q_bk000, q_bk001, q_bk010, q_bk011]) 200 65536 (isatP (c_sblk.2.2.2.1) c_sblk.2.2.2.2.2.2.2.1) c_sblk.2.2.2.2.2.2.2.1 (sin0 mt_all c_sblk.1.1 7 c_sblk.2.1.1 (foot zJ c_sblk.2.2.1.1)) (sin0 mt_all c_sblk.1.2.1 7 c_sblk.2.1.2 (foot zJ c_sblk.2.2.1.2)) = true := by decide +kernel
theorem i_of {x : Int32} {n : Int} (h : x = Int32.ofInt n) (h1 : -2147483648 ≤ n) (h2 : n ≤ 2147483647) : x.toInt = n := by
  subst h
  rw [Int32.toInt_ofInt]
  have e : (Int32.size : Int) = 4294967296 := rfl
  exact Int.bmod_eq_of_le (by show -((4294967296 : Int) / 2) ≤ n; omega) (by show n < ((4294967296 : Int) + 1) / 2; omega)
theorem i_ad {x y : Int32} {m n : Int} (h : x = Int32.ofInt m) (h' : y = Int32.ofInt n) : x + y = Int32.ofInt (m + n) := by rw [h, h', Int32.ofInt_add]
theorem i_sb {x y : Int32} {m n : Int} (h : x = Int32.ofInt m) (h' : y = Int32.ofInt n) : x - y = Int32.ofInt (m - n) := by rw [h, h', Int32.ofInt_sub]
theorem i_ml {x y : Int32} {m n : Int} (h : x = Int32.ofInt m) (h' : y = Int32.ofInt n) : x * y = Int32.ofInt (m * n) := by rw [h, h', Int32.ofInt_mul]
theorem i_1 : (1 : Int32) = Int32.ofInt 1 := rfl
theorem i_7 : (7 : Int32) = Int32.ofInt 7 := rfl
theorem i_s (x : Int32) : x = Int32.ofInt x.toInt := (Int32.ofInt_toInt x).symm
/-- how many pieces -/
noncomputable def pcsI (n : Int) : Int := if n ≤ 0 then 1 else (n + 6) / 7
theorem pcs_b {n : Int} (h : 0 ≤ n) (h2 : n ≤ 160) : 1 ≤ pcsI n ∧ pcsI n ≤ 23 ∧ n ≤ 7 * pcsI n ∧ (n = 0 → pcsI n = 1) ∧ (¬ n = 0 → 7 * pcsI n < n + 7) := by
  unfold pcsI
  split <;> omega
theorem bk_x {X : pX} {ρ0 : sR} (hv : vok X ρ0) (ρ : sR) : kok X ρ kR → vok X ρ → agrM 65536 c_sblk.2.2.2.2.1.1 c_sblk.2.2.2.2.1.2 ρ ρ0 → 0 ≤ (ρ.1 17952).toInt → ρ.1 19488 = ρ.1 17952 * 7 → (ρ.1 60192).toInt = pcsI (ρ.1 1292).toInt - (ρ.1 17952).toInt → 1 ≤ (ρ.1 60192).toInt → 1 ≤ (ρ.1 19552).toInt → (ρ.1 19552).toInt ≤ 127 → ((ρ.1 17984).toInt = (ρ.1 19552).toInt ∧ (ρ.1 19552).toInt ≤ (ρ.1 60192).toInt ∨ (ρ.1 17984).toInt = (ρ.1 60192).toInt ∧ (ρ.1 60192).toInt < (ρ.1 19552).toInt) → 0 ≤ (ρ.1 19584).toInt → (ρ.1 19584).toInt ≤ (ρ.1 17984).toInt → (ρ.1 19584 = ρ.1 60192 ∧ ρ.1 19520 = 1 ∨ ¬ ρ.1 19584 = ρ.1 60192 ∧ ρ.1 19520 = 0) → ρ.1 17856 = 6 → (ρ.1 17984).toInt ≤ (ρ.1 19584).toInt → AT X zJ c_sblk 7 ρ0 ρ q_bk := by
    intro k1 k2 k4 a1 a2 a3 a4 a5 a6 a7 a8 a9 a10 a11 hx
    have hz : 0 ≤ (ρ.1 1292).toInt ∧ (ρ.1 1292).toInt ≤ 160 := k2.1 1292 (0, 160) rfl
    have hp := pcs_b hz.1 hz.2
    have z0 : (0 : Int32).toInt = 0 := rfl
    have z1 : (1 : Int32).toInt = 1 := rfl
    have z6 : (6 : Int32).toInt = 6 := rfl
    have z7 : (7 : Int32).toInt = 7 := rfl
    have z8 : (8 : Int32).toInt = 8 := rfl
    have zq : (127 : Int32).toInt = 127 := rfl
    have zr : (126 : Int32).toInt = 126 := rfl
    have zs : (160 : Int32).toInt = 160 := rfl
    have i1 : (ρ.1 19584 + 1).toInt = (ρ.1 19584).toInt + 1 := i_of (i_ad (i_s _) rfl) (by omega) (by omega)
    have hse : ρ.1 17984 = ρ.1 19584 := Int32.toInt_inj.mp (by omega)
    have it : ((ρ.1 17952 + ρ.1 17984) * 7).toInt = ((ρ.1 17952).toInt + (ρ.1 17984).toInt) * 7 := i_of (i_ml (i_ad (i_s _) (i_s _)) rfl) (by omega) (by omega)
    have is : (ρ.1 1292 + 7).toInt = (ρ.1 1292).toInt + 7 := i_of (i_ad (i_s _) rfl) (by omega) (by omega)
    have f1 : sc X ρ (2, .arg 17984, .add (.arg 19584) (.int 1)) = true := decide_eq_true (lt_i (show (ρ.1 17984).toInt < (ρ.1 19584 + 1).toInt by omega))
    have f2 : sc X ρ (0, .arg 17856, .int 6) = true := decide_eq_true a11
    have f3 : sc X ρ (0, .arg 17984, .arg 19584) = true := decide_eq_true hse
    have f4 : sc X ρ (2, .arg 17984, .int 1) = false := decide_eq_false (nlt_i (show (1 : Int32).toInt ≤ (ρ.1 17984).toInt by rcases a7 with q | q <;> omega))
    have f5 : sc X ρ (2, .int 127, .arg 17984) = false := decide_eq_false (nlt_i (show (ρ.1 17984).toInt ≤ (127 : Int32).toInt by rcases a7 with q | q <;> omega))
    rcases a10 with ⟨g1, g2⟩ | ⟨g1, g2⟩
    · have hl : (ρ.1 17984).toInt = (ρ.1 60192).toInt := by rw [hse, g1]
      have e1 : sc X ρ (0, .arg 19520, .int 1) = true := decide_eq_true g2
      have e2 : sc X ρ (2, .mul (.add (.arg 17952) (.arg 17984)) (.int 7), .arg 1292) = false := decide_eq_false (nlt_i (show (ρ.1 1292).toInt ≤ ((ρ.1 17952 + ρ.1 17984) * 7).toInt by omega))
      by_cases h0 : (ρ.1 1292).toInt = 0
      · have hq := hp.2.2.2.1 h0
        have e3 : sc X ρ (0, .arg 1292, .int 0) = true := decide_eq_true (Int32.toInt_inj.mp (show (ρ.1 1292).toInt = (0 : Int32).toInt by omega))
        have e4 : sc X ρ (2, .mul (.add (.arg 17952) (.arg 17984)) (.int 7), .int 8) = true := decide_eq_true (lt_i (show ((ρ.1 17952 + ρ.1 17984) * 7).toInt < (8 : Int32).toInt by omega))
        by_cases hj : ρ.1 19584 < ρ.1 19552
        · exact AT_of (q := q_bkx2a) rfl rfl (t_bkx2a hv ρ k1 ((fkc (decide_eq_true hj) (fkc (e1) (fkc (e2) (fkc (e3) (fkc (e4) (fkc (f1) (fkc (f2) (fkc (f3) (fkc (f4) (fkc (f5) (fk0 k2)))))))))))) i0k k4)
        · exact AT_of (q := q_bkx2b) rfl rfl (t_bkx2b hv ρ k1 ((fkc (decide_eq_false hj) (fkc (e1) (fkc (e2) (fkc (e3) (fkc (e4) (fkc (f1) (fkc (f2) (fkc (f3) (fkc (f4) (fkc (f5) (fk0 k2)))))))))))) i0k k4)
      · have hq := hp.2.2.2.2 h0
        have e3 : sc X ρ (0, .arg 1292, .int 0) = false := decide_eq_false (fun q => h0 (by have q' := congrArg Int32.toInt (show ρ.1 1292 = 0 from q); omega))
        have e4 : sc X ρ (2, .mul (.add (.arg 17952) (.arg 17984)) (.int 7), .add (.arg 1292) (.int 7)) = true := decide_eq_true (lt_i (show ((ρ.1 17952 + ρ.1 17984) * 7).toInt < (ρ.1 1292 + 7).toInt by omega))
        by_cases hj : ρ.1 19584 < ρ.1 19552
        · exact AT_of (q := q_bkx1a) rfl rfl (t_bkx1a hv ρ k1 ((fkc (decide_eq_true hj) (fkc (e1) (fkc (e2) (fkc (e3) (fkc (e4) (fkc (f1) (fkc (f2) (fkc (f3) (fkc (f4) (fkc (f5) (fk0 k2)))))))))))) i0k k4)
        · exact AT_of (q := q_bkx1b) rfl rfl (t_bkx1b hv ρ k1 ((fkc (decide_eq_false hj) (fkc (e1) (fkc (e2) (fkc (e3) (fkc (e4) (fkc (f1) (fkc (f2) (fkc (f3) (fkc (f4) (fkc (f5) (fk0 k2)))))))))))) i0k k4)
    · have hl : ¬ (ρ.1 17984).toInt = (ρ.1 60192).toInt := fun q => g1 (Int32.toInt_inj.mp (by rw [← hse]; exact q))
      have e1 : sc X ρ (0, .arg 19520, .int 0) = true := decide_eq_true g2
      have h0 : ¬ (ρ.1 1292).toInt = 0 := fun q => by have := hp.2.2.2.1 q; rcases a7 with r | r <;> omega
      have hq := hp.2.2.2.2 h0
      have e2 : sc X ρ (2, .mul (.add (.arg 17952) (.arg 17984)) (.int 7), .arg 1292) = true := decide_eq_true (lt_i (show ((ρ.1 17952 + ρ.1 17984) * 7).toInt < (ρ.1 1292).toInt by rcases a7 with r | r <;> omega))
      have e3 : sc X ρ (0, .arg 1292, .int 0) = false := decide_eq_false (fun q => h0 (by have q' := congrArg Int32.toInt (show ρ.1 1292 = 0 from q); omega))
      have e4 : sc X ρ (2, .mul (.add (.arg 17952) (.arg 17984)) (.int 7), .add (.arg 1292) (.int 7)) = true := decide_eq_true (lt_i (show ((ρ.1 17952 + ρ.1 17984) * 7).toInt < (ρ.1 1292 + 7).toInt by rcases a7 with r | r <;> omega))
      have hj : ¬ ρ.1 19584 < ρ.1 19552 := nlt_i (by rcases a7 with r | r <;> omega)
      exact AT_of (q := q_bkx3b) rfl rfl (t_bkx3b hv ρ k1 ((fkc (decide_eq_false hj) (fkc (e1) (fkc (e2) (fkc (e3) (fkc (e4) (fkc (f1) (fkc (f2) (fkc (f3) (fkc (f4) (fkc (f5) (fk0 k2)))))))))))) i0k k4)
theorem bk_at {X : pX} {ρ0 : sR} (hv : vok X ρ0) : ∀ (n : Nat) (ρ : sR), kok X ρ kR → vok X ρ → agrM 65536 c_sblk.2.2.2.2.1.1 c_sblk.2.2.2.2.1.2 ρ ρ0 → 0 ≤ (ρ.1 17952).toInt → ρ.1 19488 = ρ.1 17952 * 7 → (ρ.1 60192).toInt = pcsI (ρ.1 1292).toInt - (ρ.1 17952).toInt → 1 ≤ (ρ.1 60192).toInt → 1 ≤ (ρ.1 19552).toInt → (ρ.1 19552).toInt ≤ 127 → ((ρ.1 17984).toInt = (ρ.1 19552).toInt ∧ (ρ.1 19552).toInt ≤ (ρ.1 60192).toInt ∨ (ρ.1 17984).toInt = (ρ.1 60192).toInt ∧ (ρ.1 60192).toInt < (ρ.1 19552).toInt) → 0 ≤ (ρ.1 19584).toInt → (ρ.1 19584).toInt ≤ (ρ.1 17984).toInt → (ρ.1 19584 = ρ.1 60192 ∧ ρ.1 19520 = 1 ∨ ¬ ρ.1 19584 = ρ.1 60192 ∧ ρ.1 19520 = 0) → ρ.1 17856 = 6 → (ρ.1 17984).toInt - (ρ.1 19584).toInt ≤ n → AT X zJ c_sblk 7 ρ0 ρ q_bk := by
  intro n
  induction n with
  | zero =>
    intro ρ k1 k2 k4 a1 a2 a3 a4 a5 a6 a7 a8 a9 a10 a11 hn
    exact bk_x hv ρ k1 k2 k4 a1 a2 a3 a4 a5 a6 a7 a8 a9 a10 a11 (by omega)
  | succ n ih =>
    intro ρ k1 k2 k4 a1 a2 a3 a4 a5 a6 a7 a8 a9 a10 a11 hn
    by_cases hx : (ρ.1 17984).toInt ≤ (ρ.1 19584).toInt
    · exact bk_x hv ρ k1 k2 k4 a1 a2 a3 a4 a5 a6 a7 a8 a9 a10 a11 hx
    have hz : 0 ≤ (ρ.1 1292).toInt ∧ (ρ.1 1292).toInt ≤ 160 := k2.1 1292 (0, 160) rfl
    have hp := pcs_b hz.1 hz.2
    have z0 : (0 : Int32).toInt = 0 := rfl
    have z1 : (1 : Int32).toInt = 1 := rfl
    have z6 : (6 : Int32).toInt = 6 := rfl
    have z7 : (7 : Int32).toInt = 7 := rfl
    have z8 : (8 : Int32).toInt = 8 := rfl
    have zq : (127 : Int32).toInt = 127 := rfl
    have zr : (126 : Int32).toInt = 126 := rfl
    have zs : (160 : Int32).toInt = 160 := rfl
    have i1 : (ρ.1 19584 + 1).toInt = (ρ.1 19584).toInt + 1 := i_of (i_ad (i_s _) rfl) (by omega) (by omega)
    have hlf : ¬ ρ.1 19584 = ρ.1 60192 := fun q => by have q' := congrArg Int32.toInt q; rcases a7 with r | r <;> omega
    have hjl : ρ.1 19520 = 0 := by
      rcases a10 with ⟨g1, -⟩ | ⟨-, g2⟩
      · exact absurd g1 hlf
      · exact g2
    have ic : ((ρ.1 17952 + (ρ.1 19584 + 1) - 1) * 7).toInt = ((ρ.1 17952).toInt + (ρ.1 19584).toInt) * 7 := by
      refine i_of (n := ((ρ.1 17952).toInt + (ρ.1 19584).toInt) * 7) ?_ (by omega) (by rcases a7 with r | r <;> omega)
      rw [i_ml (i_sb (i_ad (i_s (ρ.1 17952)) (i_ad (i_s (ρ.1 19584)) i_1)) i_1) i_7]
      congr 1
      omega
    have hm1 : ρ.1 19488 + 7 * ρ.1 19584 = (ρ.1 17952 + (ρ.1 19584 + 1) - 1) * 7 := by rw [a2]; grind
    have hm2 : ρ.1 19488 + ρ.1 19584 * 7 = (ρ.1 17952 + (ρ.1 19584 + 1) - 1) * 7 := by rw [a2]; grind
    have hc7 : ((ρ.1 17952 + (ρ.1 19584 + 1) - 1) * 7 + 7).toInt = ((ρ.1 17952).toInt + (ρ.1 19584).toInt) * 7 + 7 := by
      rw [s_add (by rw [ic, z7]; omega) (by rw [ic, z7]; rcases a7 with r | r <;> omega), ic, z7]
    have c1 : sc X ρ (2, .arg 17984, .add (.arg 19584) (.int 1)) = false := decide_eq_false (nlt_i (show (ρ.1 19584 + 1).toInt ≤ (ρ.1 17984).toInt by omega))
    have c3 : sc X ρ (2, .arg 19584, .arg 19552) = true := decide_eq_true (lt_i (show (ρ.1 19584).toInt < (ρ.1 19552).toInt by rcases a7 with r | r <;> omega))
    have c4 : sc X ρ (0, .arg 19520, .int 0) = true := decide_eq_true hjl
    have c7 : sc X ρ (0, .add (.arg 19488) (.mul (.int 7) (.arg 19584)), .mul (.sub (.add (.arg 17952) (.add (.arg 19584) (.int 1))) (.int 1)) (.int 7)) = true := decide_eq_true hm1
    have c8 : sc X ρ (0, .add (.arg 19488) (.mul (.arg 19584) (.int 7)), .mul (.sub (.add (.arg 17952) (.add (.arg 19584) (.int 1))) (.int 1)) (.int 7)) = true := decide_eq_true hm2
    have c9 : sc X ρ (0, .mul (.sub (.add (.arg 17952) (.add (.arg 19584) (.int 1))) (.int 1)) (.int 7), .add (.arg 19488) (.mul (.int 7) (.arg 19584))) = true := decide_eq_true hm1.symm
    have c10 : sc X ρ (0, .mul (.sub (.add (.arg 17952) (.add (.arg 19584) (.int 1))) (.int 1)) (.int 7), .add (.arg 19488) (.mul (.arg 19584) (.int 7))) = true := decide_eq_true hm2.symm
    have c11 : sc X ρ (2, .mul (.sub (.add (.arg 17952) (.add (.arg 19584) (.int 1))) (.int 1)) (.int 7), .int 0) = false := decide_eq_false (nlt_i (show (0 : Int32).toInt ≤ ((ρ.1 17952 + (ρ.1 19584 + 1) - 1) * 7).toInt by omega))
    have c12 : sc X ρ (2, .int 160, .mul (.sub (.add (.arg 17952) (.add (.arg 19584) (.int 1))) (.int 1)) (.int 7)) = false := decide_eq_false (nlt_i (show ((ρ.1 17952 + (ρ.1 19584 + 1) - 1) * 7).toInt ≤ (160 : Int32).toInt by rcases a7 with r | r <;> omega))
    have c13 : sc X ρ (2, .arg 19584, .int 0) = false := decide_eq_false (nlt_i (show (0 : Int32).toInt ≤ (ρ.1 19584).toInt by omega))
    have c14 : sc X ρ (2, .int 126, .arg 19584) = false := decide_eq_false (nlt_i (show (ρ.1 19584).toInt ≤ (126 : Int32).toInt by rcases a7 with r | r <;> omega))
    by_cases hw : ρ.1 19584 + 1 = ρ.1 60192
    · have hw' : (ρ.1 19584).toInt + 1 = (ρ.1 60192).toInt := by rw [← i1, hw]
      have c2 : sc X ρ (0, .add (.arg 19584) (.int 1), .arg 60192) = true := decide_eq_true hw
      have c5 : sc X ρ (2, .add (.add (.arg 19488) (.mul (.int 7) (.arg 19584))) (.int 7), .arg 1292) = false := decide_eq_false (nlt_i (show (ρ.1 1292).toInt ≤ (ρ.1 19488 + 7 * ρ.1 19584 + 7).toInt by rw [hm1, hc7]; omega))
      have c6 : sc X ρ (2, .add (.add (.arg 19488) (.mul (.arg 19584) (.int 7))) (.int 7), .arg 1292) = false := decide_eq_false (nlt_i (show (ρ.1 1292).toInt ≤ (ρ.1 19488 + ρ.1 19584 * 7 + 7).toInt by rw [hm2, hc7]; omega))
      refine AT_of (q := q_bkL) rfl rfl (SEM_run kR_x kR_0 (Cs := [(zJR, c_reqj), (zJ, c_sev)]) (fun C hC => by
    simp only [List.mem_cons, List.not_mem_nil, or_false] at hC
    rcases hC with hC | hC
    · rw [hC]; exact s_reqj
    · rw [hC]; exact s_sev) c_sblk_f (Q := w_bkL) hv 200 (b1 := true) (b2 := true) k_bkL k1 ((fkc (c1) (fkc (c2) (fkc (c3) (fkc (c4) (fkc (c5) (fkc (c6) (fkc (c7) (fkc (c8) (fkc (c9) (fkc (c10) (fkc (c11) (fkc (c12) (fkc (c13) (fkc (c14) (fk0 k2)))))))))))))))) i0k k4 (fun p hp ρ3 m1 m2 m3 m4 m5 => ?_))
      rw [List.mem_singleton.mp hp] at m2 m3 m5 ⊢
      have y1 : ρ3.1 19584 = ρ.1 19584 + 1 := tj1 (m5 _ (List.mem_cons_self))
      have y2 : ρ3.1 19520 = 1 := tj1 (m5 _ (List.mem_cons_of_mem _ (List.mem_cons_self)))
      have y3 : ρ3.1 60192 = ρ.1 60192 := tj1 (m5 _ (List.mem_cons_of_mem _ (List.mem_cons_of_mem _ (List.mem_cons_self))))
      have y4 : ρ3.1 17984 = ρ.1 17984 := tj1 (m5 _ (List.mem_cons_of_mem _ (List.mem_cons_of_mem _ (List.mem_cons_of_mem _ (List.mem_cons_self)))))
      have y5 : ρ3.1 17856 = ρ.1 17856 := tj1 (m5 _ (List.mem_cons_of_mem _ (List.mem_cons_of_mem _ (List.mem_cons_of_mem _ (List.mem_cons_of_mem _ (List.mem_cons_self))))))
      have u1 : ρ3.1 17952 = ρ.1 17952 := ((m4.1 17952 (by decide) (by decide)).1).trans ((k4.1 17952 (by decide) (by decide)).1).symm
      have u2 : ρ3.1 19488 = ρ.1 19488 := ((m4.1 19488 (by decide) (by decide)).1).trans ((k4.1 19488 (by decide) (by decide)).1).symm
      have u3 : ρ3.1 1292 = ρ.1 1292 := ((m4.1 1292 (by decide) (by decide)).1).trans ((k4.1 1292 (by decide) (by decide)).1).symm
      have u4 : ρ3.1 19552 = ρ.1 19552 := ((m4.1 19552 (by decide) (by decide)).1).trans ((k4.1 19552 (by decide) (by decide)).1).symm
      exact ih ρ3 m1 m2.1 m4 (by rw [u1]; exact a1) (by rw [u2, u1]; exact a2) (by rw [y3, u3, u1]; exact a3) (by rw [y3]; exact a4) (by rw [u4]; exact a5) (by rw [u4]; exact a6) (by rw [y4, u4, y3]; exact a7) (by rw [y1, i1]; omega) (by rw [y1, i1, y4]; omega) (.inl ⟨by rw [y1, y3]; exact hw, y2⟩) (by rw [y5]; exact a11) (by rw [y4, y1, i1]; omega)
    · have hw' : ¬ (ρ.1 19584).toInt + 1 = (ρ.1 60192).toInt := fun q => hw (Int32.toInt_inj.mp (by rw [i1]; exact q))
      have h0 : ¬ (ρ.1 1292).toInt = 0 := fun q => by have := hp.2.2.2.1 q; rcases a7 with r | r <;> omega
      have hq := hp.2.2.2.2 h0
      have c2 : sc X ρ (0, .add (.arg 19584) (.int 1), .arg 60192) = false := decide_eq_false hw
      have c5 : sc X ρ (2, .add (.add (.arg 19488) (.mul (.int 7) (.arg 19584))) (.int 7), .arg 1292) = true := decide_eq_true (lt_i (show (ρ.1 19488 + 7 * ρ.1 19584 + 7).toInt < (ρ.1 1292).toInt by rw [hm1, hc7]; rcases a7 with r | r <;> omega))
      have c6 : sc X ρ (2, .add (.add (.arg 19488) (.mul (.arg 19584) (.int 7))) (.int 7), .arg 1292) = true := decide_eq_true (lt_i (show (ρ.1 19488 + ρ.1 19584 * 7 + 7).toInt < (ρ.1 1292).toInt by rw [hm2, hc7]; rcases a7 with r | r <;> omega))
      refine AT_of (q := q_bkK) rfl rfl (SEM_run kR_x kR_0 (Cs := [(zJR, c_reqj), (zJ, c_sev)]) (fun C hC => by
    simp only [List.mem_cons, List.not_mem_nil, or_false] at hC
    rcases hC with hC | hC
    · rw [hC]; exact s_reqj
    · rw [hC]; exact s_sev) c_sblk_f (Q := w_bkK) hv 200 (b1 := true) (b2 := true) k_bkK k1 ((fkc (c1) (fkc (c2) (fkc (c3) (fkc (c4) (fkc (c5) (fkc (c6) (fkc (c7) (fkc (c8) (fkc (c9) (fkc (c10) (fkc (c11) (fkc (c12) (fkc (c13) (fkc (c14) (fk0 k2)))))))))))))))) i0k k4 (fun p hp ρ3 m1 m2 m3 m4 m5 => ?_))
      rw [List.mem_singleton.mp hp] at m2 m3 m5 ⊢
      have y1 : ρ3.1 19584 = ρ.1 19584 + 1 := tj1 (m5 _ (List.mem_cons_self))
      have y2 : ρ3.1 19520 = 0 := tj1 (m5 _ (List.mem_cons_of_mem _ (List.mem_cons_self)))
      have y3 : ρ3.1 60192 = ρ.1 60192 := tj1 (m5 _ (List.mem_cons_of_mem _ (List.mem_cons_of_mem _ (List.mem_cons_self))))
      have y4 : ρ3.1 17984 = ρ.1 17984 := tj1 (m5 _ (List.mem_cons_of_mem _ (List.mem_cons_of_mem _ (List.mem_cons_of_mem _ (List.mem_cons_self)))))
      have y5 : ρ3.1 17856 = ρ.1 17856 := tj1 (m5 _ (List.mem_cons_of_mem _ (List.mem_cons_of_mem _ (List.mem_cons_of_mem _ (List.mem_cons_of_mem _ (List.mem_cons_self))))))
      have u1 : ρ3.1 17952 = ρ.1 17952 := ((m4.1 17952 (by decide) (by decide)).1).trans ((k4.1 17952 (by decide) (by decide)).1).symm
      have u2 : ρ3.1 19488 = ρ.1 19488 := ((m4.1 19488 (by decide) (by decide)).1).trans ((k4.1 19488 (by decide) (by decide)).1).symm
      have u3 : ρ3.1 1292 = ρ.1 1292 := ((m4.1 1292 (by decide) (by decide)).1).trans ((k4.1 1292 (by decide) (by decide)).1).symm
      have u4 : ρ3.1 19552 = ρ.1 19552 := ((m4.1 19552 (by decide) (by decide)).1).trans ((k4.1 19552 (by decide) (by decide)).1).symm
      exact ih ρ3 m1 m2.1 m4 (by rw [u1]; exact a1) (by rw [u2, u1]; exact a2) (by rw [y3, u3, u1]; exact a3) (by rw [y3]; exact a4) (by rw [u4]; exact a5) (by rw [u4]; exact a6) (by rw [y4, u4, y3]; exact a7) (by rw [y1, i1]; omega) (by rw [y1, i1, y4]; omega) (.inr ⟨by rw [y1, y3]; exact hw, y2⟩) (by rw [y5]; exact a11) (by rw [y4, y1, i1]; omega)
theorem t_bk000 {X : pX} {ρ0 : sR} (hv : vok X ρ0) : CUTOK X kR zJ c_sblk 7 ρ0 q_bk000 := CUTOK_AT (fun ρ k1 k2 k3 k4 => by
  have b0 : sc X ρ (2, .int 0, .arg 1292) = false := k2.2 _ (List.mem_cons_self)
  have b1 : ρ.1 60192 = 1 - ρ.1 17952 := of_decide_eq_true (k2.2 _ (List.mem_cons_of_mem _ (List.mem_cons_self)))
  have b2 : ρ.1 17984 = ρ.1 60036 := of_decide_eq_true (k2.2 _ (List.mem_cons_of_mem _ (List.mem_cons_of_mem _ (List.mem_cons_self))))
  have b3 : sc X ρ (2, .arg 60192, .arg 60036) = false := k2.2 _ (List.mem_cons_of_mem _ (List.mem_cons_of_mem _ (List.mem_cons_of_mem _ (List.mem_cons_self))))
  have b4 : ρ.1 19584 = 0 := of_decide_eq_true (k2.2 _ (List.mem_cons_of_mem _ (List.mem_cons_of_mem _ (List.mem_cons_of_mem _ (List.mem_cons_of_mem _ (List.mem_cons_self))))))
  have b5 : ρ.1 19520 = 0 := of_decide_eq_true (k2.2 _ (List.mem_cons_of_mem _ (List.mem_cons_of_mem _ (List.mem_cons_of_mem _ (List.mem_cons_of_mem _ (List.mem_cons_of_mem _ (List.mem_cons_self)))))))
  have b6 : ρ.1 17856 = 6 := of_decide_eq_true (k2.2 _ (List.mem_cons_of_mem _ (List.mem_cons_of_mem _ (List.mem_cons_of_mem _ (List.mem_cons_of_mem _ (List.mem_cons_of_mem _ (List.mem_cons_of_mem _ (List.mem_cons_self))))))))
  have p1 : ρ.1 19552 = ρ.1 60036 := of_decide_eq_true (k2.2 _ (List.mem_cons_of_mem _ (List.mem_cons_of_mem _ (List.mem_cons_of_mem _ (List.mem_cons_of_mem _ (List.mem_cons_of_mem _ (List.mem_cons_of_mem _ (List.mem_cons_of_mem _ (List.mem_cons_self)))))))))
  have p2 : ¬ ρ.1 60036 < 1 := of_decide_eq_false (k2.2 _ (List.mem_cons_of_mem _ (List.mem_cons_of_mem _ (List.mem_cons_of_mem _ (List.mem_cons_of_mem _ (List.mem_cons_of_mem _ (List.mem_cons_of_mem _ (List.mem_cons_of_mem _ (List.mem_cons_of_mem _ (List.mem_cons_self))))))))))
  have p3 : ¬ 127 < ρ.1 60036 := of_decide_eq_false (k2.2 _ (List.mem_cons_of_mem _ (List.mem_cons_of_mem _ (List.mem_cons_of_mem _ (List.mem_cons_of_mem _ (List.mem_cons_of_mem _ (List.mem_cons_of_mem _ (List.mem_cons_of_mem _ (List.mem_cons_of_mem _ (List.mem_cons_of_mem _ (List.mem_cons_self)))))))))))
  have p4 : ρ.1 19488 = ρ.1 17952 * 7 := of_decide_eq_true (k2.2 _ (List.mem_cons_of_mem _ (List.mem_cons_of_mem _ (List.mem_cons_of_mem _ (List.mem_cons_of_mem _ (List.mem_cons_of_mem _ (List.mem_cons_of_mem _ (List.mem_cons_of_mem _ (List.mem_cons_of_mem _ (List.mem_cons_of_mem _ (List.mem_cons_of_mem _ (List.mem_cons_self))))))))))))
  have p5 : ¬ ρ.1 17952 < 0 := of_decide_eq_false (k2.2 _ (List.mem_cons_of_mem _ (List.mem_cons_of_mem _ (List.mem_cons_of_mem _ (List.mem_cons_of_mem _ (List.mem_cons_of_mem _ (List.mem_cons_of_mem _ (List.mem_cons_of_mem _ (List.mem_cons_of_mem _ (List.mem_cons_of_mem _ (List.mem_cons_of_mem _ (List.mem_cons_of_mem _ (List.mem_cons_self)))))))))))))
  have p6 : ¬ 22 < ρ.1 17952 := of_decide_eq_false (k2.2 _ (List.mem_cons_of_mem _ (List.mem_cons_of_mem _ (List.mem_cons_of_mem _ (List.mem_cons_of_mem _ (List.mem_cons_of_mem _ (List.mem_cons_of_mem _ (List.mem_cons_of_mem _ (List.mem_cons_of_mem _ (List.mem_cons_of_mem _ (List.mem_cons_of_mem _ (List.mem_cons_of_mem _ (List.mem_cons_of_mem _ (List.mem_cons_self))))))))))))))
  have zt : (22 : Int32).toInt = 22 := rfl
  rw [Int32.lt_iff_toInt_lt, zt] at p6
  have z0 : (0 : Int32).toInt = 0 := rfl
  have z1 : (1 : Int32).toInt = 1 := rfl
  have zq : (127 : Int32).toInt = 127 := rfl
  rw [Int32.lt_iff_toInt_lt, z1] at p2
  rw [Int32.lt_iff_toInt_lt, zq] at p3
  rw [Int32.lt_iff_toInt_lt, z0] at p5
  have hz : 0 ≤ (ρ.1 1292).toInt ∧ (ρ.1 1292).toInt ≤ 160 := k2.1.1 1292 (0, 160) rfl
  have hp := pcs_b hz.1 hz.2
  have b0 : ¬ 0 < ρ.1 1292 := of_decide_eq_false b0
  rw [Int32.lt_iff_toInt_lt, z0] at b0
  have b3 : ¬ ρ.1 60192 < ρ.1 60036 := of_decide_eq_false b3
  rw [Int32.lt_iff_toInt_lt, ← p1] at b3
  rw [← p1] at p2 p3
  have hpc : (ρ.1 17952).toInt < pcsI (ρ.1 1292).toInt := by
    by_cases h0 : (ρ.1 1292).toInt = 0
    · have e : ρ.1 17952 = 0 := of_decide_eq_true (k3 _ (List.mem_cons_of_mem _ List.mem_cons_self) (fun f hf => by
        rw [List.mem_singleton.mp hf]
        exact decide_eq_true (Int32.toInt_inj.mp (show (ρ.1 1292).toInt = (0 : Int32).toInt by omega))))
      rw [e, z0]
      omega
    · have e : ρ.1 17952 * 7 < ρ.1 1292 := of_decide_eq_true (k3 _ List.mem_cons_self (fun f hf => by
        rw [List.mem_singleton.mp hf]
        exact decide_eq_false (fun q => h0 (by have q' := congrArg Int32.toInt (show ρ.1 1292 = 0 from q); omega))))
      have e' := Int32.lt_iff_toInt_lt.mp e
      have i7 : (ρ.1 17952 * 7).toInt = (ρ.1 17952).toInt * 7 := i_of (i_ml (i_s _) i_7) (by omega) (by omega)
      rw [i7] at e'
      omega
  have hpv : (1 : Int32) = Int32.ofInt (pcsI (ρ.1 1292).toInt) := by
    have : pcsI (ρ.1 1292).toInt = 1 := by unfold pcsI; rw [if_pos (by omega)]
    rw [this]; rfl
  have b2i : (ρ.1 17984).toInt = (ρ.1 19552).toInt := by rw [b2, p1]
  have hlf : (ρ.1 60192).toInt = pcsI (ρ.1 1292).toInt - (ρ.1 17952).toInt := by
    rw [b1]
    refine i_of (n := pcsI (ρ.1 1292).toInt - (ρ.1 17952).toInt) ?_ (by omega) (by omega)
    exact i_sb hpv (i_s _)
  exact AT_of (q := q_bk) rfl rfl (bk_at hv 200 ρ k1 k2.1 k4 (by omega) p4 hlf (by omega) (by omega) (by omega) (.inl ⟨b2i, by omega⟩) (by rw [b4, z0]; omega) (by rw [b4, z0]; omega) (.inr ⟨by rw [b4]; intro q; have q' := congrArg Int32.toInt q; rw [z0] at q'; omega, b5⟩) b6 (by rw [b4, z0]; omega)))
theorem t_bk001 {X : pX} {ρ0 : sR} (hv : vok X ρ0) : CUTOK X kR zJ c_sblk 7 ρ0 q_bk001 := CUTOK_AT (fun ρ k1 k2 k3 k4 => by
  have b0 : sc X ρ (2, .int 0, .arg 1292) = false := k2.2 _ (List.mem_cons_self)
  have b1 : ρ.1 60192 = 1 - ρ.1 17952 := of_decide_eq_true (k2.2 _ (List.mem_cons_of_mem _ (List.mem_cons_self)))
  have b2 : ρ.1 17984 = ρ.1 60192 := of_decide_eq_true (k2.2 _ (List.mem_cons_of_mem _ (List.mem_cons_of_mem _ (List.mem_cons_self))))
  have b3 : sc X ρ (2, .arg 60192, .arg 60036) = true := k2.2 _ (List.mem_cons_of_mem _ (List.mem_cons_of_mem _ (List.mem_cons_of_mem _ (List.mem_cons_self))))
  have b4 : ρ.1 19584 = 0 := of_decide_eq_true (k2.2 _ (List.mem_cons_of_mem _ (List.mem_cons_of_mem _ (List.mem_cons_of_mem _ (List.mem_cons_of_mem _ (List.mem_cons_self))))))
  have b5 : ρ.1 19520 = 0 := of_decide_eq_true (k2.2 _ (List.mem_cons_of_mem _ (List.mem_cons_of_mem _ (List.mem_cons_of_mem _ (List.mem_cons_of_mem _ (List.mem_cons_of_mem _ (List.mem_cons_self)))))))
  have b6 : ρ.1 17856 = 6 := of_decide_eq_true (k2.2 _ (List.mem_cons_of_mem _ (List.mem_cons_of_mem _ (List.mem_cons_of_mem _ (List.mem_cons_of_mem _ (List.mem_cons_of_mem _ (List.mem_cons_of_mem _ (List.mem_cons_self))))))))
  have p1 : ρ.1 19552 = ρ.1 60036 := of_decide_eq_true (k2.2 _ (List.mem_cons_of_mem _ (List.mem_cons_of_mem _ (List.mem_cons_of_mem _ (List.mem_cons_of_mem _ (List.mem_cons_of_mem _ (List.mem_cons_of_mem _ (List.mem_cons_of_mem _ (List.mem_cons_self)))))))))
  have p2 : ¬ ρ.1 60036 < 1 := of_decide_eq_false (k2.2 _ (List.mem_cons_of_mem _ (List.mem_cons_of_mem _ (List.mem_cons_of_mem _ (List.mem_cons_of_mem _ (List.mem_cons_of_mem _ (List.mem_cons_of_mem _ (List.mem_cons_of_mem _ (List.mem_cons_of_mem _ (List.mem_cons_self))))))))))
  have p3 : ¬ 127 < ρ.1 60036 := of_decide_eq_false (k2.2 _ (List.mem_cons_of_mem _ (List.mem_cons_of_mem _ (List.mem_cons_of_mem _ (List.mem_cons_of_mem _ (List.mem_cons_of_mem _ (List.mem_cons_of_mem _ (List.mem_cons_of_mem _ (List.mem_cons_of_mem _ (List.mem_cons_of_mem _ (List.mem_cons_self)))))))))))
  have p4 : ρ.1 19488 = ρ.1 17952 * 7 := of_decide_eq_true (k2.2 _ (List.mem_cons_of_mem _ (List.mem_cons_of_mem _ (List.mem_cons_of_mem _ (List.mem_cons_of_mem _ (List.mem_cons_of_mem _ (List.mem_cons_of_mem _ (List.mem_cons_of_mem _ (List.mem_cons_of_mem _ (List.mem_cons_of_mem _ (List.mem_cons_of_mem _ (List.mem_cons_self))))))))))))
  have p5 : ¬ ρ.1 17952 < 0 := of_decide_eq_false (k2.2 _ (List.mem_cons_of_mem _ (List.mem_cons_of_mem _ (List.mem_cons_of_mem _ (List.mem_cons_of_mem _ (List.mem_cons_of_mem _ (List.mem_cons_of_mem _ (List.mem_cons_of_mem _ (List.mem_cons_of_mem _ (List.mem_cons_of_mem _ (List.mem_cons_of_mem _ (List.mem_cons_of_mem _ (List.mem_cons_self)))))))))))))
  have p6 : ¬ 22 < ρ.1 17952 := of_decide_eq_false (k2.2 _ (List.mem_cons_of_mem _ (List.mem_cons_of_mem _ (List.mem_cons_of_mem _ (List.mem_cons_of_mem _ (List.mem_cons_of_mem _ (List.mem_cons_of_mem _ (List.mem_cons_of_mem _ (List.mem_cons_of_mem _ (List.mem_cons_of_mem _ (List.mem_cons_of_mem _ (List.mem_cons_of_mem _ (List.mem_cons_of_mem _ (List.mem_cons_self))))))))))))))
  have zt : (22 : Int32).toInt = 22 := rfl
  rw [Int32.lt_iff_toInt_lt, zt] at p6
  have z0 : (0 : Int32).toInt = 0 := rfl
  have z1 : (1 : Int32).toInt = 1 := rfl
  have zq : (127 : Int32).toInt = 127 := rfl
  rw [Int32.lt_iff_toInt_lt, z1] at p2
  rw [Int32.lt_iff_toInt_lt, zq] at p3
  rw [Int32.lt_iff_toInt_lt, z0] at p5
  have hz : 0 ≤ (ρ.1 1292).toInt ∧ (ρ.1 1292).toInt ≤ 160 := k2.1.1 1292 (0, 160) rfl
  have hp := pcs_b hz.1 hz.2
  have b0 : ¬ 0 < ρ.1 1292 := of_decide_eq_false b0
  rw [Int32.lt_iff_toInt_lt, z0] at b0
  have b3 : ρ.1 60192 < ρ.1 60036 := of_decide_eq_true b3
  rw [Int32.lt_iff_toInt_lt, ← p1] at b3
  rw [← p1] at p2 p3
  have hpc : (ρ.1 17952).toInt < pcsI (ρ.1 1292).toInt := by
    by_cases h0 : (ρ.1 1292).toInt = 0
    · have e : ρ.1 17952 = 0 := of_decide_eq_true (k3 _ (List.mem_cons_of_mem _ List.mem_cons_self) (fun f hf => by
        rw [List.mem_singleton.mp hf]
        exact decide_eq_true (Int32.toInt_inj.mp (show (ρ.1 1292).toInt = (0 : Int32).toInt by omega))))
      rw [e, z0]
      omega
    · have e : ρ.1 17952 * 7 < ρ.1 1292 := of_decide_eq_true (k3 _ List.mem_cons_self (fun f hf => by
        rw [List.mem_singleton.mp hf]
        exact decide_eq_false (fun q => h0 (by have q' := congrArg Int32.toInt (show ρ.1 1292 = 0 from q); omega))))
      have e' := Int32.lt_iff_toInt_lt.mp e
      have i7 : (ρ.1 17952 * 7).toInt = (ρ.1 17952).toInt * 7 := i_of (i_ml (i_s _) i_7) (by omega) (by omega)
      rw [i7] at e'
      omega
  have hpv : (1 : Int32) = Int32.ofInt (pcsI (ρ.1 1292).toInt) := by
    have : pcsI (ρ.1 1292).toInt = 1 := by unfold pcsI; rw [if_pos (by omega)]
    rw [this]; rfl
  have b2i : (ρ.1 17984).toInt = (ρ.1 60192).toInt := by rw [b2]
  have hlf : (ρ.1 60192).toInt = pcsI (ρ.1 1292).toInt - (ρ.1 17952).toInt := by
    rw [b1]
    refine i_of (n := pcsI (ρ.1 1292).toInt - (ρ.1 17952).toInt) ?_ (by omega) (by omega)
    exact i_sb hpv (i_s _)
  exact AT_of (q := q_bk) rfl rfl (bk_at hv 200 ρ k1 k2.1 k4 (by omega) p4 hlf (by omega) (by omega) (by omega) (.inr ⟨b2i, by omega⟩) (by rw [b4, z0]; omega) (by rw [b4, z0]; omega) (.inr ⟨by rw [b4]; intro q; have q' := congrArg Int32.toInt q; rw [z0] at q'; omega, b5⟩) b6 (by rw [b4, z0]; omega)))
theorem t_bk010 {X : pX} {ρ0 : sR} (hv : vok X ρ0) : CUTOK X kR zJ c_sblk 7 ρ0 q_bk010 := CUTOK_AT (fun ρ k1 k2 k3 k4 => by
  have b0 : sc X ρ (2, .int 0, .arg 1292) = true := k2.2 _ (List.mem_cons_self)
  have b1 : ρ.1 60192 = (ρ.1 1292 + 6) / 7 - ρ.1 17952 := of_decide_eq_true (k2.2 _ (List.mem_cons_of_mem _ (List.mem_cons_self)))
  have b2 : ρ.1 17984 = ρ.1 60036 := of_decide_eq_true (k2.2 _ (List.mem_cons_of_mem _ (List.mem_cons_of_mem _ (List.mem_cons_self))))
  have b3 : sc X ρ (2, .arg 60192, .arg 60036) = false := k2.2 _ (List.mem_cons_of_mem _ (List.mem_cons_of_mem _ (List.mem_cons_of_mem _ (List.mem_cons_self))))
  have b4 : ρ.1 19584 = 0 := of_decide_eq_true (k2.2 _ (List.mem_cons_of_mem _ (List.mem_cons_of_mem _ (List.mem_cons_of_mem _ (List.mem_cons_of_mem _ (List.mem_cons_self))))))
  have b5 : ρ.1 19520 = 0 := of_decide_eq_true (k2.2 _ (List.mem_cons_of_mem _ (List.mem_cons_of_mem _ (List.mem_cons_of_mem _ (List.mem_cons_of_mem _ (List.mem_cons_of_mem _ (List.mem_cons_self)))))))
  have b6 : ρ.1 17856 = 6 := of_decide_eq_true (k2.2 _ (List.mem_cons_of_mem _ (List.mem_cons_of_mem _ (List.mem_cons_of_mem _ (List.mem_cons_of_mem _ (List.mem_cons_of_mem _ (List.mem_cons_of_mem _ (List.mem_cons_self))))))))
  have p1 : ρ.1 19552 = ρ.1 60036 := of_decide_eq_true (k2.2 _ (List.mem_cons_of_mem _ (List.mem_cons_of_mem _ (List.mem_cons_of_mem _ (List.mem_cons_of_mem _ (List.mem_cons_of_mem _ (List.mem_cons_of_mem _ (List.mem_cons_of_mem _ (List.mem_cons_self)))))))))
  have p2 : ¬ ρ.1 60036 < 1 := of_decide_eq_false (k2.2 _ (List.mem_cons_of_mem _ (List.mem_cons_of_mem _ (List.mem_cons_of_mem _ (List.mem_cons_of_mem _ (List.mem_cons_of_mem _ (List.mem_cons_of_mem _ (List.mem_cons_of_mem _ (List.mem_cons_of_mem _ (List.mem_cons_self))))))))))
  have p3 : ¬ 127 < ρ.1 60036 := of_decide_eq_false (k2.2 _ (List.mem_cons_of_mem _ (List.mem_cons_of_mem _ (List.mem_cons_of_mem _ (List.mem_cons_of_mem _ (List.mem_cons_of_mem _ (List.mem_cons_of_mem _ (List.mem_cons_of_mem _ (List.mem_cons_of_mem _ (List.mem_cons_of_mem _ (List.mem_cons_self)))))))))))
  have p4 : ρ.1 19488 = ρ.1 17952 * 7 := of_decide_eq_true (k2.2 _ (List.mem_cons_of_mem _ (List.mem_cons_of_mem _ (List.mem_cons_of_mem _ (List.mem_cons_of_mem _ (List.mem_cons_of_mem _ (List.mem_cons_of_mem _ (List.mem_cons_of_mem _ (List.mem_cons_of_mem _ (List.mem_cons_of_mem _ (List.mem_cons_of_mem _ (List.mem_cons_self))))))))))))
  have p5 : ¬ ρ.1 17952 < 0 := of_decide_eq_false (k2.2 _ (List.mem_cons_of_mem _ (List.mem_cons_of_mem _ (List.mem_cons_of_mem _ (List.mem_cons_of_mem _ (List.mem_cons_of_mem _ (List.mem_cons_of_mem _ (List.mem_cons_of_mem _ (List.mem_cons_of_mem _ (List.mem_cons_of_mem _ (List.mem_cons_of_mem _ (List.mem_cons_of_mem _ (List.mem_cons_self)))))))))))))
  have p6 : ¬ 22 < ρ.1 17952 := of_decide_eq_false (k2.2 _ (List.mem_cons_of_mem _ (List.mem_cons_of_mem _ (List.mem_cons_of_mem _ (List.mem_cons_of_mem _ (List.mem_cons_of_mem _ (List.mem_cons_of_mem _ (List.mem_cons_of_mem _ (List.mem_cons_of_mem _ (List.mem_cons_of_mem _ (List.mem_cons_of_mem _ (List.mem_cons_of_mem _ (List.mem_cons_of_mem _ (List.mem_cons_self))))))))))))))
  have zt : (22 : Int32).toInt = 22 := rfl
  rw [Int32.lt_iff_toInt_lt, zt] at p6
  have z0 : (0 : Int32).toInt = 0 := rfl
  have z1 : (1 : Int32).toInt = 1 := rfl
  have zq : (127 : Int32).toInt = 127 := rfl
  rw [Int32.lt_iff_toInt_lt, z1] at p2
  rw [Int32.lt_iff_toInt_lt, zq] at p3
  rw [Int32.lt_iff_toInt_lt, z0] at p5
  have hz : 0 ≤ (ρ.1 1292).toInt ∧ (ρ.1 1292).toInt ≤ 160 := k2.1.1 1292 (0, 160) rfl
  have hp := pcs_b hz.1 hz.2
  have b0 : 0 < ρ.1 1292 := of_decide_eq_true b0
  rw [Int32.lt_iff_toInt_lt, z0] at b0
  have b3 : ¬ ρ.1 60192 < ρ.1 60036 := of_decide_eq_false b3
  rw [Int32.lt_iff_toInt_lt, ← p1] at b3
  rw [← p1] at p2 p3
  have hpc : (ρ.1 17952).toInt < pcsI (ρ.1 1292).toInt := by
    by_cases h0 : (ρ.1 1292).toInt = 0
    · have e : ρ.1 17952 = 0 := of_decide_eq_true (k3 _ (List.mem_cons_of_mem _ List.mem_cons_self) (fun f hf => by
        rw [List.mem_singleton.mp hf]
        exact decide_eq_true (Int32.toInt_inj.mp (show (ρ.1 1292).toInt = (0 : Int32).toInt by omega))))
      rw [e, z0]
      omega
    · have e : ρ.1 17952 * 7 < ρ.1 1292 := of_decide_eq_true (k3 _ List.mem_cons_self (fun f hf => by
        rw [List.mem_singleton.mp hf]
        exact decide_eq_false (fun q => h0 (by have q' := congrArg Int32.toInt (show ρ.1 1292 = 0 from q); omega))))
      have e' := Int32.lt_iff_toInt_lt.mp e
      have i7 : (ρ.1 17952 * 7).toInt = (ρ.1 17952).toInt * 7 := i_of (i_ml (i_s _) i_7) (by omega) (by omega)
      rw [i7] at e'
      omega
  have hpv : (ρ.1 1292 + 6) / 7 = Int32.ofInt (pcsI (ρ.1 1292).toInt) := by
    have e6 : (ρ.1 1292 + 6).toInt = (ρ.1 1292).toInt + 6 := i_of (i_ad (i_s _) rfl) (by omega) (by omega)
    have e7 : (7 : Int32).toInt = 7 := rfl
    have : pcsI (ρ.1 1292).toInt = ((ρ.1 1292).toInt + 6) / 7 := by unfold pcsI; rw [if_neg (by omega)]
    apply Int32.toInt_inj.mp
    rw [i_of (n := pcsI (ρ.1 1292).toInt) rfl (by omega) (by omega), this, Int32.toInt_div_of_ne_right _ _ (by decide), e6, e7, Int.tdiv_eq_ediv_of_nonneg (by omega)]
  have b2i : (ρ.1 17984).toInt = (ρ.1 19552).toInt := by rw [b2, p1]
  have hlf : (ρ.1 60192).toInt = pcsI (ρ.1 1292).toInt - (ρ.1 17952).toInt := by
    rw [b1]
    refine i_of (n := pcsI (ρ.1 1292).toInt - (ρ.1 17952).toInt) ?_ (by omega) (by omega)
    exact i_sb hpv (i_s _)
  exact AT_of (q := q_bk) rfl rfl (bk_at hv 200 ρ k1 k2.1 k4 (by omega) p4 hlf (by omega) (by omega) (by omega) (.inl ⟨b2i, by omega⟩) (by rw [b4, z0]; omega) (by rw [b4, z0]; omega) (.inr ⟨by rw [b4]; intro q; have q' := congrArg Int32.toInt q; rw [z0] at q'; omega, b5⟩) b6 (by rw [b4, z0]; omega)))
theorem t_bk011 {X : pX} {ρ0 : sR} (hv : vok X ρ0) : CUTOK X kR zJ c_sblk 7 ρ0 q_bk011 := CUTOK_AT (fun ρ k1 k2 k3 k4 => by
  have b0 : sc X ρ (2, .int 0, .arg 1292) = true := k2.2 _ (List.mem_cons_self)
  have b1 : ρ.1 60192 = (ρ.1 1292 + 6) / 7 - ρ.1 17952 := of_decide_eq_true (k2.2 _ (List.mem_cons_of_mem _ (List.mem_cons_self)))
  have b2 : ρ.1 17984 = ρ.1 60192 := of_decide_eq_true (k2.2 _ (List.mem_cons_of_mem _ (List.mem_cons_of_mem _ (List.mem_cons_self))))
  have b3 : sc X ρ (2, .arg 60192, .arg 60036) = true := k2.2 _ (List.mem_cons_of_mem _ (List.mem_cons_of_mem _ (List.mem_cons_of_mem _ (List.mem_cons_self))))
  have b4 : ρ.1 19584 = 0 := of_decide_eq_true (k2.2 _ (List.mem_cons_of_mem _ (List.mem_cons_of_mem _ (List.mem_cons_of_mem _ (List.mem_cons_of_mem _ (List.mem_cons_self))))))
  have b5 : ρ.1 19520 = 0 := of_decide_eq_true (k2.2 _ (List.mem_cons_of_mem _ (List.mem_cons_of_mem _ (List.mem_cons_of_mem _ (List.mem_cons_of_mem _ (List.mem_cons_of_mem _ (List.mem_cons_self)))))))
  have b6 : ρ.1 17856 = 6 := of_decide_eq_true (k2.2 _ (List.mem_cons_of_mem _ (List.mem_cons_of_mem _ (List.mem_cons_of_mem _ (List.mem_cons_of_mem _ (List.mem_cons_of_mem _ (List.mem_cons_of_mem _ (List.mem_cons_self))))))))
  have p1 : ρ.1 19552 = ρ.1 60036 := of_decide_eq_true (k2.2 _ (List.mem_cons_of_mem _ (List.mem_cons_of_mem _ (List.mem_cons_of_mem _ (List.mem_cons_of_mem _ (List.mem_cons_of_mem _ (List.mem_cons_of_mem _ (List.mem_cons_of_mem _ (List.mem_cons_self)))))))))
  have p2 : ¬ ρ.1 60036 < 1 := of_decide_eq_false (k2.2 _ (List.mem_cons_of_mem _ (List.mem_cons_of_mem _ (List.mem_cons_of_mem _ (List.mem_cons_of_mem _ (List.mem_cons_of_mem _ (List.mem_cons_of_mem _ (List.mem_cons_of_mem _ (List.mem_cons_of_mem _ (List.mem_cons_self))))))))))
  have p3 : ¬ 127 < ρ.1 60036 := of_decide_eq_false (k2.2 _ (List.mem_cons_of_mem _ (List.mem_cons_of_mem _ (List.mem_cons_of_mem _ (List.mem_cons_of_mem _ (List.mem_cons_of_mem _ (List.mem_cons_of_mem _ (List.mem_cons_of_mem _ (List.mem_cons_of_mem _ (List.mem_cons_of_mem _ (List.mem_cons_self)))))))))))
  have p4 : ρ.1 19488 = ρ.1 17952 * 7 := of_decide_eq_true (k2.2 _ (List.mem_cons_of_mem _ (List.mem_cons_of_mem _ (List.mem_cons_of_mem _ (List.mem_cons_of_mem _ (List.mem_cons_of_mem _ (List.mem_cons_of_mem _ (List.mem_cons_of_mem _ (List.mem_cons_of_mem _ (List.mem_cons_of_mem _ (List.mem_cons_of_mem _ (List.mem_cons_self))))))))))))
  have p5 : ¬ ρ.1 17952 < 0 := of_decide_eq_false (k2.2 _ (List.mem_cons_of_mem _ (List.mem_cons_of_mem _ (List.mem_cons_of_mem _ (List.mem_cons_of_mem _ (List.mem_cons_of_mem _ (List.mem_cons_of_mem _ (List.mem_cons_of_mem _ (List.mem_cons_of_mem _ (List.mem_cons_of_mem _ (List.mem_cons_of_mem _ (List.mem_cons_of_mem _ (List.mem_cons_self)))))))))))))
  have p6 : ¬ 22 < ρ.1 17952 := of_decide_eq_false (k2.2 _ (List.mem_cons_of_mem _ (List.mem_cons_of_mem _ (List.mem_cons_of_mem _ (List.mem_cons_of_mem _ (List.mem_cons_of_mem _ (List.mem_cons_of_mem _ (List.mem_cons_of_mem _ (List.mem_cons_of_mem _ (List.mem_cons_of_mem _ (List.mem_cons_of_mem _ (List.mem_cons_of_mem _ (List.mem_cons_of_mem _ (List.mem_cons_self))))))))))))))
  have zt : (22 : Int32).toInt = 22 := rfl
  rw [Int32.lt_iff_toInt_lt, zt] at p6
  have z0 : (0 : Int32).toInt = 0 := rfl
  have z1 : (1 : Int32).toInt = 1 := rfl
  have zq : (127 : Int32).toInt = 127 := rfl
  rw [Int32.lt_iff_toInt_lt, z1] at p2
  rw [Int32.lt_iff_toInt_lt, zq] at p3
  rw [Int32.lt_iff_toInt_lt, z0] at p5
  have hz : 0 ≤ (ρ.1 1292).toInt ∧ (ρ.1 1292).toInt ≤ 160 := k2.1.1 1292 (0, 160) rfl
  have hp := pcs_b hz.1 hz.2
  have b0 : 0 < ρ.1 1292 := of_decide_eq_true b0
  rw [Int32.lt_iff_toInt_lt, z0] at b0
  have b3 : ρ.1 60192 < ρ.1 60036 := of_decide_eq_true b3
  rw [Int32.lt_iff_toInt_lt, ← p1] at b3
  rw [← p1] at p2 p3
  have hpc : (ρ.1 17952).toInt < pcsI (ρ.1 1292).toInt := by
    by_cases h0 : (ρ.1 1292).toInt = 0
    · have e : ρ.1 17952 = 0 := of_decide_eq_true (k3 _ (List.mem_cons_of_mem _ List.mem_cons_self) (fun f hf => by
        rw [List.mem_singleton.mp hf]
        exact decide_eq_true (Int32.toInt_inj.mp (show (ρ.1 1292).toInt = (0 : Int32).toInt by omega))))
      rw [e, z0]
      omega
    · have e : ρ.1 17952 * 7 < ρ.1 1292 := of_decide_eq_true (k3 _ List.mem_cons_self (fun f hf => by
        rw [List.mem_singleton.mp hf]
        exact decide_eq_false (fun q => h0 (by have q' := congrArg Int32.toInt (show ρ.1 1292 = 0 from q); omega))))
      have e' := Int32.lt_iff_toInt_lt.mp e
      have i7 : (ρ.1 17952 * 7).toInt = (ρ.1 17952).toInt * 7 := i_of (i_ml (i_s _) i_7) (by omega) (by omega)
      rw [i7] at e'
      omega
  have hpv : (ρ.1 1292 + 6) / 7 = Int32.ofInt (pcsI (ρ.1 1292).toInt) := by
    have e6 : (ρ.1 1292 + 6).toInt = (ρ.1 1292).toInt + 6 := i_of (i_ad (i_s _) rfl) (by omega) (by omega)
    have e7 : (7 : Int32).toInt = 7 := rfl
    have : pcsI (ρ.1 1292).toInt = ((ρ.1 1292).toInt + 6) / 7 := by unfold pcsI; rw [if_neg (by omega)]
    apply Int32.toInt_inj.mp
    rw [i_of (n := pcsI (ρ.1 1292).toInt) rfl (by omega) (by omega), this, Int32.toInt_div_of_ne_right _ _ (by decide), e6, e7, Int.tdiv_eq_ediv_of_nonneg (by omega)]
  have b2i : (ρ.1 17984).toInt = (ρ.1 60192).toInt := by rw [b2]
  have hlf : (ρ.1 60192).toInt = pcsI (ρ.1 1292).toInt - (ρ.1 17952).toInt := by
    rw [b1]
    refine i_of (n := pcsI (ρ.1 1292).toInt - (ρ.1 17952).toInt) ?_ (by omega) (by omega)
    exact i_sb hpv (i_s _)
  exact AT_of (q := q_bk) rfl rfl (bk_at hv 200 ρ k1 k2.1 k4 (by omega) p4 hlf (by omega) (by omega) (by omega) (.inr ⟨b2i, by omega⟩) (by rw [b4, z0]; omega) (by rw [b4, z0]; omega) (.inr ⟨by rw [b4]; intro q; have q' := congrArg Int32.toInt q; rw [z0] at q'; omega, b5⟩) b6 (by rw [b4, z0]; omega)))
theorem s_sblk {X : pX} : SREL X pF pdfl mt_all kR zJ c_sblk := SREL_QC kR_x kR_0 (Cs := []) (fun C hC => by cases hC) (d := 7) rfl c_sblk_f (Q := [q_bk000, q_bk001, q_bk010, q_bk011]) (fun ρ0 hv => fun q hq => by
    simp only [List.mem_cons, List.not_mem_nil, or_false] at hq
    rcases hq with hq | hq | hq | hq
    · rw [hq]; exact t_bk000 hv
    · rw [hq]; exact t_bk001 hv
    · rw [hq]; exact t_bk010 hv
    · rw [hq]; exact t_bk011 hv) (QC_run 200 e_sblk)
