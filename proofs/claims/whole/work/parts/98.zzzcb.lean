set_option maxRecDepth 20000
theorem rem_12 {x : Int32} (h : 0 ≤ x.toInt) (q : x - x / 12 * 12 = 0) : x.toInt % 12 = 0 := by
  have e : x = x / 12 * 12 := by
    have := congrArg (fun z => z + x / 12 * 12) q
    simpa using this
  have d : (x / 12).toInt = x.toInt / 12 := by
    rw [Int32.toInt_div]
    have z : (12 : Int32).toInt = 12 := rfl
    rw [z, Int.tdiv_eq_ediv_of_nonneg h]
    have := Int32.toInt_lt x
    exact Int.bmod_eq_of_le (by omega) (by omega)
  have m : (x / 12 * 12).toInt = x.toInt / 12 * 12 := by
    rw [Int32.toInt_mul, d]
    have z : (12 : Int32).toInt = 12 := rfl
    have := Int32.toInt_lt x
    rw [z]
    exact Int.bmod_eq_of_le (by omega) (by omega)
  have := congrArg Int32.toInt e
  rw [m] at this
  omega
/-! ===== rows that a bank has kept ===== -/
noncomputable def cpI (bk a k : Nat) : sT := .elem (.arg bk) (if k = 0 then .arg a else .add (.arg a) (.int (Int32.ofNat k)))
noncomputable def cpW (bk a : Nat) : Nat → List (sT × sT)
  | 0 => []
  | k + 1 => (.int (Int32.ofNat k), cpI bk a k) :: cpW bk a k
theorem cp_v {X : pX} {ρ : sR} {bk a p j : Nat} (hb : bk % 2 = 0) (hp : p % 2 = 0) (a0 : 0 ≤ (ρ.1 a).toInt) (a1 : (ρ.1 a).toInt ≤ 5000) : ∀ n : Nat, n ≤ 1000 → aden X ρ (.arg p) (cpW bk a n) j = .int (if j < n then ρ.2.2.1 bk ((ρ.1 a).toInt.toNat + j) else ρ.2.2.1 p j)
  | 0, _ => by
    show (if p % 2 = 1 then _ else Value.int (ρ.2.2.1 p j)) = _
    rw [if_neg (by omega), if_neg (by omega)]
  | k + 1, hn => by
    show (if (Int32.ofNat k).toNatClampNeg = j then sv X ρ (cpI bk a k) else aden X ρ (.arg p) (cpW bk a k) j) = _
    rw [cp_v hb hp a0 a1 k (by omega), s_nat, sp_nat (by omega), Int.toNat_natCast]
    by_cases e : k = j
    · rw [if_pos e, if_pos (by omega), ← e]
      have hk : sk (cpI bk a k) = 0 := by
        unfold cpI
        show bk % 2 = 0
        exact hb
      rw [sv_int hk]
      congr 1
      unfold cpI
      by_cases z : k = 0
      · rw [if_pos z, z]
        show ρ.2.2.1 bk (ρ.1 a).toNatClampNeg = _
        rw [s_nat]
        rfl
      · rw [if_neg z]
        show ρ.2.2.1 bk (ρ.1 a + Int32.ofNat k).toNatClampNeg = _
        have hs := sp_nat (k := k) (by omega)
        rw [s_nat, s_add (by rw [hs]; omega) (by rw [hs]; omega), hs]
        exact congrArg (ρ.2.2.1 bk) (show ((ρ.1 a).toInt + (k : Int)).toNat = (ρ.1 a).toInt.toNat + k by omega)
    · rw [if_neg e]
      by_cases q : j < k
      · rw [if_pos q, if_pos (by omega)]
      · rw [if_neg q, if_neg (by omega)]
theorem k103 {X : pX} {ρ : sR} {a b : Nat} {n : sT} (ha : a % 2 = 0) (hb : b % 2 = 0) (hn : sk n = 0) : sc X ρ (103, .add (.elem (.arg a) (.int 0)) (.elem (.arg b) (.int 0)), n) = true ↔ ∀ j : Nat, (j : Int) < (sd X ρ n).1.toInt → ρ.2.2.1 a j = ρ.2.2.1 b j := by
  have e2 : sn X ρ n = (sd X ρ n).1.toInt := by
    unfold sn
    rw [if_neg (by rw [hn]; decide)]
  show (Nat.ble 100 103 && apred 103 (aits X ρ (.add (.elem (.arg a) (.int 0)) (.elem (.arg b) (.int 0)))) (sn X ρ n)) = true ↔ _
  rw [show Nat.ble 100 103 = true from rfl, Bool.true_and, e2, show aits X ρ (.add (.elem (.arg a) (.int 0)) (.elem (.arg b) (.int 0))) = [(aarr ρ (.elem (.arg a) (.int 0)), if sk (.elem (.arg a) (.int 0)) = 1 then (sd X ρ (.elem (.arg a) (.int 0))).2.toInt else (sd X ρ (.elem (.arg a) (.int 0))).1.toInt), (aarr ρ (.elem (.arg b) (.int 0)), if sk (.elem (.arg b) (.int 0)) = 1 then (sd X ρ (.elem (.arg b) (.int 0))).2.toInt else (sd X ρ (.elem (.arg b) (.int 0))).1.toInt)] from rfl, aar_b ha, aar_b hb]
  show ((List.range (sd X ρ n).1.toInt.toNat).all (fun j => decide (ρ.2.2.1 a j = ρ.2.2.1 b j))) = true ↔ _
  simp only [List.all_eq_true, List.mem_range, decide_eq_true_eq]
  exact ⟨fun h j hj => h j (by omega), fun h j hj => h j (by omega)⟩
theorem ap112 {f g h1 h2 : Nat → Int32} {k1 k2 k3 k4 : Nat → Int64} {x y u v n : Int} : apred 112 [((h1, k1), u), ((f, k2), x), ((h2, k3), v), ((g, k4), y)] n = (List.range n.toNat).all (fun j => decide (f (u.toNat + j) = g (v.toNat + j))) := rfl
theorem k112v {X : pX} {ρ : sR} {a b : Nat} {s t n : sT} (ha : a % 2 = 0) (hb : b % 2 = 0) (hn : sk n = 0) (hs : sk s = 0) (ht : sk t = 0) : sc X ρ (112, .add s (.add (.elem (.arg a) (.int 0)) (.add t (.elem (.arg b) (.int 0)))), n) = true ↔ ∀ j : Nat, (j : Int) < (sd X ρ n).1.toInt → ρ.2.2.1 a ((sd X ρ s).1.toInt.toNat + j) = ρ.2.2.1 b ((sd X ρ t).1.toInt.toNat + j) := by
  have e2 : sn X ρ n = (sd X ρ n).1.toInt := by
    unfold sn
    rw [if_neg (by rw [hn]; decide)]
  have h3 : aits X ρ (.add s (.add (.elem (.arg a) (.int 0)) (.add t (.elem (.arg b) (.int 0))))) = [(aarr ρ s, if sk s = 1 then (sd X ρ s).2.toInt else (sd X ρ s).1.toInt), (aarr ρ (.elem (.arg a) (.int 0)), if sk (.elem (.arg a) (.int 0)) = 1 then (sd X ρ (.elem (.arg a) (.int 0))).2.toInt else (sd X ρ (.elem (.arg a) (.int 0))).1.toInt), (aarr ρ t, if sk t = 1 then (sd X ρ t).2.toInt else (sd X ρ t).1.toInt), (aarr ρ (.elem (.arg b) (.int 0)), if sk (.elem (.arg b) (.int 0)) = 1 then (sd X ρ (.elem (.arg b) (.int 0))).2.toInt else (sd X ρ (.elem (.arg b) (.int 0))).1.toInt)] := rfl
  show (Nat.ble 100 112 && apred 112 (aits X ρ (.add s (.add (.elem (.arg a) (.int 0)) (.add t (.elem (.arg b) (.int 0)))))) (sn X ρ n)) = true ↔ _
  rw [show Nat.ble 100 112 = true from rfl, Bool.true_and, e2, h3, aar_b ha, aar_b hb, if_neg (show ¬ sk s = 1 by rw [hs]; decide), if_neg (show ¬ sk t = 1 by rw [ht]; decide), ap112]
  simp only [List.all_eq_true, List.mem_range, decide_eq_true_eq]
  exact ⟨fun h j hj => h j (by omega), fun h j hj => h j (by omega)⟩
noncomputable def zKWt : sH := zSh zWB 45 230 1308 24 2244 144 96 64452 64484
noncomputable def zKWp : sH := zSh zWB 46 232 1308 144 2276 144 576 64452 64484
noncomputable def c_kwt0q : sC := ((55, 278, 8), ([tr 42, .int 110, tr 77, .arg 60000, .arg 60096], [tr 219, .arg 1308, .int 110]), ([42, 44, 45, 47, 77], [219, 230, 231, 334, 222]), [((2, .arg 60000, .int 0), false), ((2, .int 1024, .add (.arg 60000) (.arg 60096)), false), ((0, .arg 19328, .arg 60096), true), ((2, .arg 60096, .int 0), false), ((2, .int 24, .arg 60096), false), ((2, .int 1024, .arg 60000), false), ((112, .add (.arg 60000) (.add (.elem (.arg 1380) (.int 0)) (.add (.int 0) (.elem (.arg 2212) (.int 0)))), .arg 60096), true), ((103, .add (.elem (.arg 64452) (.int 0)) (.elem (.arg 64484) (.int 0)), .int 24), true)], ([1298, 1554, 60032], [64452, 64484]), (none, some (.int 0)), [((0, .arg 1298, .arg 60096), true), ((0, .arg 1554, .arg 60096), true), ((103, .add (.elem (.arg 64452) (.int 0)) (.elem (.arg 64484) (.int 0)), .int 24), true)], ([], []))
theorem c_kwt0q_f : cfine zKWt 65536 c_kwt0q = true := by decide +kernel
noncomputable def zf98zzzcb_0 : sQ × Bool := ((103, .add (.elem (.arg 64452) (.int 0)) (.elem (.arg 64484) (.int 0)), .arg 60032), true)
noncomputable def zf98zzzcb_1 : sQ × Bool := ((112, .add (.arg 60096) (.add (.elem (.arg 64452) (.int 0)) (.add (.arg 60096) (.elem (.arg 64484) (.int 0)))), .sub (.int 24) (.arg 60096)), true)
noncomputable def zf98zzzcb_2 : sQ × Bool := ((112, .add (.arg 60000) (.add (.elem (.arg 1380) (.int 0)) (.add (.int 0) (.elem (.arg 64452) (.int 0)))), .arg 60096), true)
noncomputable def zf98zzzcb_3 : sQ × Bool := ((2, .arg 60032, .int 0), false)
noncomputable def zf98zzzcb_4 : sQ × Bool := ((2, .arg 60096, .arg 60032), false)
noncomputable def zf98zzzcb_5 : sQ × Bool := ((0, .arg 19328, .arg 60096), true)
noncomputable def zf98zzzcb_6 : sQ × Bool := ((2, .arg 60096, .int 0), false)
noncomputable def zf98zzzcb_7 : sQ × Bool := ((2, .int 24, .arg 60096), false)
noncomputable def zf98zzzcb_8 : sQ × Bool := ((0, .arg 1298, .arg 60096), true)
noncomputable def zf98zzzcb_9 : sQ × Bool := ((112, .add (.arg 60000) (.add (.elem (.arg 1380) (.int 0)) (.add (.int 0) (.elem (.arg 2212) (.int 0)))), .arg 60096), true)
noncomputable def q_kwt0L : sCut := ((fr 0 55 35 [] [], [fBot], 7), (fr 0 278 21 [(0, tr 219), (1, .arg 1308), (2, .int 110), (3, .int 1), (4, .arg 60032)] [], [fBot], 7), [zf98zzzcb_0, zf98zzzcb_1, zf98zzzcb_2, zf98zzzcb_3, zf98zzzcb_4, zf98zzzcb_5, zf98zzzcb_6, zf98zzzcb_7, zf98zzzcb_8, zf98zzzcb_9], [])
noncomputable def zf98zzzcb_10 : sQ × Bool := ((2, .sub (.arg 60096) (.arg 60032), .arg 65024), true)
noncomputable def q_kwt0LL : sCut := ((fr 0 55 35 [] [], [fBot], 7), (fr 0 278 21 [(0, tr 219), (1, .arg 1308), (2, .int 110), (3, .int 1), (4, .arg 60032)] [], [fBot], 7), [zf98zzzcb_10, zf98zzzcb_0, zf98zzzcb_1, zf98zzzcb_2, zf98zzzcb_3, zf98zzzcb_4, zf98zzzcb_5, zf98zzzcb_6, zf98zzzcb_7, zf98zzzcb_8, zf98zzzcb_9], [])
noncomputable def q_kwt0LT : sCut := ((fr 0 55 35 [] [], [fBot], 7), (fr 0 278 21 [(0, tr 219), (1, .arg 1308), (2, .int 110), (3, .int 1), (4, .arg 60032)] [], [fBot], 7), [zf98zzzcb_10, zf98zzzcb_5, zf98zzzcb_6, zf98zzzcb_7, zf98zzzcb_8, zf98zzzcb_9], [])
noncomputable def q_kwt0ST : sCut := ((fr 0 55 35 [] [], [fBot], 7), (fr 0 278 21 [(0, tr 219), (1, .arg 1308), (2, .int 110), (3, .int 1), (4, .arg 60032)] [], [fBot], 7), [zf98zzzcb_5, zf98zzzcb_6, zf98zzzcb_7, zf98zzzcb_8, zf98zzzcb_9], [])
noncomputable def zf98zzzcb_11 : sQ × Bool := ((0, .sub (.arg 60096) (.arg 60032), .arg 65024), true)
noncomputable def q_kwt0E : sCut := ((fr 0 55 35 [] [], [fBot], 7), (fr 0 278 21 [(0, tr 219), (1, .arg 1308), (2, .int 110), (3, .int 1), (4, .arg 60032)] [], [fBot], 7), [zf98zzzcb_11, zf98zzzcb_0, zf98zzzcb_1, zf98zzzcb_2, zf98zzzcb_3, zf98zzzcb_4, zf98zzzcb_5, zf98zzzcb_6, zf98zzzcb_7, zf98zzzcb_8, zf98zzzcb_9], [])
noncomputable def zf98zzzcb_12 : sQ × Bool := ((2, .arg 60032, .arg 60096), true)
noncomputable def zf98zzzcb_13 : sQ × Bool := ((2, .arg 60032, .arg 19328), true)
noncomputable def zf98zzzcb_14 : sQ × Bool := ((2, .int 23, .arg 60032), false)
noncomputable def zf98zzzcb_15 : sQ × Bool := ((2, .sub (.arg 60096) (.add (.arg 60032) (.int 1)), .arg 65024), true)
noncomputable def q_kwt0En : sCut := ((fr 0 55 35 [] [], [fBot], 7), (fr 0 278 21 [(0, tr 219), (1, .arg 1308), (2, .int 110), (3, .int 1), (4, .arg 60032)] [], [fBot], 7), [zf98zzzcb_12, zf98zzzcb_13, zf98zzzcb_14, zf98zzzcb_15, zf98zzzcb_11, zf98zzzcb_0, zf98zzzcb_1, zf98zzzcb_2, zf98zzzcb_3, zf98zzzcb_4, zf98zzzcb_5, zf98zzzcb_6, zf98zzzcb_7, zf98zzzcb_8, zf98zzzcb_9], [])
noncomputable def w_kwt0En : List (sCut × List (Nat × sT) × List (Nat × sT × List (sT × sT))) := [(q_kwt0LT, [(60032, .add (.arg 60032) (.int 1))], [(64452, .arg 64452, []), (64484, .arg 64484, [(.arg 60032, .elem (.arg 2212) (.arg 60032))])])]
theorem k_kwt0En : cbody kR [] (cpl1 zKWt c_kwt0q [q_kwt0LT]) (cpl2 zKWt c_kwt0q [q_kwt0LT]) (cleafB kR zKWt c_kwt0q w_kwt0En) 120 false true q_kwt0En.2.2.1 q_kwt0En.2.2.2 (cst zKWt c_kwt0q.2.2.1.1 q_kwt0En.1) (cst zKWt c_kwt0q.2.2.1.2 q_kwt0En.2.1) = true := by decide +kernel
theorem t_kwt0En {X : pX} {ρ0 : sR} (hv : vok X ρ0) (hk_ : CUTOK X kR zKWt c_kwt0q 7 ρ0 q_kwt0LL) : CUTOK X kR zKWt c_kwt0q 7 ρ0 q_kwt0En := CUTOK_AT (fun ρ k1 hF hI k4 => AT_of (q := q_kwt0En) rfl rfl (SEM_runB kR_x kR_0 (Cs := []) (fun C hC => by cases hC) c_kwt0q_f (Q := w_kwt0En) hv 120 (b1 := false) (b2 := true) k_kwt0En k1 hF hI k4 (fun p hp ρ3 m1 m2 m3 m4 m5 m6 => by
  rw [List.mem_singleton.mp hp] at m2 m3 m5 m6 ⊢
  have v0 : (0 : Int) ≤ (ρ.1 60096).toInt := ri_lf (x := ρ.1 60096) (y := 0) (hF.2 _ (List.mem_cons_of_mem _ (List.mem_cons_of_mem _ (List.mem_cons_of_mem _ (List.mem_cons_of_mem _ (List.mem_cons_of_mem _ (List.mem_cons_of_mem _ (List.mem_cons_of_mem _ (List.mem_cons_of_mem _ (List.mem_cons_of_mem _ (List.mem_cons_of_mem _ (List.mem_cons_of_mem _ (List.mem_cons_self)))))))))))))
  have v1 : (ρ.1 60096).toInt ≤ 24 := ri_lf (x := 24) (y := ρ.1 60096) (hF.2 _ (List.mem_cons_of_mem _ (List.mem_cons_of_mem _ (List.mem_cons_of_mem _ (List.mem_cons_of_mem _ (List.mem_cons_of_mem _ (List.mem_cons_of_mem _ (List.mem_cons_of_mem _ (List.mem_cons_of_mem _ (List.mem_cons_of_mem _ (List.mem_cons_of_mem _ (List.mem_cons_of_mem _ (List.mem_cons_of_mem _ (List.mem_cons_self))))))))))))))
  have c0 : (0 : Int) ≤ (ρ.1 60032).toInt := ri_lf (x := ρ.1 60032) (y := 0) (hF.2 _ (List.mem_cons_of_mem _ (List.mem_cons_of_mem _ (List.mem_cons_of_mem _ (List.mem_cons_of_mem _ (List.mem_cons_of_mem _ (List.mem_cons_of_mem _ (List.mem_cons_of_mem _ (List.mem_cons_of_mem _ (List.mem_cons_self))))))))))
  have c1 : (ρ.1 60032).toInt ≤ (ρ.1 60096).toInt := ri_lf (x := ρ.1 60096) (y := ρ.1 60032) (hF.2 _ (List.mem_cons_of_mem _ (List.mem_cons_of_mem _ (List.mem_cons_of_mem _ (List.mem_cons_of_mem _ (List.mem_cons_of_mem _ (List.mem_cons_of_mem _ (List.mem_cons_of_mem _ (List.mem_cons_of_mem _ (List.mem_cons_of_mem _ (List.mem_cons_self)))))))))))
  have ek : (ρ.1 60032 + 1).toInt = (ρ.1 60032).toInt + 1 := s_add (y := 1) (by show _ ≤ _ + (1 : Int); omega) (by show _ + (1 : Int) ≤ _; omega)
  have en : ((24 : Int32) - ρ.1 60096).toInt = 24 - (ρ.1 60096).toInt := i_of (i_sb (show (24 : Int32) = Int32.ofInt 24 from rfl) (i_s _)) (by omega) (by omega)
  have t1 : ρ3.1 60032 = ρ.1 60032 + 1 := congrArg Prod.fst (m5 _ (List.mem_cons_self))
  have hP : ∀ j, ρ3.2.2.1 64452 j = ρ.2.2.1 64452 j := fun j => Value.int.inj (m6 (64452, .arg 64452, []) (List.mem_cons_self) j)
  have hQ : ∀ j, ρ3.2.2.1 64484 j = if (ρ.1 60032).toInt.toNat = j then ρ.2.2.1 2212 (ρ.1 60032).toInt.toNat else ρ.2.2.1 64484 j := fun j => by
    have hw : Value.int (ρ3.2.2.1 64484 j) = if (ρ.1 60032).toNatClampNeg = j then Value.int (ρ.2.2.1 2212 (ρ.1 60032).toNatClampNeg) else Value.int (ρ.2.2.1 64484 j) := m6 (64484, .arg 64484, [(.arg 60032, .elem (.arg 2212) (.arg 60032))]) (List.mem_cons_of_mem _ (List.mem_cons_self)) j
    rw [s_nat] at hw
    by_cases hj : (ρ.1 60032).toInt.toNat = j
    · rw [if_pos hj] at hw ⊢; exact Value.int.inj hw
    · rw [if_neg hj] at hw ⊢; exact Value.int.inj hw
  have eV : ρ3.1 60096 = ρ.1 60096 := (m4.1 60096 (by decide) (by decide)).1.trans (k4.1 60096 (by decide) (by decide)).1.symm
  have eA : ρ3.1 60000 = ρ.1 60000 := (m4.1 60000 (by decide) (by decide)).1.trans (k4.1 60000 (by decide) (by decide)).1.symm
  have eB : ρ3.2.2.1 1380 = ρ.2.2.1 1380 := (m4.2 1380 (by decide) (by decide)).1.trans (k4.2 1380 (by decide) (by decide)).1.symm
  have hl : (ρ.1 60032).toInt < (ρ.1 60096).toInt := ri_lt (x := ρ.1 60032) (y := ρ.1 60096) (hF.2 _ (List.mem_cons_self))
  have h3 := (k103 (by decide) (by decide) rfl).mp (hF.2 _ (List.mem_cons_of_mem _ (List.mem_cons_of_mem _ (List.mem_cons_of_mem _ (List.mem_cons_of_mem _ (List.mem_cons_of_mem _ (List.mem_cons_self)))))))
  have ht := (k112v (a := 64452) (b := 64484) (s := .arg 60096) (t := .arg 60096) (n := .sub (.int 24) (.arg 60096)) (by decide) (by decide) rfl rfl rfl).mp (hF.2 _ (List.mem_cons_of_mem _ (List.mem_cons_of_mem _ (List.mem_cons_of_mem _ (List.mem_cons_of_mem _ (List.mem_cons_of_mem _ (List.mem_cons_of_mem _ (List.mem_cons_self))))))))
  have hp := (k112v (a := 1380) (b := 64452) (s := .arg 60000) (t := .int 0) (n := .arg 60096) (by decide) (by decide) rfl rfl rfl).mp (hF.2 _ (List.mem_cons_of_mem _ (List.mem_cons_of_mem _ (List.mem_cons_of_mem _ (List.mem_cons_of_mem _ (List.mem_cons_of_mem _ (List.mem_cons_of_mem _ (List.mem_cons_of_mem _ (List.mem_cons_self)))))))))
  have hd := (k112v (a := 1380) (b := 2212) (s := .arg 60000) (t := .int 0) (n := .arg 60096) (by decide) (by decide) rfl rfl rfl).mp (hF.2 _ (List.mem_cons_of_mem _ (List.mem_cons_of_mem _ (List.mem_cons_of_mem _ (List.mem_cons_of_mem _ (List.mem_cons_of_mem _ (List.mem_cons_of_mem _ (List.mem_cons_of_mem _ (List.mem_cons_of_mem _ (List.mem_cons_of_mem _ (List.mem_cons_of_mem _ (List.mem_cons_of_mem _ (List.mem_cons_of_mem _ (List.mem_cons_of_mem _ (List.mem_cons_of_mem _ (List.mem_cons_self))))))))))))))))
  have x3 : sc X ρ3 (103, .add (.elem (.arg 64452) (.int 0)) (.elem (.arg 64484) (.int 0)), .arg 60032) = true := (k103 (by decide) (by decide) rfl).mpr (fun j hj => by
    have hj : (j : Int) < (ρ3.1 60032).toInt := hj
    rw [t1, ek] at hj
    rw [hP, hQ]
    by_cases e : (ρ.1 60032).toInt.toNat = j
    · rw [if_pos e, e]
      have a1 := hp j (show (j : Int) < (ρ.1 60096).toInt by omega)
      have a2 := hd j (show (j : Int) < (ρ.1 60096).toInt by omega)
      have a3 := a1.symm.trans a2
      have z0 : (0 : Int32).toInt.toNat + j = j := Nat.zero_add j
      rw [show (sd X ρ (.int 0)).1.toInt.toNat + j = j from z0] at a3
      exact a3
    · rw [if_neg e]
      exact h3 j (show (j : Int) < (ρ.1 60032).toInt by omega))
  have xt : sc X ρ3 (112, .add (.arg 60096) (.add (.elem (.arg 64452) (.int 0)) (.add (.arg 60096) (.elem (.arg 64484) (.int 0)))), .sub (.int 24) (.arg 60096)) = true := (k112v (a := 64452) (b := 64484) (s := .arg 60096) (t := .arg 60096) (n := .sub (.int 24) (.arg 60096)) (by decide) (by decide) rfl rfl rfl).mpr (fun j hj => by
    have hj : (j : Int) < ((24 : Int32) - ρ3.1 60096).toInt := hj
    rw [eV] at hj
    show ρ3.2.2.1 64452 ((ρ3.1 60096).toInt.toNat + j) = ρ3.2.2.1 64484 ((ρ3.1 60096).toInt.toNat + j)
    rw [eV, hP, hQ, if_neg (by omega)]
    exact ht j hj)
  have xp : sc X ρ3 (112, .add (.arg 60000) (.add (.elem (.arg 1380) (.int 0)) (.add (.int 0) (.elem (.arg 64452) (.int 0)))), .arg 60096) = true := (k112v (a := 1380) (b := 64452) (s := .arg 60000) (t := .int 0) (n := .arg 60096) (by decide) (by decide) rfl rfl rfl).mpr (fun j hj => by
    have hj : (j : Int) < (ρ3.1 60096).toInt := hj
    rw [eV] at hj
    show ρ3.2.2.1 1380 ((ρ3.1 60000).toInt.toNat + j) = ρ3.2.2.1 64452 ((0 : Int32).toInt.toNat + j)
    rw [eA, eB, hP]
    exact hp j hj)
  have y1 : sc X ρ3 (2, .arg 60032, .int 0) = false := di_lf (x := ρ3.1 60032) (y := 0) (by rw [t1, ek]; show (0 : Int) ≤ _; omega)
  have y2 : sc X ρ3 (2, .arg 60096, .arg 60032) = false := di_lf (x := ρ3.1 60096) (y := ρ3.1 60032) (by rw [t1, ek, eV]; omega)
  exact hk_ ρ3 m1 ⟨m2.1, fcn (m2.2 _ (List.mem_cons_self)) (fcn (x3) (fcn (xt) (fcn (xp) (fcn (y1) (fcn (y2) (fun f hf => m2.2 f (List.mem_cons_of_mem _ hf)))))))⟩ m3 m4)))
noncomputable def zf98zzzcb_16 : sQ × Bool := ((2, .arg 60032, .arg 19328), false)
noncomputable def zf98zzzcb_17 : sQ × Bool := ((2, .arg 19328, .int 0), false)
noncomputable def zf98zzzcb_18 : sQ × Bool := ((2, .int 24, .arg 19328), false)
noncomputable def zf98zzzcb_19 : sQ × Bool := ((103, .add (.elem (.arg 64452) (.int 0)) (.elem (.arg 64484) (.int 0)), .int 24), true)
noncomputable def q_kwt0Ee : sCut := ((fr 0 55 35 [] [], [fBot], 7), (fr 0 278 21 [(0, tr 219), (1, .arg 1308), (2, .int 110), (3, .int 1), (4, .arg 60032)] [], [fBot], 7), [zf98zzzcb_16, zf98zzzcb_17, zf98zzzcb_18, zf98zzzcb_19, zf98zzzcb_11, zf98zzzcb_0, zf98zzzcb_1, zf98zzzcb_2, zf98zzzcb_3, zf98zzzcb_4, zf98zzzcb_5, zf98zzzcb_6, zf98zzzcb_7, zf98zzzcb_8, zf98zzzcb_9], [])
theorem k_kwt0Ee : cbody kR [] (cpl1 zKWt c_kwt0q []) (cpl2 zKWt c_kwt0q []) (cleaf kR zKWt c_kwt0q []) 120 true true q_kwt0Ee.2.2.1 q_kwt0Ee.2.2.2 (cst zKWt c_kwt0q.2.2.1.1 q_kwt0Ee.1) (cst zKWt c_kwt0q.2.2.1.2 q_kwt0Ee.2.1) = true := by decide +kernel
theorem t_kwt0Ee {X : pX} {ρ0 : sR} (hv : vok X ρ0) (hk_ : CUTOK X kR zKWt c_kwt0q 7 ρ0 q_kwt0LL) : CUTOK X kR zKWt c_kwt0q 7 ρ0 q_kwt0Ee := CUT_run kR_x kR_0 (Cs := []) (fun C hC => by cases hC) c_kwt0q_f (Q := []) hv (fun q hq => by cases hq) 120 (b1 := true) (b2 := true) k_kwt0Ee
theorem t_kwt0E {X : pX} {ρ0 : sR} (hv : vok X ρ0) (hk_ : CUTOK X kR zKWt c_kwt0q 7 ρ0 q_kwt0LL) : CUTOK X kR zKWt c_kwt0q 7 ρ0 q_kwt0E := fun ρ k1 hF hI k4 => by
  have v0 : (0 : Int) ≤ (ρ.1 60096).toInt := ri_lf (x := ρ.1 60096) (y := 0) (hF.2 _ (List.mem_cons_of_mem _ (List.mem_cons_of_mem _ (List.mem_cons_of_mem _ (List.mem_cons_of_mem _ (List.mem_cons_of_mem _ (List.mem_cons_of_mem _ (List.mem_cons_of_mem _ (List.mem_cons_self)))))))))
  have v1 : (ρ.1 60096).toInt ≤ 24 := ri_lf (x := 24) (y := ρ.1 60096) (hF.2 _ (List.mem_cons_of_mem _ (List.mem_cons_of_mem _ (List.mem_cons_of_mem _ (List.mem_cons_of_mem _ (List.mem_cons_of_mem _ (List.mem_cons_of_mem _ (List.mem_cons_of_mem _ (List.mem_cons_of_mem _ (List.mem_cons_self))))))))))
  have c0 : (0 : Int) ≤ (ρ.1 60032).toInt := ri_lf (x := ρ.1 60032) (y := 0) (hF.2 _ (List.mem_cons_of_mem _ (List.mem_cons_of_mem _ (List.mem_cons_of_mem _ (List.mem_cons_of_mem _ (List.mem_cons_self))))))
  have c1 : (ρ.1 60032).toInt ≤ (ρ.1 60096).toInt := ri_lf (x := ρ.1 60096) (y := ρ.1 60032) (hF.2 _ (List.mem_cons_of_mem _ (List.mem_cons_of_mem _ (List.mem_cons_of_mem _ (List.mem_cons_of_mem _ (List.mem_cons_of_mem _ (List.mem_cons_self)))))))
  have ek : (ρ.1 60032 + 1).toInt = (ρ.1 60032).toInt + 1 := s_add (y := 1) (by show _ ≤ _ + (1 : Int); omega) (by show _ + (1 : Int) ≤ _; omega)
  have en : ((24 : Int32) - ρ.1 60096).toInt = 24 - (ρ.1 60096).toInt := i_of (i_sb (show (24 : Int32) = Int32.ofInt 24 from rfl) (i_s _)) (by omega) (by omega)
  have eD : ρ.1 19328 = ρ.1 60096 := of_decide_eq_true (hF.2 _ (List.mem_cons_of_mem _ (List.mem_cons_of_mem _ (List.mem_cons_of_mem _ (List.mem_cons_of_mem _ (List.mem_cons_of_mem _ (List.mem_cons_of_mem _ (List.mem_cons_self))))))))
  have hgg : ρ.1 60096 - ρ.1 60032 = ρ.1 65024 := of_decide_eq_true (hF.2 _ (List.mem_cons_self))
  have em : (ρ.1 60096 - ρ.1 60032).toInt = (ρ.1 60096).toInt - (ρ.1 60032).toInt := i_of (by rw [i_sb (i_s (ρ.1 60096)) (i_s (ρ.1 60032))]) (by omega) (by omega)
  have e1 : (ρ.1 60096 - (ρ.1 60032 + 1)).toInt = (ρ.1 60096).toInt - (ρ.1 60032).toInt - 1 := i_of (n := (ρ.1 60096).toInt - (ρ.1 60032).toInt - 1) (by rw [i_sb (i_s (ρ.1 60096)) (i_s (ρ.1 60032 + 1)), ek]; congr 1; omega) (by omega) (by omega)
  by_cases hl : (ρ.1 60032).toInt < (ρ.1 60096).toInt
  · exact t_kwt0En hv hk_ ρ k1 ⟨hF.1, fcn (di_lt (x := ρ.1 60032) (y := ρ.1 60096) hl) (fcn (di_lt (x := ρ.1 60032) (y := ρ.1 19328) (by rw [eD]; exact hl)) (fcn (di_lf (x := 23) (y := ρ.1 60032) (show _ ≤ (23 : Int) by omega)) (fcn (di_lt (x := ρ.1 60096 - (ρ.1 60032 + 1)) (y := ρ.1 65024) (by rw [← hgg, em, e1]; omega)) (hF.2))))⟩ hI k4
  have h3 := (k103 (by decide) (by decide) rfl).mp (hF.2 _ (List.mem_cons_of_mem _ (List.mem_cons_self)))
  have ht := (k112v (a := 64452) (b := 64484) (s := .arg 60096) (t := .arg 60096) (n := .sub (.int 24) (.arg 60096)) (by decide) (by decide) rfl rfl rfl).mp (hF.2 _ (List.mem_cons_of_mem _ (List.mem_cons_of_mem _ (List.mem_cons_self))))
  have x3 : sc X ρ (103, .add (.elem (.arg 64452) (.int 0)) (.elem (.arg 64484) (.int 0)), .int 24) = true := (k103 (by decide) (by decide) rfl).mpr (fun j hj => by
    have hj : (j : Int) < 24 := hj
    by_cases e : (j : Int) < (ρ.1 60032).toInt
    · exact h3 j e
    · have := ht (j - (ρ.1 60096).toInt.toNat) (show ((j - (ρ.1 60096).toInt.toNat : Nat) : Int) < ((24 : Int32) - ρ.1 60096).toInt by rw [en]; omega)
      have z : (ρ.1 60096).toInt.toNat + (j - (ρ.1 60096).toInt.toNat) = j := by omega
      have this : ρ.2.2.1 64452 ((ρ.1 60096).toInt.toNat + (j - (ρ.1 60096).toInt.toNat)) = ρ.2.2.1 64484 ((ρ.1 60096).toInt.toNat + (j - (ρ.1 60096).toInt.toNat)) := this
      rw [z] at this
      exact this)
  exact t_kwt0Ee hv hk_ ρ k1 ⟨hF.1, fcn (di_lf (x := ρ.1 60032) (y := ρ.1 19328) (by rw [eD]; omega)) (fcn (di_lf (x := ρ.1 19328) (y := 0) (by rw [eD]; exact v0)) (fcn (di_lf (x := 24) (y := ρ.1 19328) (by rw [eD]; exact v1)) (fcn (x3) (hF.2))))⟩ hI k4
theorem t_kwt0L {X : pX} {ρ0 : sR} (hv : vok X ρ0) : CUTOK X kR zKWt c_kwt0q 7 ρ0 q_kwt0L := CUT_again (g := 65024) (mt := .sub (.arg 60096) (.arg 60032)) kR_x (by decide +kernel) (by decide) (by decide) (by decide) (by decide +kernel) (by decide +kernel) (by decide +kernel) (by decide +kernel) (by decide +kernel) (fun ρ0 hv hk => t_kwt0E hv hk) ρ0 hv
theorem kwt0_go {X : pX} {ρ0 ρ ρ3 : sR} (hv : vok X ρ0) (k2 : fall X ρ c_kwt0q.2.2.2.1) (m1 : kok X ρ3 kR) (m2 : fok X ρ3 q_kwt0ST.2.2.1) (m3 : iok X ρ3 []) (m4 : agrM 65536 c_kwt0q.2.2.2.2.1.1 c_kwt0q.2.2.2.2.1.2 ρ3 ρ0) (k4 : agrM 65536 c_kwt0q.2.2.2.2.1.1 c_kwt0q.2.2.2.2.1.2 ρ ρ0) (t1 : ρ3.1 60032 = 0) {m : Nat} (hm : (ρ.1 60096).toInt = m) (hP : ∀ j, bden X ρ3 (.arg 64452) j = aden X ρ (.arg 64452) (cpW 1380 60000 m) j) (hQ : ∀ j, bden X ρ3 (.arg 64484) j = bden X ρ (.arg 64484) j) : AT X zKWt c_kwt0q 7 ρ0 ρ3 q_kwt0ST := by
  have v0 : (0 : Int) ≤ (ρ.1 60096).toInt := ri_lf (x := ρ.1 60096) (y := 0) (k2 _ (List.mem_cons_of_mem _ (List.mem_cons_of_mem _ (List.mem_cons_of_mem _ (List.mem_cons_self)))))
  have v1 : (ρ.1 60096).toInt ≤ 24 := ri_lf (x := 24) (y := ρ.1 60096) (k2 _ (List.mem_cons_of_mem _ (List.mem_cons_of_mem _ (List.mem_cons_of_mem _ (List.mem_cons_of_mem _ (List.mem_cons_self))))))
  have a0 : (0 : Int) ≤ (ρ.1 60000).toInt := ri_lf (x := ρ.1 60000) (y := 0) (k2 _ (List.mem_cons_self))
  have a1 : (ρ.1 60000).toInt ≤ 1024 := ri_lf (x := 1024) (y := ρ.1 60000) (k2 _ (List.mem_cons_of_mem _ (List.mem_cons_of_mem _ (List.mem_cons_of_mem _ (List.mem_cons_of_mem _ (List.mem_cons_of_mem _ (List.mem_cons_self)))))))
  have eV : ρ3.1 60096 = ρ.1 60096 := (m4.1 60096 (by decide) (by decide)).1.trans (k4.1 60096 (by decide) (by decide)).1.symm
  have eA : ρ3.1 60000 = ρ.1 60000 := (m4.1 60000 (by decide) (by decide)).1.trans (k4.1 60000 (by decide) (by decide)).1.symm
  have eB : ρ3.2.2.1 1380 = ρ.2.2.1 1380 := (m4.2 1380 (by decide) (by decide)).1.trans (k4.2 1380 (by decide) (by decide)).1.symm
  have hP : ∀ j, ρ3.2.2.1 64452 j = if j < m then ρ.2.2.1 1380 ((ρ.1 60000).toInt.toNat + j) else ρ.2.2.1 64452 j := fun j => by
    have h := hP j
    rw [cp_v (by decide) (by decide) a0 (by omega) m (by omega)] at h
    exact Value.int.inj h
  have hQ : ∀ j, ρ3.2.2.1 64484 j = ρ.2.2.1 64484 j := fun j => Value.int.inj (hQ j)
  have h3 := (k103 (by decide) (by decide) rfl).mp (k2 _ (List.mem_cons_of_mem _ (List.mem_cons_of_mem _ (List.mem_cons_of_mem _ (List.mem_cons_of_mem _ (List.mem_cons_of_mem _ (List.mem_cons_of_mem _ (List.mem_cons_of_mem _ (List.mem_cons_self)))))))))
  have en : ((24 : Int32) - ρ.1 60096).toInt = 24 - (ρ.1 60096).toInt := i_of (i_sb (show (24 : Int32) = Int32.ofInt 24 from rfl) (i_s _)) (by omega) (by omega)
  have x3 : sc X ρ3 (103, .add (.elem (.arg 64452) (.int 0)) (.elem (.arg 64484) (.int 0)), .arg 60032) = true := (k103 (by decide) (by decide) rfl).mpr (fun j hj => by
    have hj : (j : Int) < (ρ3.1 60032).toInt := hj
    rw [t1] at hj
    have z0 : (0 : Int32).toInt = 0 := rfl
    omega)
  have xt : sc X ρ3 (112, .add (.arg 60096) (.add (.elem (.arg 64452) (.int 0)) (.add (.arg 60096) (.elem (.arg 64484) (.int 0)))), .sub (.int 24) (.arg 60096)) = true := (k112v (a := 64452) (b := 64484) (s := .arg 60096) (t := .arg 60096) (n := .sub (.int 24) (.arg 60096)) (by decide) (by decide) rfl rfl rfl).mpr (fun j hj => by
    have hj : (j : Int) < ((24 : Int32) - ρ3.1 60096).toInt := hj
    rw [eV, en] at hj
    show ρ3.2.2.1 64452 ((ρ3.1 60096).toInt.toNat + j) = ρ3.2.2.1 64484 ((ρ3.1 60096).toInt.toNat + j)
    rw [eV, hP, hQ, if_neg (by omega)]
    exact h3 _ (show (((ρ.1 60096).toInt.toNat + j : Nat) : Int) < 24 by omega))
  have xp : sc X ρ3 (112, .add (.arg 60000) (.add (.elem (.arg 1380) (.int 0)) (.add (.int 0) (.elem (.arg 64452) (.int 0)))), .arg 60096) = true := (k112v (a := 1380) (b := 64452) (s := .arg 60000) (t := .int 0) (n := .arg 60096) (by decide) (by decide) rfl rfl rfl).mpr (fun j hj => by
    have hj : (j : Int) < (ρ3.1 60096).toInt := hj
    rw [eV] at hj
    show ρ3.2.2.1 1380 ((ρ3.1 60000).toInt.toNat + j) = ρ3.2.2.1 64452 ((0 : Int32).toInt.toNat + j)
    have z0 : (0 : Int32).toInt.toNat + j = j := Nat.zero_add j
    rw [z0, eA, eB, hP, if_pos (by omega)])
  have y1 : sc X ρ3 (2, .arg 60032, .int 0) = false := di_lf (x := ρ3.1 60032) (y := 0) (by rw [t1]; exact Int.le_refl _)
  have y2 : sc X ρ3 (2, .arg 60096, .arg 60032) = false := di_lf (x := ρ3.1 60096) (y := ρ3.1 60032) (by rw [t1, eV]; exact v0)
  exact AT_of (q := q_kwt0L) rfl rfl (t_kwt0L hv ρ3 m1 ⟨m2.1, fcn x3 (fcn xt (fcn xp (fcn y1 (fcn y2 m2.2))))⟩ m3 m4)
noncomputable def zf98zzzcb_20 : sQ × Bool := ((0, .arg 60096, .int 0), true)
noncomputable def zf98zzzcb_21 : sQ × Bool := ((0, .arg 19328, .int 0), true)
noncomputable def zf98zzzcb_22 : sQ × Bool := ((2, .int 1024, .arg 60000), false)
noncomputable def zf98zzzcb_23 : sQ × Bool := ((2, .arg 60000, .int 0), false)
noncomputable def zf98zzzcb_24 : sQ × Bool := ((2, .int 1024, .add (.arg 60000) (.arg 60096)), false)
noncomputable def q_kwt0v0 : sCut := ((fr 0 55 0 [(0, tr 42), (1, .int 110), (2, tr 77), (3, .arg 60000), (4, .arg 60096)] [], [fBot], 7), (fr 0 278 0 [(0, tr 219), (1, .arg 1308), (2, .int 110)] [], [fBot], 7), [zf98zzzcb_20, zf98zzzcb_21, zf98zzzcb_22, zf98zzzcb_23, zf98zzzcb_24, zf98zzzcb_5, zf98zzzcb_6, zf98zzzcb_7, zf98zzzcb_22, zf98zzzcb_9, zf98zzzcb_19], [])
noncomputable def w_kwt0v0 : List (sCut × List (Nat × sT) × List (Nat × sT × List (sT × sT))) := [(q_kwt0ST, [(60032, .int 0)], [(64452, .arg 64452, cpW 1380 60000 0), (64484, .arg 64484, [])])]
theorem k_kwt0v0 : cbody kR [] (cpl1 zKWt c_kwt0q [q_kwt0ST]) (cpl2 zKWt c_kwt0q [q_kwt0ST]) (cleafB kR zKWt c_kwt0q w_kwt0v0) 160 true true q_kwt0v0.2.2.1 q_kwt0v0.2.2.2 (cst zKWt c_kwt0q.2.2.1.1 q_kwt0v0.1) (cst zKWt c_kwt0q.2.2.1.2 q_kwt0v0.2.1) = true := by decide +kernel
theorem t_kwt0v0 {X : pX} {ρ0 : sR} (hv : vok X ρ0) : CUTOK X kR zKWt c_kwt0q 7 ρ0 q_kwt0v0 := CUTOK_AT (fun ρ k1 hF hI k4 => AT_of (q := q_kwt0v0) rfl rfl (SEM_runB kR_x kR_0 (Cs := []) (fun C hC => by cases hC) c_kwt0q_f (Q := w_kwt0v0) hv 160 (b1 := true) (b2 := true) k_kwt0v0 k1 hF hI k4 (fun p hp ρ3 m1 m2 m3 m4 m5 m6 => by
  rw [List.mem_singleton.mp hp] at m2 m3 m5 m6 ⊢
  exact kwt0_go hv (fun f hf => hF.2 f (List.mem_cons_of_mem _ (List.mem_cons_of_mem _ (List.mem_cons_of_mem _ hf)))) m1 m2 m3 m4 k4 (congrArg Prod.fst (m5 _ (List.mem_cons_self))) (m := 0) (by rw [show ρ.1 60096 = 0 from of_decide_eq_true (hF.2 _ (List.mem_cons_self))]; rfl) (fun j => m6 (64452, .arg 64452, cpW 1380 60000 0) (List.mem_cons_self) j) (fun j => m6 (64484, .arg 64484, []) (List.mem_cons_of_mem _ (List.mem_cons_self)) j))))
noncomputable def zf98zzzcb_25 : sQ × Bool := ((0, .arg 60096, .int 1), true)
noncomputable def zf98zzzcb_26 : sQ × Bool := ((0, .arg 19328, .int 1), true)
noncomputable def zf98zzzcb_27 : sQ × Bool := ((2, .int 1023, .arg 60000), false)
noncomputable def q_kwt0v1 : sCut := ((fr 0 55 0 [(0, tr 42), (1, .int 110), (2, tr 77), (3, .arg 60000), (4, .arg 60096)] [], [fBot], 7), (fr 0 278 0 [(0, tr 219), (1, .arg 1308), (2, .int 110)] [], [fBot], 7), [zf98zzzcb_25, zf98zzzcb_26, zf98zzzcb_27, zf98zzzcb_23, zf98zzzcb_24, zf98zzzcb_5, zf98zzzcb_6, zf98zzzcb_7, zf98zzzcb_22, zf98zzzcb_9, zf98zzzcb_19], [])
noncomputable def w_kwt0v1 : List (sCut × List (Nat × sT) × List (Nat × sT × List (sT × sT))) := [(q_kwt0ST, [(60032, .int 0)], [(64452, .arg 64452, cpW 1380 60000 1), (64484, .arg 64484, [])])]
theorem k_kwt0v1 : cbody kR [] (cpl1 zKWt c_kwt0q [q_kwt0ST]) (cpl2 zKWt c_kwt0q [q_kwt0ST]) (cleafB kR zKWt c_kwt0q w_kwt0v1) 160 true true q_kwt0v1.2.2.1 q_kwt0v1.2.2.2 (cst zKWt c_kwt0q.2.2.1.1 q_kwt0v1.1) (cst zKWt c_kwt0q.2.2.1.2 q_kwt0v1.2.1) = true := by decide +kernel
theorem t_kwt0v1 {X : pX} {ρ0 : sR} (hv : vok X ρ0) : CUTOK X kR zKWt c_kwt0q 7 ρ0 q_kwt0v1 := CUTOK_AT (fun ρ k1 hF hI k4 => AT_of (q := q_kwt0v1) rfl rfl (SEM_runB kR_x kR_0 (Cs := []) (fun C hC => by cases hC) c_kwt0q_f (Q := w_kwt0v1) hv 160 (b1 := true) (b2 := true) k_kwt0v1 k1 hF hI k4 (fun p hp ρ3 m1 m2 m3 m4 m5 m6 => by
  rw [List.mem_singleton.mp hp] at m2 m3 m5 m6 ⊢
  exact kwt0_go hv (fun f hf => hF.2 f (List.mem_cons_of_mem _ (List.mem_cons_of_mem _ (List.mem_cons_of_mem _ hf)))) m1 m2 m3 m4 k4 (congrArg Prod.fst (m5 _ (List.mem_cons_self))) (m := 1) (by rw [show ρ.1 60096 = 1 from of_decide_eq_true (hF.2 _ (List.mem_cons_self))]; rfl) (fun j => m6 (64452, .arg 64452, cpW 1380 60000 1) (List.mem_cons_self) j) (fun j => m6 (64484, .arg 64484, []) (List.mem_cons_of_mem _ (List.mem_cons_self)) j))))
noncomputable def zf98zzzcb_28 : sQ × Bool := ((0, .arg 60096, .int 2), true)
noncomputable def zf98zzzcb_29 : sQ × Bool := ((0, .arg 19328, .int 2), true)
noncomputable def zf98zzzcb_30 : sQ × Bool := ((2, .int 1022, .arg 60000), false)
noncomputable def q_kwt0v2 : sCut := ((fr 0 55 0 [(0, tr 42), (1, .int 110), (2, tr 77), (3, .arg 60000), (4, .arg 60096)] [], [fBot], 7), (fr 0 278 0 [(0, tr 219), (1, .arg 1308), (2, .int 110)] [], [fBot], 7), [zf98zzzcb_28, zf98zzzcb_29, zf98zzzcb_30, zf98zzzcb_23, zf98zzzcb_24, zf98zzzcb_5, zf98zzzcb_6, zf98zzzcb_7, zf98zzzcb_22, zf98zzzcb_9, zf98zzzcb_19], [])
noncomputable def w_kwt0v2 : List (sCut × List (Nat × sT) × List (Nat × sT × List (sT × sT))) := [(q_kwt0ST, [(60032, .int 0)], [(64452, .arg 64452, cpW 1380 60000 2), (64484, .arg 64484, [])])]
theorem k_kwt0v2 : cbody kR [] (cpl1 zKWt c_kwt0q [q_kwt0ST]) (cpl2 zKWt c_kwt0q [q_kwt0ST]) (cleafB kR zKWt c_kwt0q w_kwt0v2) 160 true true q_kwt0v2.2.2.1 q_kwt0v2.2.2.2 (cst zKWt c_kwt0q.2.2.1.1 q_kwt0v2.1) (cst zKWt c_kwt0q.2.2.1.2 q_kwt0v2.2.1) = true := by decide +kernel
theorem t_kwt0v2 {X : pX} {ρ0 : sR} (hv : vok X ρ0) : CUTOK X kR zKWt c_kwt0q 7 ρ0 q_kwt0v2 := CUTOK_AT (fun ρ k1 hF hI k4 => AT_of (q := q_kwt0v2) rfl rfl (SEM_runB kR_x kR_0 (Cs := []) (fun C hC => by cases hC) c_kwt0q_f (Q := w_kwt0v2) hv 160 (b1 := true) (b2 := true) k_kwt0v2 k1 hF hI k4 (fun p hp ρ3 m1 m2 m3 m4 m5 m6 => by
  rw [List.mem_singleton.mp hp] at m2 m3 m5 m6 ⊢
  exact kwt0_go hv (fun f hf => hF.2 f (List.mem_cons_of_mem _ (List.mem_cons_of_mem _ (List.mem_cons_of_mem _ hf)))) m1 m2 m3 m4 k4 (congrArg Prod.fst (m5 _ (List.mem_cons_self))) (m := 2) (by rw [show ρ.1 60096 = 2 from of_decide_eq_true (hF.2 _ (List.mem_cons_self))]; rfl) (fun j => m6 (64452, .arg 64452, cpW 1380 60000 2) (List.mem_cons_self) j) (fun j => m6 (64484, .arg 64484, []) (List.mem_cons_of_mem _ (List.mem_cons_self)) j))))
noncomputable def zf98zzzcb_31 : sQ × Bool := ((0, .arg 60096, .int 3), true)
noncomputable def zf98zzzcb_32 : sQ × Bool := ((0, .arg 19328, .int 3), true)
noncomputable def zf98zzzcb_33 : sQ × Bool := ((2, .int 1021, .arg 60000), false)
noncomputable def q_kwt0v3 : sCut := ((fr 0 55 0 [(0, tr 42), (1, .int 110), (2, tr 77), (3, .arg 60000), (4, .arg 60096)] [], [fBot], 7), (fr 0 278 0 [(0, tr 219), (1, .arg 1308), (2, .int 110)] [], [fBot], 7), [zf98zzzcb_31, zf98zzzcb_32, zf98zzzcb_33, zf98zzzcb_23, zf98zzzcb_24, zf98zzzcb_5, zf98zzzcb_6, zf98zzzcb_7, zf98zzzcb_22, zf98zzzcb_9, zf98zzzcb_19], [])
noncomputable def w_kwt0v3 : List (sCut × List (Nat × sT) × List (Nat × sT × List (sT × sT))) := [(q_kwt0ST, [(60032, .int 0)], [(64452, .arg 64452, cpW 1380 60000 3), (64484, .arg 64484, [])])]
theorem k_kwt0v3 : cbody kR [] (cpl1 zKWt c_kwt0q [q_kwt0ST]) (cpl2 zKWt c_kwt0q [q_kwt0ST]) (cleafB kR zKWt c_kwt0q w_kwt0v3) 160 true true q_kwt0v3.2.2.1 q_kwt0v3.2.2.2 (cst zKWt c_kwt0q.2.2.1.1 q_kwt0v3.1) (cst zKWt c_kwt0q.2.2.1.2 q_kwt0v3.2.1) = true := by decide +kernel
theorem t_kwt0v3 {X : pX} {ρ0 : sR} (hv : vok X ρ0) : CUTOK X kR zKWt c_kwt0q 7 ρ0 q_kwt0v3 := CUTOK_AT (fun ρ k1 hF hI k4 => AT_of (q := q_kwt0v3) rfl rfl (SEM_runB kR_x kR_0 (Cs := []) (fun C hC => by cases hC) c_kwt0q_f (Q := w_kwt0v3) hv 160 (b1 := true) (b2 := true) k_kwt0v3 k1 hF hI k4 (fun p hp ρ3 m1 m2 m3 m4 m5 m6 => by
  rw [List.mem_singleton.mp hp] at m2 m3 m5 m6 ⊢
  exact kwt0_go hv (fun f hf => hF.2 f (List.mem_cons_of_mem _ (List.mem_cons_of_mem _ (List.mem_cons_of_mem _ hf)))) m1 m2 m3 m4 k4 (congrArg Prod.fst (m5 _ (List.mem_cons_self))) (m := 3) (by rw [show ρ.1 60096 = 3 from of_decide_eq_true (hF.2 _ (List.mem_cons_self))]; rfl) (fun j => m6 (64452, .arg 64452, cpW 1380 60000 3) (List.mem_cons_self) j) (fun j => m6 (64484, .arg 64484, []) (List.mem_cons_of_mem _ (List.mem_cons_self)) j))))
noncomputable def zf98zzzcb_34 : sQ × Bool := ((0, .arg 60096, .int 4), true)
noncomputable def zf98zzzcb_35 : sQ × Bool := ((0, .arg 19328, .int 4), true)
noncomputable def zf98zzzcb_36 : sQ × Bool := ((2, .int 1020, .arg 60000), false)
noncomputable def q_kwt0v4 : sCut := ((fr 0 55 0 [(0, tr 42), (1, .int 110), (2, tr 77), (3, .arg 60000), (4, .arg 60096)] [], [fBot], 7), (fr 0 278 0 [(0, tr 219), (1, .arg 1308), (2, .int 110)] [], [fBot], 7), [zf98zzzcb_34, zf98zzzcb_35, zf98zzzcb_36, zf98zzzcb_23, zf98zzzcb_24, zf98zzzcb_5, zf98zzzcb_6, zf98zzzcb_7, zf98zzzcb_22, zf98zzzcb_9, zf98zzzcb_19], [])
noncomputable def w_kwt0v4 : List (sCut × List (Nat × sT) × List (Nat × sT × List (sT × sT))) := [(q_kwt0ST, [(60032, .int 0)], [(64452, .arg 64452, cpW 1380 60000 4), (64484, .arg 64484, [])])]
theorem k_kwt0v4 : cbody kR [] (cpl1 zKWt c_kwt0q [q_kwt0ST]) (cpl2 zKWt c_kwt0q [q_kwt0ST]) (cleafB kR zKWt c_kwt0q w_kwt0v4) 160 true true q_kwt0v4.2.2.1 q_kwt0v4.2.2.2 (cst zKWt c_kwt0q.2.2.1.1 q_kwt0v4.1) (cst zKWt c_kwt0q.2.2.1.2 q_kwt0v4.2.1) = true := by decide +kernel
theorem t_kwt0v4 {X : pX} {ρ0 : sR} (hv : vok X ρ0) : CUTOK X kR zKWt c_kwt0q 7 ρ0 q_kwt0v4 := CUTOK_AT (fun ρ k1 hF hI k4 => AT_of (q := q_kwt0v4) rfl rfl (SEM_runB kR_x kR_0 (Cs := []) (fun C hC => by cases hC) c_kwt0q_f (Q := w_kwt0v4) hv 160 (b1 := true) (b2 := true) k_kwt0v4 k1 hF hI k4 (fun p hp ρ3 m1 m2 m3 m4 m5 m6 => by
  rw [List.mem_singleton.mp hp] at m2 m3 m5 m6 ⊢
  exact kwt0_go hv (fun f hf => hF.2 f (List.mem_cons_of_mem _ (List.mem_cons_of_mem _ (List.mem_cons_of_mem _ hf)))) m1 m2 m3 m4 k4 (congrArg Prod.fst (m5 _ (List.mem_cons_self))) (m := 4) (by rw [show ρ.1 60096 = 4 from of_decide_eq_true (hF.2 _ (List.mem_cons_self))]; rfl) (fun j => m6 (64452, .arg 64452, cpW 1380 60000 4) (List.mem_cons_self) j) (fun j => m6 (64484, .arg 64484, []) (List.mem_cons_of_mem _ (List.mem_cons_self)) j))))
noncomputable def zf98zzzcb_37 : sQ × Bool := ((0, .arg 60096, .int 5), true)
noncomputable def zf98zzzcb_38 : sQ × Bool := ((0, .arg 19328, .int 5), true)
noncomputable def zf98zzzcb_39 : sQ × Bool := ((2, .int 1019, .arg 60000), false)
noncomputable def q_kwt0v5 : sCut := ((fr 0 55 0 [(0, tr 42), (1, .int 110), (2, tr 77), (3, .arg 60000), (4, .arg 60096)] [], [fBot], 7), (fr 0 278 0 [(0, tr 219), (1, .arg 1308), (2, .int 110)] [], [fBot], 7), [zf98zzzcb_37, zf98zzzcb_38, zf98zzzcb_39, zf98zzzcb_23, zf98zzzcb_24, zf98zzzcb_5, zf98zzzcb_6, zf98zzzcb_7, zf98zzzcb_22, zf98zzzcb_9, zf98zzzcb_19], [])
noncomputable def w_kwt0v5 : List (sCut × List (Nat × sT) × List (Nat × sT × List (sT × sT))) := [(q_kwt0ST, [(60032, .int 0)], [(64452, .arg 64452, cpW 1380 60000 5), (64484, .arg 64484, [])])]
theorem k_kwt0v5 : cbody kR [] (cpl1 zKWt c_kwt0q [q_kwt0ST]) (cpl2 zKWt c_kwt0q [q_kwt0ST]) (cleafB kR zKWt c_kwt0q w_kwt0v5) 160 true true q_kwt0v5.2.2.1 q_kwt0v5.2.2.2 (cst zKWt c_kwt0q.2.2.1.1 q_kwt0v5.1) (cst zKWt c_kwt0q.2.2.1.2 q_kwt0v5.2.1) = true := by decide +kernel
theorem t_kwt0v5 {X : pX} {ρ0 : sR} (hv : vok X ρ0) : CUTOK X kR zKWt c_kwt0q 7 ρ0 q_kwt0v5 := CUTOK_AT (fun ρ k1 hF hI k4 => AT_of (q := q_kwt0v5) rfl rfl (SEM_runB kR_x kR_0 (Cs := []) (fun C hC => by cases hC) c_kwt0q_f (Q := w_kwt0v5) hv 160 (b1 := true) (b2 := true) k_kwt0v5 k1 hF hI k4 (fun p hp ρ3 m1 m2 m3 m4 m5 m6 => by
  rw [List.mem_singleton.mp hp] at m2 m3 m5 m6 ⊢
  exact kwt0_go hv (fun f hf => hF.2 f (List.mem_cons_of_mem _ (List.mem_cons_of_mem _ (List.mem_cons_of_mem _ hf)))) m1 m2 m3 m4 k4 (congrArg Prod.fst (m5 _ (List.mem_cons_self))) (m := 5) (by rw [show ρ.1 60096 = 5 from of_decide_eq_true (hF.2 _ (List.mem_cons_self))]; rfl) (fun j => m6 (64452, .arg 64452, cpW 1380 60000 5) (List.mem_cons_self) j) (fun j => m6 (64484, .arg 64484, []) (List.mem_cons_of_mem _ (List.mem_cons_self)) j))))
noncomputable def zf98zzzcb_40 : sQ × Bool := ((0, .arg 60096, .int 6), true)
noncomputable def zf98zzzcb_41 : sQ × Bool := ((0, .arg 19328, .int 6), true)
noncomputable def zf98zzzcb_42 : sQ × Bool := ((2, .int 1018, .arg 60000), false)
noncomputable def q_kwt0v6 : sCut := ((fr 0 55 0 [(0, tr 42), (1, .int 110), (2, tr 77), (3, .arg 60000), (4, .arg 60096)] [], [fBot], 7), (fr 0 278 0 [(0, tr 219), (1, .arg 1308), (2, .int 110)] [], [fBot], 7), [zf98zzzcb_40, zf98zzzcb_41, zf98zzzcb_42, zf98zzzcb_23, zf98zzzcb_24, zf98zzzcb_5, zf98zzzcb_6, zf98zzzcb_7, zf98zzzcb_22, zf98zzzcb_9, zf98zzzcb_19], [])
noncomputable def w_kwt0v6 : List (sCut × List (Nat × sT) × List (Nat × sT × List (sT × sT))) := [(q_kwt0ST, [(60032, .int 0)], [(64452, .arg 64452, cpW 1380 60000 6), (64484, .arg 64484, [])])]
theorem k_kwt0v6 : cbody kR [] (cpl1 zKWt c_kwt0q [q_kwt0ST]) (cpl2 zKWt c_kwt0q [q_kwt0ST]) (cleafB kR zKWt c_kwt0q w_kwt0v6) 160 true true q_kwt0v6.2.2.1 q_kwt0v6.2.2.2 (cst zKWt c_kwt0q.2.2.1.1 q_kwt0v6.1) (cst zKWt c_kwt0q.2.2.1.2 q_kwt0v6.2.1) = true := by decide +kernel
theorem t_kwt0v6 {X : pX} {ρ0 : sR} (hv : vok X ρ0) : CUTOK X kR zKWt c_kwt0q 7 ρ0 q_kwt0v6 := CUTOK_AT (fun ρ k1 hF hI k4 => AT_of (q := q_kwt0v6) rfl rfl (SEM_runB kR_x kR_0 (Cs := []) (fun C hC => by cases hC) c_kwt0q_f (Q := w_kwt0v6) hv 160 (b1 := true) (b2 := true) k_kwt0v6 k1 hF hI k4 (fun p hp ρ3 m1 m2 m3 m4 m5 m6 => by
  rw [List.mem_singleton.mp hp] at m2 m3 m5 m6 ⊢
  exact kwt0_go hv (fun f hf => hF.2 f (List.mem_cons_of_mem _ (List.mem_cons_of_mem _ (List.mem_cons_of_mem _ hf)))) m1 m2 m3 m4 k4 (congrArg Prod.fst (m5 _ (List.mem_cons_self))) (m := 6) (by rw [show ρ.1 60096 = 6 from of_decide_eq_true (hF.2 _ (List.mem_cons_self))]; rfl) (fun j => m6 (64452, .arg 64452, cpW 1380 60000 6) (List.mem_cons_self) j) (fun j => m6 (64484, .arg 64484, []) (List.mem_cons_of_mem _ (List.mem_cons_self)) j))))
noncomputable def zf98zzzcb_43 : sQ × Bool := ((0, .arg 60096, .int 7), true)
noncomputable def zf98zzzcb_44 : sQ × Bool := ((0, .arg 19328, .int 7), true)
noncomputable def zf98zzzcb_45 : sQ × Bool := ((2, .int 1017, .arg 60000), false)
noncomputable def q_kwt0v7 : sCut := ((fr 0 55 0 [(0, tr 42), (1, .int 110), (2, tr 77), (3, .arg 60000), (4, .arg 60096)] [], [fBot], 7), (fr 0 278 0 [(0, tr 219), (1, .arg 1308), (2, .int 110)] [], [fBot], 7), [zf98zzzcb_43, zf98zzzcb_44, zf98zzzcb_45, zf98zzzcb_23, zf98zzzcb_24, zf98zzzcb_5, zf98zzzcb_6, zf98zzzcb_7, zf98zzzcb_22, zf98zzzcb_9, zf98zzzcb_19], [])
noncomputable def w_kwt0v7 : List (sCut × List (Nat × sT) × List (Nat × sT × List (sT × sT))) := [(q_kwt0ST, [(60032, .int 0)], [(64452, .arg 64452, cpW 1380 60000 7), (64484, .arg 64484, [])])]
theorem k_kwt0v7 : cbody kR [] (cpl1 zKWt c_kwt0q [q_kwt0ST]) (cpl2 zKWt c_kwt0q [q_kwt0ST]) (cleafB kR zKWt c_kwt0q w_kwt0v7) 160 true true q_kwt0v7.2.2.1 q_kwt0v7.2.2.2 (cst zKWt c_kwt0q.2.2.1.1 q_kwt0v7.1) (cst zKWt c_kwt0q.2.2.1.2 q_kwt0v7.2.1) = true := by decide +kernel
theorem t_kwt0v7 {X : pX} {ρ0 : sR} (hv : vok X ρ0) : CUTOK X kR zKWt c_kwt0q 7 ρ0 q_kwt0v7 := CUTOK_AT (fun ρ k1 hF hI k4 => AT_of (q := q_kwt0v7) rfl rfl (SEM_runB kR_x kR_0 (Cs := []) (fun C hC => by cases hC) c_kwt0q_f (Q := w_kwt0v7) hv 160 (b1 := true) (b2 := true) k_kwt0v7 k1 hF hI k4 (fun p hp ρ3 m1 m2 m3 m4 m5 m6 => by
  rw [List.mem_singleton.mp hp] at m2 m3 m5 m6 ⊢
  exact kwt0_go hv (fun f hf => hF.2 f (List.mem_cons_of_mem _ (List.mem_cons_of_mem _ (List.mem_cons_of_mem _ hf)))) m1 m2 m3 m4 k4 (congrArg Prod.fst (m5 _ (List.mem_cons_self))) (m := 7) (by rw [show ρ.1 60096 = 7 from of_decide_eq_true (hF.2 _ (List.mem_cons_self))]; rfl) (fun j => m6 (64452, .arg 64452, cpW 1380 60000 7) (List.mem_cons_self) j) (fun j => m6 (64484, .arg 64484, []) (List.mem_cons_of_mem _ (List.mem_cons_self)) j))))
noncomputable def zf98zzzcb_46 : sQ × Bool := ((0, .arg 60096, .int 8), true)
noncomputable def zf98zzzcb_47 : sQ × Bool := ((0, .arg 19328, .int 8), true)
noncomputable def zf98zzzcb_48 : sQ × Bool := ((2, .int 1016, .arg 60000), false)
noncomputable def q_kwt0v8 : sCut := ((fr 0 55 0 [(0, tr 42), (1, .int 110), (2, tr 77), (3, .arg 60000), (4, .arg 60096)] [], [fBot], 7), (fr 0 278 0 [(0, tr 219), (1, .arg 1308), (2, .int 110)] [], [fBot], 7), [zf98zzzcb_46, zf98zzzcb_47, zf98zzzcb_48, zf98zzzcb_23, zf98zzzcb_24, zf98zzzcb_5, zf98zzzcb_6, zf98zzzcb_7, zf98zzzcb_22, zf98zzzcb_9, zf98zzzcb_19], [])
noncomputable def w_kwt0v8 : List (sCut × List (Nat × sT) × List (Nat × sT × List (sT × sT))) := [(q_kwt0ST, [(60032, .int 0)], [(64452, .arg 64452, cpW 1380 60000 8), (64484, .arg 64484, [])])]
theorem k_kwt0v8 : cbody kR [] (cpl1 zKWt c_kwt0q [q_kwt0ST]) (cpl2 zKWt c_kwt0q [q_kwt0ST]) (cleafB kR zKWt c_kwt0q w_kwt0v8) 160 true true q_kwt0v8.2.2.1 q_kwt0v8.2.2.2 (cst zKWt c_kwt0q.2.2.1.1 q_kwt0v8.1) (cst zKWt c_kwt0q.2.2.1.2 q_kwt0v8.2.1) = true := by decide +kernel
theorem t_kwt0v8 {X : pX} {ρ0 : sR} (hv : vok X ρ0) : CUTOK X kR zKWt c_kwt0q 7 ρ0 q_kwt0v8 := CUTOK_AT (fun ρ k1 hF hI k4 => AT_of (q := q_kwt0v8) rfl rfl (SEM_runB kR_x kR_0 (Cs := []) (fun C hC => by cases hC) c_kwt0q_f (Q := w_kwt0v8) hv 160 (b1 := true) (b2 := true) k_kwt0v8 k1 hF hI k4 (fun p hp ρ3 m1 m2 m3 m4 m5 m6 => by
  rw [List.mem_singleton.mp hp] at m2 m3 m5 m6 ⊢
  exact kwt0_go hv (fun f hf => hF.2 f (List.mem_cons_of_mem _ (List.mem_cons_of_mem _ (List.mem_cons_of_mem _ hf)))) m1 m2 m3 m4 k4 (congrArg Prod.fst (m5 _ (List.mem_cons_self))) (m := 8) (by rw [show ρ.1 60096 = 8 from of_decide_eq_true (hF.2 _ (List.mem_cons_self))]; rfl) (fun j => m6 (64452, .arg 64452, cpW 1380 60000 8) (List.mem_cons_self) j) (fun j => m6 (64484, .arg 64484, []) (List.mem_cons_of_mem _ (List.mem_cons_self)) j))))
noncomputable def zf98zzzcb_49 : sQ × Bool := ((0, .arg 60096, .int 9), true)
noncomputable def zf98zzzcb_50 : sQ × Bool := ((0, .arg 19328, .int 9), true)
noncomputable def zf98zzzcb_51 : sQ × Bool := ((2, .int 1015, .arg 60000), false)
noncomputable def q_kwt0v9 : sCut := ((fr 0 55 0 [(0, tr 42), (1, .int 110), (2, tr 77), (3, .arg 60000), (4, .arg 60096)] [], [fBot], 7), (fr 0 278 0 [(0, tr 219), (1, .arg 1308), (2, .int 110)] [], [fBot], 7), [zf98zzzcb_49, zf98zzzcb_50, zf98zzzcb_51, zf98zzzcb_23, zf98zzzcb_24, zf98zzzcb_5, zf98zzzcb_6, zf98zzzcb_7, zf98zzzcb_22, zf98zzzcb_9, zf98zzzcb_19], [])
noncomputable def w_kwt0v9 : List (sCut × List (Nat × sT) × List (Nat × sT × List (sT × sT))) := [(q_kwt0ST, [(60032, .int 0)], [(64452, .arg 64452, cpW 1380 60000 9), (64484, .arg 64484, [])])]
theorem k_kwt0v9 : cbody kR [] (cpl1 zKWt c_kwt0q [q_kwt0ST]) (cpl2 zKWt c_kwt0q [q_kwt0ST]) (cleafB kR zKWt c_kwt0q w_kwt0v9) 160 true true q_kwt0v9.2.2.1 q_kwt0v9.2.2.2 (cst zKWt c_kwt0q.2.2.1.1 q_kwt0v9.1) (cst zKWt c_kwt0q.2.2.1.2 q_kwt0v9.2.1) = true := by decide +kernel
theorem t_kwt0v9 {X : pX} {ρ0 : sR} (hv : vok X ρ0) : CUTOK X kR zKWt c_kwt0q 7 ρ0 q_kwt0v9 := CUTOK_AT (fun ρ k1 hF hI k4 => AT_of (q := q_kwt0v9) rfl rfl (SEM_runB kR_x kR_0 (Cs := []) (fun C hC => by cases hC) c_kwt0q_f (Q := w_kwt0v9) hv 160 (b1 := true) (b2 := true) k_kwt0v9 k1 hF hI k4 (fun p hp ρ3 m1 m2 m3 m4 m5 m6 => by
  rw [List.mem_singleton.mp hp] at m2 m3 m5 m6 ⊢
  exact kwt0_go hv (fun f hf => hF.2 f (List.mem_cons_of_mem _ (List.mem_cons_of_mem _ (List.mem_cons_of_mem _ hf)))) m1 m2 m3 m4 k4 (congrArg Prod.fst (m5 _ (List.mem_cons_self))) (m := 9) (by rw [show ρ.1 60096 = 9 from of_decide_eq_true (hF.2 _ (List.mem_cons_self))]; rfl) (fun j => m6 (64452, .arg 64452, cpW 1380 60000 9) (List.mem_cons_self) j) (fun j => m6 (64484, .arg 64484, []) (List.mem_cons_of_mem _ (List.mem_cons_self)) j))))
noncomputable def zf98zzzcb_52 : sQ × Bool := ((0, .arg 60096, .int 10), true)
noncomputable def zf98zzzcb_53 : sQ × Bool := ((0, .arg 19328, .int 10), true)
noncomputable def zf98zzzcb_54 : sQ × Bool := ((2, .int 1014, .arg 60000), false)
noncomputable def q_kwt0v10 : sCut := ((fr 0 55 0 [(0, tr 42), (1, .int 110), (2, tr 77), (3, .arg 60000), (4, .arg 60096)] [], [fBot], 7), (fr 0 278 0 [(0, tr 219), (1, .arg 1308), (2, .int 110)] [], [fBot], 7), [zf98zzzcb_52, zf98zzzcb_53, zf98zzzcb_54, zf98zzzcb_23, zf98zzzcb_24, zf98zzzcb_5, zf98zzzcb_6, zf98zzzcb_7, zf98zzzcb_22, zf98zzzcb_9, zf98zzzcb_19], [])
noncomputable def w_kwt0v10 : List (sCut × List (Nat × sT) × List (Nat × sT × List (sT × sT))) := [(q_kwt0ST, [(60032, .int 0)], [(64452, .arg 64452, cpW 1380 60000 10), (64484, .arg 64484, [])])]
theorem k_kwt0v10 : cbody kR [] (cpl1 zKWt c_kwt0q [q_kwt0ST]) (cpl2 zKWt c_kwt0q [q_kwt0ST]) (cleafB kR zKWt c_kwt0q w_kwt0v10) 160 true true q_kwt0v10.2.2.1 q_kwt0v10.2.2.2 (cst zKWt c_kwt0q.2.2.1.1 q_kwt0v10.1) (cst zKWt c_kwt0q.2.2.1.2 q_kwt0v10.2.1) = true := by decide +kernel
theorem t_kwt0v10 {X : pX} {ρ0 : sR} (hv : vok X ρ0) : CUTOK X kR zKWt c_kwt0q 7 ρ0 q_kwt0v10 := CUTOK_AT (fun ρ k1 hF hI k4 => AT_of (q := q_kwt0v10) rfl rfl (SEM_runB kR_x kR_0 (Cs := []) (fun C hC => by cases hC) c_kwt0q_f (Q := w_kwt0v10) hv 160 (b1 := true) (b2 := true) k_kwt0v10 k1 hF hI k4 (fun p hp ρ3 m1 m2 m3 m4 m5 m6 => by
  rw [List.mem_singleton.mp hp] at m2 m3 m5 m6 ⊢
  exact kwt0_go hv (fun f hf => hF.2 f (List.mem_cons_of_mem _ (List.mem_cons_of_mem _ (List.mem_cons_of_mem _ hf)))) m1 m2 m3 m4 k4 (congrArg Prod.fst (m5 _ (List.mem_cons_self))) (m := 10) (by rw [show ρ.1 60096 = 10 from of_decide_eq_true (hF.2 _ (List.mem_cons_self))]; rfl) (fun j => m6 (64452, .arg 64452, cpW 1380 60000 10) (List.mem_cons_self) j) (fun j => m6 (64484, .arg 64484, []) (List.mem_cons_of_mem _ (List.mem_cons_self)) j))))
noncomputable def zf98zzzcb_55 : sQ × Bool := ((0, .arg 60096, .int 11), true)
noncomputable def zf98zzzcb_56 : sQ × Bool := ((0, .arg 19328, .int 11), true)
noncomputable def zf98zzzcb_57 : sQ × Bool := ((2, .int 1013, .arg 60000), false)
noncomputable def q_kwt0v11 : sCut := ((fr 0 55 0 [(0, tr 42), (1, .int 110), (2, tr 77), (3, .arg 60000), (4, .arg 60096)] [], [fBot], 7), (fr 0 278 0 [(0, tr 219), (1, .arg 1308), (2, .int 110)] [], [fBot], 7), [zf98zzzcb_55, zf98zzzcb_56, zf98zzzcb_57, zf98zzzcb_23, zf98zzzcb_24, zf98zzzcb_5, zf98zzzcb_6, zf98zzzcb_7, zf98zzzcb_22, zf98zzzcb_9, zf98zzzcb_19], [])
noncomputable def w_kwt0v11 : List (sCut × List (Nat × sT) × List (Nat × sT × List (sT × sT))) := [(q_kwt0ST, [(60032, .int 0)], [(64452, .arg 64452, cpW 1380 60000 11), (64484, .arg 64484, [])])]
theorem k_kwt0v11 : cbody kR [] (cpl1 zKWt c_kwt0q [q_kwt0ST]) (cpl2 zKWt c_kwt0q [q_kwt0ST]) (cleafB kR zKWt c_kwt0q w_kwt0v11) 160 true true q_kwt0v11.2.2.1 q_kwt0v11.2.2.2 (cst zKWt c_kwt0q.2.2.1.1 q_kwt0v11.1) (cst zKWt c_kwt0q.2.2.1.2 q_kwt0v11.2.1) = true := by decide +kernel
theorem t_kwt0v11 {X : pX} {ρ0 : sR} (hv : vok X ρ0) : CUTOK X kR zKWt c_kwt0q 7 ρ0 q_kwt0v11 := CUTOK_AT (fun ρ k1 hF hI k4 => AT_of (q := q_kwt0v11) rfl rfl (SEM_runB kR_x kR_0 (Cs := []) (fun C hC => by cases hC) c_kwt0q_f (Q := w_kwt0v11) hv 160 (b1 := true) (b2 := true) k_kwt0v11 k1 hF hI k4 (fun p hp ρ3 m1 m2 m3 m4 m5 m6 => by
  rw [List.mem_singleton.mp hp] at m2 m3 m5 m6 ⊢
  exact kwt0_go hv (fun f hf => hF.2 f (List.mem_cons_of_mem _ (List.mem_cons_of_mem _ (List.mem_cons_of_mem _ hf)))) m1 m2 m3 m4 k4 (congrArg Prod.fst (m5 _ (List.mem_cons_self))) (m := 11) (by rw [show ρ.1 60096 = 11 from of_decide_eq_true (hF.2 _ (List.mem_cons_self))]; rfl) (fun j => m6 (64452, .arg 64452, cpW 1380 60000 11) (List.mem_cons_self) j) (fun j => m6 (64484, .arg 64484, []) (List.mem_cons_of_mem _ (List.mem_cons_self)) j))))
noncomputable def zf98zzzcb_58 : sQ × Bool := ((0, .arg 60096, .int 12), true)
noncomputable def zf98zzzcb_59 : sQ × Bool := ((0, .arg 19328, .int 12), true)
noncomputable def zf98zzzcb_60 : sQ × Bool := ((2, .int 1012, .arg 60000), false)
noncomputable def q_kwt0v12 : sCut := ((fr 0 55 0 [(0, tr 42), (1, .int 110), (2, tr 77), (3, .arg 60000), (4, .arg 60096)] [], [fBot], 7), (fr 0 278 0 [(0, tr 219), (1, .arg 1308), (2, .int 110)] [], [fBot], 7), [zf98zzzcb_58, zf98zzzcb_59, zf98zzzcb_60, zf98zzzcb_23, zf98zzzcb_24, zf98zzzcb_5, zf98zzzcb_6, zf98zzzcb_7, zf98zzzcb_22, zf98zzzcb_9, zf98zzzcb_19], [])
noncomputable def w_kwt0v12 : List (sCut × List (Nat × sT) × List (Nat × sT × List (sT × sT))) := [(q_kwt0ST, [(60032, .int 0)], [(64452, .arg 64452, cpW 1380 60000 12), (64484, .arg 64484, [])])]
theorem k_kwt0v12 : cbody kR [] (cpl1 zKWt c_kwt0q [q_kwt0ST]) (cpl2 zKWt c_kwt0q [q_kwt0ST]) (cleafB kR zKWt c_kwt0q w_kwt0v12) 160 true true q_kwt0v12.2.2.1 q_kwt0v12.2.2.2 (cst zKWt c_kwt0q.2.2.1.1 q_kwt0v12.1) (cst zKWt c_kwt0q.2.2.1.2 q_kwt0v12.2.1) = true := by decide +kernel
theorem t_kwt0v12 {X : pX} {ρ0 : sR} (hv : vok X ρ0) : CUTOK X kR zKWt c_kwt0q 7 ρ0 q_kwt0v12 := CUTOK_AT (fun ρ k1 hF hI k4 => AT_of (q := q_kwt0v12) rfl rfl (SEM_runB kR_x kR_0 (Cs := []) (fun C hC => by cases hC) c_kwt0q_f (Q := w_kwt0v12) hv 160 (b1 := true) (b2 := true) k_kwt0v12 k1 hF hI k4 (fun p hp ρ3 m1 m2 m3 m4 m5 m6 => by
  rw [List.mem_singleton.mp hp] at m2 m3 m5 m6 ⊢
  exact kwt0_go hv (fun f hf => hF.2 f (List.mem_cons_of_mem _ (List.mem_cons_of_mem _ (List.mem_cons_of_mem _ hf)))) m1 m2 m3 m4 k4 (congrArg Prod.fst (m5 _ (List.mem_cons_self))) (m := 12) (by rw [show ρ.1 60096 = 12 from of_decide_eq_true (hF.2 _ (List.mem_cons_self))]; rfl) (fun j => m6 (64452, .arg 64452, cpW 1380 60000 12) (List.mem_cons_self) j) (fun j => m6 (64484, .arg 64484, []) (List.mem_cons_of_mem _ (List.mem_cons_self)) j))))
noncomputable def zf98zzzcb_61 : sQ × Bool := ((0, .arg 60096, .int 13), true)
noncomputable def zf98zzzcb_62 : sQ × Bool := ((0, .arg 19328, .int 13), true)
noncomputable def zf98zzzcb_63 : sQ × Bool := ((2, .int 1011, .arg 60000), false)
noncomputable def q_kwt0v13 : sCut := ((fr 0 55 0 [(0, tr 42), (1, .int 110), (2, tr 77), (3, .arg 60000), (4, .arg 60096)] [], [fBot], 7), (fr 0 278 0 [(0, tr 219), (1, .arg 1308), (2, .int 110)] [], [fBot], 7), [zf98zzzcb_61, zf98zzzcb_62, zf98zzzcb_63, zf98zzzcb_23, zf98zzzcb_24, zf98zzzcb_5, zf98zzzcb_6, zf98zzzcb_7, zf98zzzcb_22, zf98zzzcb_9, zf98zzzcb_19], [])
noncomputable def w_kwt0v13 : List (sCut × List (Nat × sT) × List (Nat × sT × List (sT × sT))) := [(q_kwt0ST, [(60032, .int 0)], [(64452, .arg 64452, cpW 1380 60000 13), (64484, .arg 64484, [])])]
theorem k_kwt0v13 : cbody kR [] (cpl1 zKWt c_kwt0q [q_kwt0ST]) (cpl2 zKWt c_kwt0q [q_kwt0ST]) (cleafB kR zKWt c_kwt0q w_kwt0v13) 160 true true q_kwt0v13.2.2.1 q_kwt0v13.2.2.2 (cst zKWt c_kwt0q.2.2.1.1 q_kwt0v13.1) (cst zKWt c_kwt0q.2.2.1.2 q_kwt0v13.2.1) = true := by decide +kernel
theorem t_kwt0v13 {X : pX} {ρ0 : sR} (hv : vok X ρ0) : CUTOK X kR zKWt c_kwt0q 7 ρ0 q_kwt0v13 := CUTOK_AT (fun ρ k1 hF hI k4 => AT_of (q := q_kwt0v13) rfl rfl (SEM_runB kR_x kR_0 (Cs := []) (fun C hC => by cases hC) c_kwt0q_f (Q := w_kwt0v13) hv 160 (b1 := true) (b2 := true) k_kwt0v13 k1 hF hI k4 (fun p hp ρ3 m1 m2 m3 m4 m5 m6 => by
  rw [List.mem_singleton.mp hp] at m2 m3 m5 m6 ⊢
  exact kwt0_go hv (fun f hf => hF.2 f (List.mem_cons_of_mem _ (List.mem_cons_of_mem _ (List.mem_cons_of_mem _ hf)))) m1 m2 m3 m4 k4 (congrArg Prod.fst (m5 _ (List.mem_cons_self))) (m := 13) (by rw [show ρ.1 60096 = 13 from of_decide_eq_true (hF.2 _ (List.mem_cons_self))]; rfl) (fun j => m6 (64452, .arg 64452, cpW 1380 60000 13) (List.mem_cons_self) j) (fun j => m6 (64484, .arg 64484, []) (List.mem_cons_of_mem _ (List.mem_cons_self)) j))))
noncomputable def zf98zzzcb_64 : sQ × Bool := ((0, .arg 60096, .int 14), true)
noncomputable def zf98zzzcb_65 : sQ × Bool := ((0, .arg 19328, .int 14), true)
noncomputable def zf98zzzcb_66 : sQ × Bool := ((2, .int 1010, .arg 60000), false)
noncomputable def q_kwt0v14 : sCut := ((fr 0 55 0 [(0, tr 42), (1, .int 110), (2, tr 77), (3, .arg 60000), (4, .arg 60096)] [], [fBot], 7), (fr 0 278 0 [(0, tr 219), (1, .arg 1308), (2, .int 110)] [], [fBot], 7), [zf98zzzcb_64, zf98zzzcb_65, zf98zzzcb_66, zf98zzzcb_23, zf98zzzcb_24, zf98zzzcb_5, zf98zzzcb_6, zf98zzzcb_7, zf98zzzcb_22, zf98zzzcb_9, zf98zzzcb_19], [])
noncomputable def w_kwt0v14 : List (sCut × List (Nat × sT) × List (Nat × sT × List (sT × sT))) := [(q_kwt0ST, [(60032, .int 0)], [(64452, .arg 64452, cpW 1380 60000 14), (64484, .arg 64484, [])])]
theorem k_kwt0v14 : cbody kR [] (cpl1 zKWt c_kwt0q [q_kwt0ST]) (cpl2 zKWt c_kwt0q [q_kwt0ST]) (cleafB kR zKWt c_kwt0q w_kwt0v14) 160 true true q_kwt0v14.2.2.1 q_kwt0v14.2.2.2 (cst zKWt c_kwt0q.2.2.1.1 q_kwt0v14.1) (cst zKWt c_kwt0q.2.2.1.2 q_kwt0v14.2.1) = true := by decide +kernel
theorem t_kwt0v14 {X : pX} {ρ0 : sR} (hv : vok X ρ0) : CUTOK X kR zKWt c_kwt0q 7 ρ0 q_kwt0v14 := CUTOK_AT (fun ρ k1 hF hI k4 => AT_of (q := q_kwt0v14) rfl rfl (SEM_runB kR_x kR_0 (Cs := []) (fun C hC => by cases hC) c_kwt0q_f (Q := w_kwt0v14) hv 160 (b1 := true) (b2 := true) k_kwt0v14 k1 hF hI k4 (fun p hp ρ3 m1 m2 m3 m4 m5 m6 => by
  rw [List.mem_singleton.mp hp] at m2 m3 m5 m6 ⊢
  exact kwt0_go hv (fun f hf => hF.2 f (List.mem_cons_of_mem _ (List.mem_cons_of_mem _ (List.mem_cons_of_mem _ hf)))) m1 m2 m3 m4 k4 (congrArg Prod.fst (m5 _ (List.mem_cons_self))) (m := 14) (by rw [show ρ.1 60096 = 14 from of_decide_eq_true (hF.2 _ (List.mem_cons_self))]; rfl) (fun j => m6 (64452, .arg 64452, cpW 1380 60000 14) (List.mem_cons_self) j) (fun j => m6 (64484, .arg 64484, []) (List.mem_cons_of_mem _ (List.mem_cons_self)) j))))
noncomputable def zf98zzzcb_67 : sQ × Bool := ((0, .arg 60096, .int 15), true)
noncomputable def zf98zzzcb_68 : sQ × Bool := ((0, .arg 19328, .int 15), true)
noncomputable def zf98zzzcb_69 : sQ × Bool := ((2, .int 1009, .arg 60000), false)
noncomputable def q_kwt0v15 : sCut := ((fr 0 55 0 [(0, tr 42), (1, .int 110), (2, tr 77), (3, .arg 60000), (4, .arg 60096)] [], [fBot], 7), (fr 0 278 0 [(0, tr 219), (1, .arg 1308), (2, .int 110)] [], [fBot], 7), [zf98zzzcb_67, zf98zzzcb_68, zf98zzzcb_69, zf98zzzcb_23, zf98zzzcb_24, zf98zzzcb_5, zf98zzzcb_6, zf98zzzcb_7, zf98zzzcb_22, zf98zzzcb_9, zf98zzzcb_19], [])
noncomputable def w_kwt0v15 : List (sCut × List (Nat × sT) × List (Nat × sT × List (sT × sT))) := [(q_kwt0ST, [(60032, .int 0)], [(64452, .arg 64452, cpW 1380 60000 15), (64484, .arg 64484, [])])]
theorem k_kwt0v15 : cbody kR [] (cpl1 zKWt c_kwt0q [q_kwt0ST]) (cpl2 zKWt c_kwt0q [q_kwt0ST]) (cleafB kR zKWt c_kwt0q w_kwt0v15) 160 true true q_kwt0v15.2.2.1 q_kwt0v15.2.2.2 (cst zKWt c_kwt0q.2.2.1.1 q_kwt0v15.1) (cst zKWt c_kwt0q.2.2.1.2 q_kwt0v15.2.1) = true := by decide +kernel
theorem t_kwt0v15 {X : pX} {ρ0 : sR} (hv : vok X ρ0) : CUTOK X kR zKWt c_kwt0q 7 ρ0 q_kwt0v15 := CUTOK_AT (fun ρ k1 hF hI k4 => AT_of (q := q_kwt0v15) rfl rfl (SEM_runB kR_x kR_0 (Cs := []) (fun C hC => by cases hC) c_kwt0q_f (Q := w_kwt0v15) hv 160 (b1 := true) (b2 := true) k_kwt0v15 k1 hF hI k4 (fun p hp ρ3 m1 m2 m3 m4 m5 m6 => by
  rw [List.mem_singleton.mp hp] at m2 m3 m5 m6 ⊢
  exact kwt0_go hv (fun f hf => hF.2 f (List.mem_cons_of_mem _ (List.mem_cons_of_mem _ (List.mem_cons_of_mem _ hf)))) m1 m2 m3 m4 k4 (congrArg Prod.fst (m5 _ (List.mem_cons_self))) (m := 15) (by rw [show ρ.1 60096 = 15 from of_decide_eq_true (hF.2 _ (List.mem_cons_self))]; rfl) (fun j => m6 (64452, .arg 64452, cpW 1380 60000 15) (List.mem_cons_self) j) (fun j => m6 (64484, .arg 64484, []) (List.mem_cons_of_mem _ (List.mem_cons_self)) j))))
noncomputable def zf98zzzcb_70 : sQ × Bool := ((0, .arg 60096, .int 16), true)
noncomputable def zf98zzzcb_71 : sQ × Bool := ((0, .arg 19328, .int 16), true)
noncomputable def zf98zzzcb_72 : sQ × Bool := ((2, .int 1008, .arg 60000), false)
noncomputable def q_kwt0v16 : sCut := ((fr 0 55 0 [(0, tr 42), (1, .int 110), (2, tr 77), (3, .arg 60000), (4, .arg 60096)] [], [fBot], 7), (fr 0 278 0 [(0, tr 219), (1, .arg 1308), (2, .int 110)] [], [fBot], 7), [zf98zzzcb_70, zf98zzzcb_71, zf98zzzcb_72, zf98zzzcb_23, zf98zzzcb_24, zf98zzzcb_5, zf98zzzcb_6, zf98zzzcb_7, zf98zzzcb_22, zf98zzzcb_9, zf98zzzcb_19], [])
noncomputable def w_kwt0v16 : List (sCut × List (Nat × sT) × List (Nat × sT × List (sT × sT))) := [(q_kwt0ST, [(60032, .int 0)], [(64452, .arg 64452, cpW 1380 60000 16), (64484, .arg 64484, [])])]
theorem k_kwt0v16 : cbody kR [] (cpl1 zKWt c_kwt0q [q_kwt0ST]) (cpl2 zKWt c_kwt0q [q_kwt0ST]) (cleafB kR zKWt c_kwt0q w_kwt0v16) 160 true true q_kwt0v16.2.2.1 q_kwt0v16.2.2.2 (cst zKWt c_kwt0q.2.2.1.1 q_kwt0v16.1) (cst zKWt c_kwt0q.2.2.1.2 q_kwt0v16.2.1) = true := by decide +kernel
theorem t_kwt0v16 {X : pX} {ρ0 : sR} (hv : vok X ρ0) : CUTOK X kR zKWt c_kwt0q 7 ρ0 q_kwt0v16 := CUTOK_AT (fun ρ k1 hF hI k4 => AT_of (q := q_kwt0v16) rfl rfl (SEM_runB kR_x kR_0 (Cs := []) (fun C hC => by cases hC) c_kwt0q_f (Q := w_kwt0v16) hv 160 (b1 := true) (b2 := true) k_kwt0v16 k1 hF hI k4 (fun p hp ρ3 m1 m2 m3 m4 m5 m6 => by
  rw [List.mem_singleton.mp hp] at m2 m3 m5 m6 ⊢
  exact kwt0_go hv (fun f hf => hF.2 f (List.mem_cons_of_mem _ (List.mem_cons_of_mem _ (List.mem_cons_of_mem _ hf)))) m1 m2 m3 m4 k4 (congrArg Prod.fst (m5 _ (List.mem_cons_self))) (m := 16) (by rw [show ρ.1 60096 = 16 from of_decide_eq_true (hF.2 _ (List.mem_cons_self))]; rfl) (fun j => m6 (64452, .arg 64452, cpW 1380 60000 16) (List.mem_cons_self) j) (fun j => m6 (64484, .arg 64484, []) (List.mem_cons_of_mem _ (List.mem_cons_self)) j))))
noncomputable def zf98zzzcb_73 : sQ × Bool := ((0, .arg 60096, .int 17), true)
noncomputable def zf98zzzcb_74 : sQ × Bool := ((0, .arg 19328, .int 17), true)
noncomputable def zf98zzzcb_75 : sQ × Bool := ((2, .int 1007, .arg 60000), false)
noncomputable def q_kwt0v17 : sCut := ((fr 0 55 0 [(0, tr 42), (1, .int 110), (2, tr 77), (3, .arg 60000), (4, .arg 60096)] [], [fBot], 7), (fr 0 278 0 [(0, tr 219), (1, .arg 1308), (2, .int 110)] [], [fBot], 7), [zf98zzzcb_73, zf98zzzcb_74, zf98zzzcb_75, zf98zzzcb_23, zf98zzzcb_24, zf98zzzcb_5, zf98zzzcb_6, zf98zzzcb_7, zf98zzzcb_22, zf98zzzcb_9, zf98zzzcb_19], [])
noncomputable def w_kwt0v17 : List (sCut × List (Nat × sT) × List (Nat × sT × List (sT × sT))) := [(q_kwt0ST, [(60032, .int 0)], [(64452, .arg 64452, cpW 1380 60000 17), (64484, .arg 64484, [])])]
theorem k_kwt0v17 : cbody kR [] (cpl1 zKWt c_kwt0q [q_kwt0ST]) (cpl2 zKWt c_kwt0q [q_kwt0ST]) (cleafB kR zKWt c_kwt0q w_kwt0v17) 160 true true q_kwt0v17.2.2.1 q_kwt0v17.2.2.2 (cst zKWt c_kwt0q.2.2.1.1 q_kwt0v17.1) (cst zKWt c_kwt0q.2.2.1.2 q_kwt0v17.2.1) = true := by decide +kernel
theorem t_kwt0v17 {X : pX} {ρ0 : sR} (hv : vok X ρ0) : CUTOK X kR zKWt c_kwt0q 7 ρ0 q_kwt0v17 := CUTOK_AT (fun ρ k1 hF hI k4 => AT_of (q := q_kwt0v17) rfl rfl (SEM_runB kR_x kR_0 (Cs := []) (fun C hC => by cases hC) c_kwt0q_f (Q := w_kwt0v17) hv 160 (b1 := true) (b2 := true) k_kwt0v17 k1 hF hI k4 (fun p hp ρ3 m1 m2 m3 m4 m5 m6 => by
  rw [List.mem_singleton.mp hp] at m2 m3 m5 m6 ⊢
  exact kwt0_go hv (fun f hf => hF.2 f (List.mem_cons_of_mem _ (List.mem_cons_of_mem _ (List.mem_cons_of_mem _ hf)))) m1 m2 m3 m4 k4 (congrArg Prod.fst (m5 _ (List.mem_cons_self))) (m := 17) (by rw [show ρ.1 60096 = 17 from of_decide_eq_true (hF.2 _ (List.mem_cons_self))]; rfl) (fun j => m6 (64452, .arg 64452, cpW 1380 60000 17) (List.mem_cons_self) j) (fun j => m6 (64484, .arg 64484, []) (List.mem_cons_of_mem _ (List.mem_cons_self)) j))))
noncomputable def zf98zzzcb_76 : sQ × Bool := ((0, .arg 60096, .int 18), true)
noncomputable def zf98zzzcb_77 : sQ × Bool := ((0, .arg 19328, .int 18), true)
noncomputable def zf98zzzcb_78 : sQ × Bool := ((2, .int 1006, .arg 60000), false)
noncomputable def q_kwt0v18 : sCut := ((fr 0 55 0 [(0, tr 42), (1, .int 110), (2, tr 77), (3, .arg 60000), (4, .arg 60096)] [], [fBot], 7), (fr 0 278 0 [(0, tr 219), (1, .arg 1308), (2, .int 110)] [], [fBot], 7), [zf98zzzcb_76, zf98zzzcb_77, zf98zzzcb_78, zf98zzzcb_23, zf98zzzcb_24, zf98zzzcb_5, zf98zzzcb_6, zf98zzzcb_7, zf98zzzcb_22, zf98zzzcb_9, zf98zzzcb_19], [])
noncomputable def w_kwt0v18 : List (sCut × List (Nat × sT) × List (Nat × sT × List (sT × sT))) := [(q_kwt0ST, [(60032, .int 0)], [(64452, .arg 64452, cpW 1380 60000 18), (64484, .arg 64484, [])])]
theorem k_kwt0v18 : cbody kR [] (cpl1 zKWt c_kwt0q [q_kwt0ST]) (cpl2 zKWt c_kwt0q [q_kwt0ST]) (cleafB kR zKWt c_kwt0q w_kwt0v18) 160 true true q_kwt0v18.2.2.1 q_kwt0v18.2.2.2 (cst zKWt c_kwt0q.2.2.1.1 q_kwt0v18.1) (cst zKWt c_kwt0q.2.2.1.2 q_kwt0v18.2.1) = true := by decide +kernel
theorem t_kwt0v18 {X : pX} {ρ0 : sR} (hv : vok X ρ0) : CUTOK X kR zKWt c_kwt0q 7 ρ0 q_kwt0v18 := CUTOK_AT (fun ρ k1 hF hI k4 => AT_of (q := q_kwt0v18) rfl rfl (SEM_runB kR_x kR_0 (Cs := []) (fun C hC => by cases hC) c_kwt0q_f (Q := w_kwt0v18) hv 160 (b1 := true) (b2 := true) k_kwt0v18 k1 hF hI k4 (fun p hp ρ3 m1 m2 m3 m4 m5 m6 => by
  rw [List.mem_singleton.mp hp] at m2 m3 m5 m6 ⊢
  exact kwt0_go hv (fun f hf => hF.2 f (List.mem_cons_of_mem _ (List.mem_cons_of_mem _ (List.mem_cons_of_mem _ hf)))) m1 m2 m3 m4 k4 (congrArg Prod.fst (m5 _ (List.mem_cons_self))) (m := 18) (by rw [show ρ.1 60096 = 18 from of_decide_eq_true (hF.2 _ (List.mem_cons_self))]; rfl) (fun j => m6 (64452, .arg 64452, cpW 1380 60000 18) (List.mem_cons_self) j) (fun j => m6 (64484, .arg 64484, []) (List.mem_cons_of_mem _ (List.mem_cons_self)) j))))
noncomputable def zf98zzzcb_79 : sQ × Bool := ((0, .arg 60096, .int 19), true)
noncomputable def zf98zzzcb_80 : sQ × Bool := ((0, .arg 19328, .int 19), true)
noncomputable def zf98zzzcb_81 : sQ × Bool := ((2, .int 1005, .arg 60000), false)
noncomputable def q_kwt0v19 : sCut := ((fr 0 55 0 [(0, tr 42), (1, .int 110), (2, tr 77), (3, .arg 60000), (4, .arg 60096)] [], [fBot], 7), (fr 0 278 0 [(0, tr 219), (1, .arg 1308), (2, .int 110)] [], [fBot], 7), [zf98zzzcb_79, zf98zzzcb_80, zf98zzzcb_81, zf98zzzcb_23, zf98zzzcb_24, zf98zzzcb_5, zf98zzzcb_6, zf98zzzcb_7, zf98zzzcb_22, zf98zzzcb_9, zf98zzzcb_19], [])
noncomputable def w_kwt0v19 : List (sCut × List (Nat × sT) × List (Nat × sT × List (sT × sT))) := [(q_kwt0ST, [(60032, .int 0)], [(64452, .arg 64452, cpW 1380 60000 19), (64484, .arg 64484, [])])]
theorem k_kwt0v19 : cbody kR [] (cpl1 zKWt c_kwt0q [q_kwt0ST]) (cpl2 zKWt c_kwt0q [q_kwt0ST]) (cleafB kR zKWt c_kwt0q w_kwt0v19) 160 true true q_kwt0v19.2.2.1 q_kwt0v19.2.2.2 (cst zKWt c_kwt0q.2.2.1.1 q_kwt0v19.1) (cst zKWt c_kwt0q.2.2.1.2 q_kwt0v19.2.1) = true := by decide +kernel
theorem t_kwt0v19 {X : pX} {ρ0 : sR} (hv : vok X ρ0) : CUTOK X kR zKWt c_kwt0q 7 ρ0 q_kwt0v19 := CUTOK_AT (fun ρ k1 hF hI k4 => AT_of (q := q_kwt0v19) rfl rfl (SEM_runB kR_x kR_0 (Cs := []) (fun C hC => by cases hC) c_kwt0q_f (Q := w_kwt0v19) hv 160 (b1 := true) (b2 := true) k_kwt0v19 k1 hF hI k4 (fun p hp ρ3 m1 m2 m3 m4 m5 m6 => by
  rw [List.mem_singleton.mp hp] at m2 m3 m5 m6 ⊢
  exact kwt0_go hv (fun f hf => hF.2 f (List.mem_cons_of_mem _ (List.mem_cons_of_mem _ (List.mem_cons_of_mem _ hf)))) m1 m2 m3 m4 k4 (congrArg Prod.fst (m5 _ (List.mem_cons_self))) (m := 19) (by rw [show ρ.1 60096 = 19 from of_decide_eq_true (hF.2 _ (List.mem_cons_self))]; rfl) (fun j => m6 (64452, .arg 64452, cpW 1380 60000 19) (List.mem_cons_self) j) (fun j => m6 (64484, .arg 64484, []) (List.mem_cons_of_mem _ (List.mem_cons_self)) j))))
noncomputable def zf98zzzcb_82 : sQ × Bool := ((0, .arg 60096, .int 20), true)
noncomputable def zf98zzzcb_83 : sQ × Bool := ((0, .arg 19328, .int 20), true)
noncomputable def zf98zzzcb_84 : sQ × Bool := ((2, .int 1004, .arg 60000), false)
noncomputable def q_kwt0v20 : sCut := ((fr 0 55 0 [(0, tr 42), (1, .int 110), (2, tr 77), (3, .arg 60000), (4, .arg 60096)] [], [fBot], 7), (fr 0 278 0 [(0, tr 219), (1, .arg 1308), (2, .int 110)] [], [fBot], 7), [zf98zzzcb_82, zf98zzzcb_83, zf98zzzcb_84, zf98zzzcb_23, zf98zzzcb_24, zf98zzzcb_5, zf98zzzcb_6, zf98zzzcb_7, zf98zzzcb_22, zf98zzzcb_9, zf98zzzcb_19], [])
noncomputable def w_kwt0v20 : List (sCut × List (Nat × sT) × List (Nat × sT × List (sT × sT))) := [(q_kwt0ST, [(60032, .int 0)], [(64452, .arg 64452, cpW 1380 60000 20), (64484, .arg 64484, [])])]
theorem k_kwt0v20 : cbody kR [] (cpl1 zKWt c_kwt0q [q_kwt0ST]) (cpl2 zKWt c_kwt0q [q_kwt0ST]) (cleafB kR zKWt c_kwt0q w_kwt0v20) 160 true true q_kwt0v20.2.2.1 q_kwt0v20.2.2.2 (cst zKWt c_kwt0q.2.2.1.1 q_kwt0v20.1) (cst zKWt c_kwt0q.2.2.1.2 q_kwt0v20.2.1) = true := by decide +kernel
theorem t_kwt0v20 {X : pX} {ρ0 : sR} (hv : vok X ρ0) : CUTOK X kR zKWt c_kwt0q 7 ρ0 q_kwt0v20 := CUTOK_AT (fun ρ k1 hF hI k4 => AT_of (q := q_kwt0v20) rfl rfl (SEM_runB kR_x kR_0 (Cs := []) (fun C hC => by cases hC) c_kwt0q_f (Q := w_kwt0v20) hv 160 (b1 := true) (b2 := true) k_kwt0v20 k1 hF hI k4 (fun p hp ρ3 m1 m2 m3 m4 m5 m6 => by
  rw [List.mem_singleton.mp hp] at m2 m3 m5 m6 ⊢
  exact kwt0_go hv (fun f hf => hF.2 f (List.mem_cons_of_mem _ (List.mem_cons_of_mem _ (List.mem_cons_of_mem _ hf)))) m1 m2 m3 m4 k4 (congrArg Prod.fst (m5 _ (List.mem_cons_self))) (m := 20) (by rw [show ρ.1 60096 = 20 from of_decide_eq_true (hF.2 _ (List.mem_cons_self))]; rfl) (fun j => m6 (64452, .arg 64452, cpW 1380 60000 20) (List.mem_cons_self) j) (fun j => m6 (64484, .arg 64484, []) (List.mem_cons_of_mem _ (List.mem_cons_self)) j))))
noncomputable def zf98zzzcb_85 : sQ × Bool := ((0, .arg 60096, .int 21), true)
noncomputable def zf98zzzcb_86 : sQ × Bool := ((0, .arg 19328, .int 21), true)
noncomputable def zf98zzzcb_87 : sQ × Bool := ((2, .int 1003, .arg 60000), false)
noncomputable def q_kwt0v21 : sCut := ((fr 0 55 0 [(0, tr 42), (1, .int 110), (2, tr 77), (3, .arg 60000), (4, .arg 60096)] [], [fBot], 7), (fr 0 278 0 [(0, tr 219), (1, .arg 1308), (2, .int 110)] [], [fBot], 7), [zf98zzzcb_85, zf98zzzcb_86, zf98zzzcb_87, zf98zzzcb_23, zf98zzzcb_24, zf98zzzcb_5, zf98zzzcb_6, zf98zzzcb_7, zf98zzzcb_22, zf98zzzcb_9, zf98zzzcb_19], [])
noncomputable def w_kwt0v21 : List (sCut × List (Nat × sT) × List (Nat × sT × List (sT × sT))) := [(q_kwt0ST, [(60032, .int 0)], [(64452, .arg 64452, cpW 1380 60000 21), (64484, .arg 64484, [])])]
theorem k_kwt0v21 : cbody kR [] (cpl1 zKWt c_kwt0q [q_kwt0ST]) (cpl2 zKWt c_kwt0q [q_kwt0ST]) (cleafB kR zKWt c_kwt0q w_kwt0v21) 160 true true q_kwt0v21.2.2.1 q_kwt0v21.2.2.2 (cst zKWt c_kwt0q.2.2.1.1 q_kwt0v21.1) (cst zKWt c_kwt0q.2.2.1.2 q_kwt0v21.2.1) = true := by decide +kernel
theorem t_kwt0v21 {X : pX} {ρ0 : sR} (hv : vok X ρ0) : CUTOK X kR zKWt c_kwt0q 7 ρ0 q_kwt0v21 := CUTOK_AT (fun ρ k1 hF hI k4 => AT_of (q := q_kwt0v21) rfl rfl (SEM_runB kR_x kR_0 (Cs := []) (fun C hC => by cases hC) c_kwt0q_f (Q := w_kwt0v21) hv 160 (b1 := true) (b2 := true) k_kwt0v21 k1 hF hI k4 (fun p hp ρ3 m1 m2 m3 m4 m5 m6 => by
  rw [List.mem_singleton.mp hp] at m2 m3 m5 m6 ⊢
  exact kwt0_go hv (fun f hf => hF.2 f (List.mem_cons_of_mem _ (List.mem_cons_of_mem _ (List.mem_cons_of_mem _ hf)))) m1 m2 m3 m4 k4 (congrArg Prod.fst (m5 _ (List.mem_cons_self))) (m := 21) (by rw [show ρ.1 60096 = 21 from of_decide_eq_true (hF.2 _ (List.mem_cons_self))]; rfl) (fun j => m6 (64452, .arg 64452, cpW 1380 60000 21) (List.mem_cons_self) j) (fun j => m6 (64484, .arg 64484, []) (List.mem_cons_of_mem _ (List.mem_cons_self)) j))))
noncomputable def zf98zzzcb_88 : sQ × Bool := ((0, .arg 60096, .int 22), true)
noncomputable def zf98zzzcb_89 : sQ × Bool := ((0, .arg 19328, .int 22), true)
noncomputable def zf98zzzcb_90 : sQ × Bool := ((2, .int 1002, .arg 60000), false)
noncomputable def q_kwt0v22 : sCut := ((fr 0 55 0 [(0, tr 42), (1, .int 110), (2, tr 77), (3, .arg 60000), (4, .arg 60096)] [], [fBot], 7), (fr 0 278 0 [(0, tr 219), (1, .arg 1308), (2, .int 110)] [], [fBot], 7), [zf98zzzcb_88, zf98zzzcb_89, zf98zzzcb_90, zf98zzzcb_23, zf98zzzcb_24, zf98zzzcb_5, zf98zzzcb_6, zf98zzzcb_7, zf98zzzcb_22, zf98zzzcb_9, zf98zzzcb_19], [])
noncomputable def w_kwt0v22 : List (sCut × List (Nat × sT) × List (Nat × sT × List (sT × sT))) := [(q_kwt0ST, [(60032, .int 0)], [(64452, .arg 64452, cpW 1380 60000 22), (64484, .arg 64484, [])])]
theorem k_kwt0v22 : cbody kR [] (cpl1 zKWt c_kwt0q [q_kwt0ST]) (cpl2 zKWt c_kwt0q [q_kwt0ST]) (cleafB kR zKWt c_kwt0q w_kwt0v22) 160 true true q_kwt0v22.2.2.1 q_kwt0v22.2.2.2 (cst zKWt c_kwt0q.2.2.1.1 q_kwt0v22.1) (cst zKWt c_kwt0q.2.2.1.2 q_kwt0v22.2.1) = true := by decide +kernel
theorem t_kwt0v22 {X : pX} {ρ0 : sR} (hv : vok X ρ0) : CUTOK X kR zKWt c_kwt0q 7 ρ0 q_kwt0v22 := CUTOK_AT (fun ρ k1 hF hI k4 => AT_of (q := q_kwt0v22) rfl rfl (SEM_runB kR_x kR_0 (Cs := []) (fun C hC => by cases hC) c_kwt0q_f (Q := w_kwt0v22) hv 160 (b1 := true) (b2 := true) k_kwt0v22 k1 hF hI k4 (fun p hp ρ3 m1 m2 m3 m4 m5 m6 => by
  rw [List.mem_singleton.mp hp] at m2 m3 m5 m6 ⊢
  exact kwt0_go hv (fun f hf => hF.2 f (List.mem_cons_of_mem _ (List.mem_cons_of_mem _ (List.mem_cons_of_mem _ hf)))) m1 m2 m3 m4 k4 (congrArg Prod.fst (m5 _ (List.mem_cons_self))) (m := 22) (by rw [show ρ.1 60096 = 22 from of_decide_eq_true (hF.2 _ (List.mem_cons_self))]; rfl) (fun j => m6 (64452, .arg 64452, cpW 1380 60000 22) (List.mem_cons_self) j) (fun j => m6 (64484, .arg 64484, []) (List.mem_cons_of_mem _ (List.mem_cons_self)) j))))
noncomputable def zf98zzzcb_91 : sQ × Bool := ((0, .arg 60096, .int 23), true)
noncomputable def zf98zzzcb_92 : sQ × Bool := ((0, .arg 19328, .int 23), true)
noncomputable def zf98zzzcb_93 : sQ × Bool := ((2, .int 1001, .arg 60000), false)
noncomputable def q_kwt0v23 : sCut := ((fr 0 55 0 [(0, tr 42), (1, .int 110), (2, tr 77), (3, .arg 60000), (4, .arg 60096)] [], [fBot], 7), (fr 0 278 0 [(0, tr 219), (1, .arg 1308), (2, .int 110)] [], [fBot], 7), [zf98zzzcb_91, zf98zzzcb_92, zf98zzzcb_93, zf98zzzcb_23, zf98zzzcb_24, zf98zzzcb_5, zf98zzzcb_6, zf98zzzcb_7, zf98zzzcb_22, zf98zzzcb_9, zf98zzzcb_19], [])
noncomputable def w_kwt0v23 : List (sCut × List (Nat × sT) × List (Nat × sT × List (sT × sT))) := [(q_kwt0ST, [(60032, .int 0)], [(64452, .arg 64452, cpW 1380 60000 23), (64484, .arg 64484, [])])]
theorem k_kwt0v23 : cbody kR [] (cpl1 zKWt c_kwt0q [q_kwt0ST]) (cpl2 zKWt c_kwt0q [q_kwt0ST]) (cleafB kR zKWt c_kwt0q w_kwt0v23) 160 true true q_kwt0v23.2.2.1 q_kwt0v23.2.2.2 (cst zKWt c_kwt0q.2.2.1.1 q_kwt0v23.1) (cst zKWt c_kwt0q.2.2.1.2 q_kwt0v23.2.1) = true := by decide +kernel
theorem t_kwt0v23 {X : pX} {ρ0 : sR} (hv : vok X ρ0) : CUTOK X kR zKWt c_kwt0q 7 ρ0 q_kwt0v23 := CUTOK_AT (fun ρ k1 hF hI k4 => AT_of (q := q_kwt0v23) rfl rfl (SEM_runB kR_x kR_0 (Cs := []) (fun C hC => by cases hC) c_kwt0q_f (Q := w_kwt0v23) hv 160 (b1 := true) (b2 := true) k_kwt0v23 k1 hF hI k4 (fun p hp ρ3 m1 m2 m3 m4 m5 m6 => by
  rw [List.mem_singleton.mp hp] at m2 m3 m5 m6 ⊢
  exact kwt0_go hv (fun f hf => hF.2 f (List.mem_cons_of_mem _ (List.mem_cons_of_mem _ (List.mem_cons_of_mem _ hf)))) m1 m2 m3 m4 k4 (congrArg Prod.fst (m5 _ (List.mem_cons_self))) (m := 23) (by rw [show ρ.1 60096 = 23 from of_decide_eq_true (hF.2 _ (List.mem_cons_self))]; rfl) (fun j => m6 (64452, .arg 64452, cpW 1380 60000 23) (List.mem_cons_self) j) (fun j => m6 (64484, .arg 64484, []) (List.mem_cons_of_mem _ (List.mem_cons_self)) j))))
noncomputable def zf98zzzcb_94 : sQ × Bool := ((0, .arg 60096, .int 24), true)
noncomputable def zf98zzzcb_95 : sQ × Bool := ((0, .arg 19328, .int 24), true)
noncomputable def zf98zzzcb_96 : sQ × Bool := ((2, .int 1000, .arg 60000), false)
noncomputable def q_kwt0v24 : sCut := ((fr 0 55 0 [(0, tr 42), (1, .int 110), (2, tr 77), (3, .arg 60000), (4, .arg 60096)] [], [fBot], 7), (fr 0 278 0 [(0, tr 219), (1, .arg 1308), (2, .int 110)] [], [fBot], 7), [zf98zzzcb_94, zf98zzzcb_95, zf98zzzcb_96, zf98zzzcb_23, zf98zzzcb_24, zf98zzzcb_5, zf98zzzcb_6, zf98zzzcb_7, zf98zzzcb_22, zf98zzzcb_9, zf98zzzcb_19], [])
noncomputable def w_kwt0v24 : List (sCut × List (Nat × sT) × List (Nat × sT × List (sT × sT))) := [(q_kwt0ST, [(60032, .int 0)], [(64452, .arg 64452, cpW 1380 60000 24), (64484, .arg 64484, [])])]
theorem k_kwt0v24 : cbody kR [] (cpl1 zKWt c_kwt0q [q_kwt0ST]) (cpl2 zKWt c_kwt0q [q_kwt0ST]) (cleafB kR zKWt c_kwt0q w_kwt0v24) 160 true true q_kwt0v24.2.2.1 q_kwt0v24.2.2.2 (cst zKWt c_kwt0q.2.2.1.1 q_kwt0v24.1) (cst zKWt c_kwt0q.2.2.1.2 q_kwt0v24.2.1) = true := by decide +kernel
theorem t_kwt0v24 {X : pX} {ρ0 : sR} (hv : vok X ρ0) : CUTOK X kR zKWt c_kwt0q 7 ρ0 q_kwt0v24 := CUTOK_AT (fun ρ k1 hF hI k4 => AT_of (q := q_kwt0v24) rfl rfl (SEM_runB kR_x kR_0 (Cs := []) (fun C hC => by cases hC) c_kwt0q_f (Q := w_kwt0v24) hv 160 (b1 := true) (b2 := true) k_kwt0v24 k1 hF hI k4 (fun p hp ρ3 m1 m2 m3 m4 m5 m6 => by
  rw [List.mem_singleton.mp hp] at m2 m3 m5 m6 ⊢
  exact kwt0_go hv (fun f hf => hF.2 f (List.mem_cons_of_mem _ (List.mem_cons_of_mem _ (List.mem_cons_of_mem _ hf)))) m1 m2 m3 m4 k4 (congrArg Prod.fst (m5 _ (List.mem_cons_self))) (m := 24) (by rw [show ρ.1 60096 = 24 from of_decide_eq_true (hF.2 _ (List.mem_cons_self))]; rfl) (fun j => m6 (64452, .arg 64452, cpW 1380 60000 24) (List.mem_cons_self) j) (fun j => m6 (64484, .arg 64484, []) (List.mem_cons_of_mem _ (List.mem_cons_self)) j))))
noncomputable def q_kwt0 : sCut := ((fr 0 55 0 [(0, tr 42), (1, .int 110), (2, tr 77), (3, .arg 60000), (4, .arg 60096)] [], [fBot], 7), (fr 0 278 0 [(0, tr 219), (1, .arg 1308), (2, .int 110)] [], [fBot], 7), [zf98zzzcb_23, zf98zzzcb_24, zf98zzzcb_5, zf98zzzcb_6, zf98zzzcb_7, zf98zzzcb_22, zf98zzzcb_9, zf98zzzcb_19], [])
theorem t_kwt0 {X : pX} {ρ0 : sR} (hv : vok X ρ0) : CUTOK X kR zKWt c_kwt0q 7 ρ0 q_kwt0 := fun ρ k1 hF hI k4 => by
  have v0 : (0 : Int) ≤ (ρ.1 60096).toInt := ri_lf (x := ρ.1 60096) (y := 0) (hF.2 _ (List.mem_cons_of_mem _ (List.mem_cons_of_mem _ (List.mem_cons_of_mem _ (List.mem_cons_self)))))
  have v1 : (ρ.1 60096).toInt ≤ 24 := ri_lf (x := 24) (y := ρ.1 60096) (hF.2 _ (List.mem_cons_of_mem _ (List.mem_cons_of_mem _ (List.mem_cons_of_mem _ (List.mem_cons_of_mem _ (List.mem_cons_self))))))
  have a0 : (0 : Int) ≤ (ρ.1 60000).toInt := ri_lf (x := ρ.1 60000) (y := 0) (hF.2 _ (List.mem_cons_self))
  have a1 : (ρ.1 60000).toInt ≤ 1024 := ri_lf (x := 1024) (y := ρ.1 60000) (hF.2 _ (List.mem_cons_of_mem _ (List.mem_cons_of_mem _ (List.mem_cons_of_mem _ (List.mem_cons_of_mem _ (List.mem_cons_of_mem _ (List.mem_cons_self)))))))
  have ea : (ρ.1 60000 + ρ.1 60096).toInt = (ρ.1 60000).toInt + (ρ.1 60096).toInt := s_add (by omega) (by omega)
  have a2 : (ρ.1 60000 + ρ.1 60096).toInt ≤ 1024 := ri_lf (x := 1024) (y := ρ.1 60000 + ρ.1 60096) (hF.2 _ (List.mem_cons_of_mem _ (List.mem_cons_self)))
  rw [ea] at a2
  have eD : ρ.1 19328 = ρ.1 60096 := of_decide_eq_true (hF.2 _ (List.mem_cons_of_mem _ (List.mem_cons_of_mem _ (List.mem_cons_self))))
  rcases (show (ρ.1 60096).toInt = 0 ∨ (ρ.1 60096).toInt = 1 ∨ (ρ.1 60096).toInt = 2 ∨ (ρ.1 60096).toInt = 3 ∨ (ρ.1 60096).toInt = 4 ∨ (ρ.1 60096).toInt = 5 ∨ (ρ.1 60096).toInt = 6 ∨ (ρ.1 60096).toInt = 7 ∨ (ρ.1 60096).toInt = 8 ∨ (ρ.1 60096).toInt = 9 ∨ (ρ.1 60096).toInt = 10 ∨ (ρ.1 60096).toInt = 11 ∨ (ρ.1 60096).toInt = 12 ∨ (ρ.1 60096).toInt = 13 ∨ (ρ.1 60096).toInt = 14 ∨ (ρ.1 60096).toInt = 15 ∨ (ρ.1 60096).toInt = 16 ∨ (ρ.1 60096).toInt = 17 ∨ (ρ.1 60096).toInt = 18 ∨ (ρ.1 60096).toInt = 19 ∨ (ρ.1 60096).toInt = 20 ∨ (ρ.1 60096).toInt = 21 ∨ (ρ.1 60096).toInt = 22 ∨ (ρ.1 60096).toInt = 23 ∨ (ρ.1 60096).toInt = 24 by omega) with h | h | h | h | h | h | h | h | h | h | h | h | h | h | h | h | h | h | h | h | h | h | h | h | h
  · have e : ρ.1 60096 = 0 := Int32.toInt_inj.mp h
    exact t_kwt0v0 hv ρ k1 ⟨hF.1, fcn (decide_eq_true e) (fcn (decide_eq_true (eD.trans e)) (fcn (di_lf (x := 1024) (y := ρ.1 60000) (show _ ≤ (1024 : Int) by omega)) hF.2))⟩ hI k4
  · have e : ρ.1 60096 = 1 := Int32.toInt_inj.mp h
    exact t_kwt0v1 hv ρ k1 ⟨hF.1, fcn (decide_eq_true e) (fcn (decide_eq_true (eD.trans e)) (fcn (di_lf (x := 1023) (y := ρ.1 60000) (show _ ≤ (1023 : Int) by omega)) hF.2))⟩ hI k4
  · have e : ρ.1 60096 = 2 := Int32.toInt_inj.mp h
    exact t_kwt0v2 hv ρ k1 ⟨hF.1, fcn (decide_eq_true e) (fcn (decide_eq_true (eD.trans e)) (fcn (di_lf (x := 1022) (y := ρ.1 60000) (show _ ≤ (1022 : Int) by omega)) hF.2))⟩ hI k4
  · have e : ρ.1 60096 = 3 := Int32.toInt_inj.mp h
    exact t_kwt0v3 hv ρ k1 ⟨hF.1, fcn (decide_eq_true e) (fcn (decide_eq_true (eD.trans e)) (fcn (di_lf (x := 1021) (y := ρ.1 60000) (show _ ≤ (1021 : Int) by omega)) hF.2))⟩ hI k4
  · have e : ρ.1 60096 = 4 := Int32.toInt_inj.mp h
    exact t_kwt0v4 hv ρ k1 ⟨hF.1, fcn (decide_eq_true e) (fcn (decide_eq_true (eD.trans e)) (fcn (di_lf (x := 1020) (y := ρ.1 60000) (show _ ≤ (1020 : Int) by omega)) hF.2))⟩ hI k4
  · have e : ρ.1 60096 = 5 := Int32.toInt_inj.mp h
    exact t_kwt0v5 hv ρ k1 ⟨hF.1, fcn (decide_eq_true e) (fcn (decide_eq_true (eD.trans e)) (fcn (di_lf (x := 1019) (y := ρ.1 60000) (show _ ≤ (1019 : Int) by omega)) hF.2))⟩ hI k4
  · have e : ρ.1 60096 = 6 := Int32.toInt_inj.mp h
    exact t_kwt0v6 hv ρ k1 ⟨hF.1, fcn (decide_eq_true e) (fcn (decide_eq_true (eD.trans e)) (fcn (di_lf (x := 1018) (y := ρ.1 60000) (show _ ≤ (1018 : Int) by omega)) hF.2))⟩ hI k4
  · have e : ρ.1 60096 = 7 := Int32.toInt_inj.mp h
    exact t_kwt0v7 hv ρ k1 ⟨hF.1, fcn (decide_eq_true e) (fcn (decide_eq_true (eD.trans e)) (fcn (di_lf (x := 1017) (y := ρ.1 60000) (show _ ≤ (1017 : Int) by omega)) hF.2))⟩ hI k4
  · have e : ρ.1 60096 = 8 := Int32.toInt_inj.mp h
    exact t_kwt0v8 hv ρ k1 ⟨hF.1, fcn (decide_eq_true e) (fcn (decide_eq_true (eD.trans e)) (fcn (di_lf (x := 1016) (y := ρ.1 60000) (show _ ≤ (1016 : Int) by omega)) hF.2))⟩ hI k4
  · have e : ρ.1 60096 = 9 := Int32.toInt_inj.mp h
    exact t_kwt0v9 hv ρ k1 ⟨hF.1, fcn (decide_eq_true e) (fcn (decide_eq_true (eD.trans e)) (fcn (di_lf (x := 1015) (y := ρ.1 60000) (show _ ≤ (1015 : Int) by omega)) hF.2))⟩ hI k4
  · have e : ρ.1 60096 = 10 := Int32.toInt_inj.mp h
    exact t_kwt0v10 hv ρ k1 ⟨hF.1, fcn (decide_eq_true e) (fcn (decide_eq_true (eD.trans e)) (fcn (di_lf (x := 1014) (y := ρ.1 60000) (show _ ≤ (1014 : Int) by omega)) hF.2))⟩ hI k4
  · have e : ρ.1 60096 = 11 := Int32.toInt_inj.mp h
    exact t_kwt0v11 hv ρ k1 ⟨hF.1, fcn (decide_eq_true e) (fcn (decide_eq_true (eD.trans e)) (fcn (di_lf (x := 1013) (y := ρ.1 60000) (show _ ≤ (1013 : Int) by omega)) hF.2))⟩ hI k4
  · have e : ρ.1 60096 = 12 := Int32.toInt_inj.mp h
    exact t_kwt0v12 hv ρ k1 ⟨hF.1, fcn (decide_eq_true e) (fcn (decide_eq_true (eD.trans e)) (fcn (di_lf (x := 1012) (y := ρ.1 60000) (show _ ≤ (1012 : Int) by omega)) hF.2))⟩ hI k4
  · have e : ρ.1 60096 = 13 := Int32.toInt_inj.mp h
    exact t_kwt0v13 hv ρ k1 ⟨hF.1, fcn (decide_eq_true e) (fcn (decide_eq_true (eD.trans e)) (fcn (di_lf (x := 1011) (y := ρ.1 60000) (show _ ≤ (1011 : Int) by omega)) hF.2))⟩ hI k4
  · have e : ρ.1 60096 = 14 := Int32.toInt_inj.mp h
    exact t_kwt0v14 hv ρ k1 ⟨hF.1, fcn (decide_eq_true e) (fcn (decide_eq_true (eD.trans e)) (fcn (di_lf (x := 1010) (y := ρ.1 60000) (show _ ≤ (1010 : Int) by omega)) hF.2))⟩ hI k4
  · have e : ρ.1 60096 = 15 := Int32.toInt_inj.mp h
    exact t_kwt0v15 hv ρ k1 ⟨hF.1, fcn (decide_eq_true e) (fcn (decide_eq_true (eD.trans e)) (fcn (di_lf (x := 1009) (y := ρ.1 60000) (show _ ≤ (1009 : Int) by omega)) hF.2))⟩ hI k4
  · have e : ρ.1 60096 = 16 := Int32.toInt_inj.mp h
    exact t_kwt0v16 hv ρ k1 ⟨hF.1, fcn (decide_eq_true e) (fcn (decide_eq_true (eD.trans e)) (fcn (di_lf (x := 1008) (y := ρ.1 60000) (show _ ≤ (1008 : Int) by omega)) hF.2))⟩ hI k4
  · have e : ρ.1 60096 = 17 := Int32.toInt_inj.mp h
    exact t_kwt0v17 hv ρ k1 ⟨hF.1, fcn (decide_eq_true e) (fcn (decide_eq_true (eD.trans e)) (fcn (di_lf (x := 1007) (y := ρ.1 60000) (show _ ≤ (1007 : Int) by omega)) hF.2))⟩ hI k4
  · have e : ρ.1 60096 = 18 := Int32.toInt_inj.mp h
    exact t_kwt0v18 hv ρ k1 ⟨hF.1, fcn (decide_eq_true e) (fcn (decide_eq_true (eD.trans e)) (fcn (di_lf (x := 1006) (y := ρ.1 60000) (show _ ≤ (1006 : Int) by omega)) hF.2))⟩ hI k4
  · have e : ρ.1 60096 = 19 := Int32.toInt_inj.mp h
    exact t_kwt0v19 hv ρ k1 ⟨hF.1, fcn (decide_eq_true e) (fcn (decide_eq_true (eD.trans e)) (fcn (di_lf (x := 1005) (y := ρ.1 60000) (show _ ≤ (1005 : Int) by omega)) hF.2))⟩ hI k4
  · have e : ρ.1 60096 = 20 := Int32.toInt_inj.mp h
    exact t_kwt0v20 hv ρ k1 ⟨hF.1, fcn (decide_eq_true e) (fcn (decide_eq_true (eD.trans e)) (fcn (di_lf (x := 1004) (y := ρ.1 60000) (show _ ≤ (1004 : Int) by omega)) hF.2))⟩ hI k4
  · have e : ρ.1 60096 = 21 := Int32.toInt_inj.mp h
    exact t_kwt0v21 hv ρ k1 ⟨hF.1, fcn (decide_eq_true e) (fcn (decide_eq_true (eD.trans e)) (fcn (di_lf (x := 1003) (y := ρ.1 60000) (show _ ≤ (1003 : Int) by omega)) hF.2))⟩ hI k4
  · have e : ρ.1 60096 = 22 := Int32.toInt_inj.mp h
    exact t_kwt0v22 hv ρ k1 ⟨hF.1, fcn (decide_eq_true e) (fcn (decide_eq_true (eD.trans e)) (fcn (di_lf (x := 1002) (y := ρ.1 60000) (show _ ≤ (1002 : Int) by omega)) hF.2))⟩ hI k4
  · have e : ρ.1 60096 = 23 := Int32.toInt_inj.mp h
    exact t_kwt0v23 hv ρ k1 ⟨hF.1, fcn (decide_eq_true e) (fcn (decide_eq_true (eD.trans e)) (fcn (di_lf (x := 1001) (y := ρ.1 60000) (show _ ≤ (1001 : Int) by omega)) hF.2))⟩ hI k4
  · have e : ρ.1 60096 = 24 := Int32.toInt_inj.mp h
    exact t_kwt0v24 hv ρ k1 ⟨hF.1, fcn (decide_eq_true e) (fcn (decide_eq_true (eD.trans e)) (fcn (di_lf (x := 1000) (y := ρ.1 60000) (show _ ≤ (1000 : Int) by omega)) hF.2))⟩ hI k4
theorem s_kwt0q {X : pX} : SREL X pF pdfl mt_all kR zKWt c_kwt0q := SREL_enter (d := 7) (q := q_kwt0) rfl c_kwt0q_f (fun ρ0 hv => t_kwt0 hv) rfl rfl rfl rfl
noncomputable def c_kwt0 : sC := (c_kwt0q.1, c_kwt0q.2.1, c_kwt0q.2.2.1, [((2, .arg 60000, .int 0), false), ((2, .int 1024, .add (.arg 60000) (.arg 60096)), false), ((0, .arg 19328, .arg 60096), true), ((2, .arg 60096, .int 0), false), ((2, .int 24, .arg 60096), false), ((2, .int 1024, .arg 60000), false), ((112, .add (.arg 60000) (.add (.elem (.arg 1380) (.int 0)) (.add (.int 0) (.elem (.arg 2212) (.int 0)))), .arg 60096), true)], (c_kwt0q.2.2.2.2.1.1, [64452, 64484, 1284]), (none, some (.int 0)), [((0, .arg 1298, .arg 60096), true), ((0, .arg 1554, .arg 60096), true)], ([], []))
theorem c_kwt0_f : cfine zWB 65536 c_kwt0 = true := by decide +kernel
theorem s_kwt0 {X : pX} : SREL X pF pdfl mt_all kR zWB c_kwt0 := SREL_share (p := 64452) (q := 64484) (s := 1284) (k := 45) (km := 230) (D := 1308) (n := 24) (c := 2244) (len := 144) (m := 96) s_kwt0q kR_0 kR_x (by decide) (by decide) (by decide +kernel) (by decide +kernel) (by decide) (by decide) (by decide) (by decide) (by decide) (by decide) (by decide) (by decide) (by decide) rfl rfl (by decide) (by decide) (by decide) (by decide) (by decide) rfl rfl rfl rfl (by decide +kernel) (by decide +kernel) (by decide +kernel) (by decide +kernel) (fun i hi => hi) (fun x hx => ⟨fun h => hx (by
    rcases List.mem_cons.mp h with h | h
    · rw [h]; exact List.mem_cons_self
    · rw [List.mem_singleton.mp h]; exact List.mem_cons_of_mem _ List.mem_cons_self), fun e => hx (by rw [e]; exact List.mem_cons_self), fun e => hx (by rw [e]; exact List.mem_cons_of_mem _ List.mem_cons_self), fun e => hx (by rw [e]; exact List.mem_cons_of_mem _ (List.mem_cons_of_mem _ List.mem_cons_self))⟩)
  (fun ρ kk ff ii => ⟨by
    have al : alk (fun _ => false) (fun i => i == 64452 || (i == 64484 || i == 1284)) (rsI 64484 (ρ.2.2.1 1284) (rsI 64452 (ρ.2.2.1 1284) ρ)) ρ := ⟨fun i _ => ⟨rfl, rfl⟩, fun x hx => by
      simp only [Bool.or_eq_false_iff, beq_eq_false_iff_ne, ne_eq] at hx
      exact ⟨(if_neg hx.2.1).trans (if_neg hx.1), rfl⟩⟩
    have h := nod_fall al (F := c_kwt0.2.2.2.1) (by decide +kernel) ff.2
    have h3 : sc X (rsI 64484 (ρ.2.2.1 1284) (rsI 64452 (ρ.2.2.1 1284) ρ)) (103, .add (.elem (.arg 64452) (.int 0)) (.elem (.arg 64484) (.int 0)), .int 24) = true := (k103 (by decide) (by decide) rfl).mpr (fun j _ => congrFun (rsI_pq (by decide)) j)
    exact fcn (h _ (List.mem_cons_self)) (fcn (h _ (List.mem_cons_of_mem _ (List.mem_cons_self))) (fcn (h _ (List.mem_cons_of_mem _ (List.mem_cons_of_mem _ (List.mem_cons_self)))) (fcn (h _ (List.mem_cons_of_mem _ (List.mem_cons_of_mem _ (List.mem_cons_of_mem _ (List.mem_cons_self))))) (fcn (h _ (List.mem_cons_of_mem _ (List.mem_cons_of_mem _ (List.mem_cons_of_mem _ (List.mem_cons_of_mem _ (List.mem_cons_self)))))) (fcn (h _ (List.mem_cons_of_mem _ (List.mem_cons_of_mem _ (List.mem_cons_of_mem _ (List.mem_cons_of_mem _ (List.mem_cons_of_mem _ (List.mem_cons_self))))))) (fcn (h _ (List.mem_cons_of_mem _ (List.mem_cons_of_mem _ (List.mem_cons_of_mem _ (List.mem_cons_of_mem _ (List.mem_cons_of_mem _ (List.mem_cons_of_mem _ (List.mem_cons_self)))))))) (fcn (h3) (fun f hf => by cases hf)))))))), fun c hc => by cases hc⟩)
  (fun ρ2 f2 i2 => ⟨fun j hj => (k103 (by decide) (by decide) rfl).mp (f2.2 _ (List.mem_cons_of_mem _ (List.mem_cons_of_mem _ (List.mem_cons_self)))) j (show (j : Int) < 24 by omega), nod_fall (ρ1 := rsI 1284 (ρ2.2.2.1 64452) ρ2) (ρ2 := ρ2) (V := fun _ => false) (R := fun i => i == 64452 || (i == 64484 || i == 1284)) ⟨fun i hi => ⟨rfl, rfl⟩, fun x hx => by
    simp only [Bool.or_eq_false_iff, beq_eq_false_iff_ne, ne_eq] at hx
    exact ⟨if_neg hx.2.2, rfl⟩⟩ (by decide +kernel) (fcn (f2.2 _ (List.mem_cons_self)) (fcn (f2.2 _ (List.mem_cons_of_mem _ (List.mem_cons_self))) (fun f hf => by cases hf))), fun c hc => by cases hc⟩)
noncomputable def c_kwt1q : sC := ((55, 278, 8), ([tr 42, .int 110, tr 78, .arg 60000, .arg 60096], [tr 219, .arg 1308, .int 110]), ([42, 44, 45, 47, 78], [219, 230, 231, 334, 222]), [((2, .arg 60000, .int 0), false), ((2, .int 1024, .add (.arg 60000) (.arg 60096)), false), ((0, .arg 19328, .arg 60096), true), ((2, .arg 60096, .int 0), false), ((2, .int 24, .arg 60096), false), ((2, .int 1024, .arg 60000), false), ((112, .add (.arg 60000) (.add (.elem (.arg 1412) (.int 0)) (.add (.int 0) (.elem (.arg 2212) (.int 0)))), .arg 60096), true), ((103, .add (.elem (.arg 64452) (.int 0)) (.elem (.arg 64484) (.int 0)), .int 24), true)], ([1298, 1554, 60032], [64452, 64484]), (none, some (.int 0)), [((0, .arg 1298, .arg 60096), true), ((0, .arg 1554, .arg 60096), true), ((103, .add (.elem (.arg 64452) (.int 0)) (.elem (.arg 64484) (.int 0)), .int 24), true)], ([], []))
theorem c_kwt1q_f : cfine zKWt 65536 c_kwt1q = true := by decide +kernel
noncomputable def zf98zzzcb_97 : sQ × Bool := ((112, .add (.arg 60000) (.add (.elem (.arg 1412) (.int 0)) (.add (.int 0) (.elem (.arg 64452) (.int 0)))), .arg 60096), true)
noncomputable def zf98zzzcb_98 : sQ × Bool := ((112, .add (.arg 60000) (.add (.elem (.arg 1412) (.int 0)) (.add (.int 0) (.elem (.arg 2212) (.int 0)))), .arg 60096), true)
noncomputable def q_kwt1L : sCut := ((fr 0 55 35 [] [], [fBot], 7), (fr 0 278 21 [(0, tr 219), (1, .arg 1308), (2, .int 110), (3, .int 1), (4, .arg 60032)] [], [fBot], 7), [zf98zzzcb_0, zf98zzzcb_1, zf98zzzcb_97, zf98zzzcb_3, zf98zzzcb_4, zf98zzzcb_5, zf98zzzcb_6, zf98zzzcb_7, zf98zzzcb_8, zf98zzzcb_98], [])
noncomputable def q_kwt1LL : sCut := ((fr 0 55 35 [] [], [fBot], 7), (fr 0 278 21 [(0, tr 219), (1, .arg 1308), (2, .int 110), (3, .int 1), (4, .arg 60032)] [], [fBot], 7), [zf98zzzcb_10, zf98zzzcb_0, zf98zzzcb_1, zf98zzzcb_97, zf98zzzcb_3, zf98zzzcb_4, zf98zzzcb_5, zf98zzzcb_6, zf98zzzcb_7, zf98zzzcb_8, zf98zzzcb_98], [])
noncomputable def q_kwt1LT : sCut := ((fr 0 55 35 [] [], [fBot], 7), (fr 0 278 21 [(0, tr 219), (1, .arg 1308), (2, .int 110), (3, .int 1), (4, .arg 60032)] [], [fBot], 7), [zf98zzzcb_10, zf98zzzcb_5, zf98zzzcb_6, zf98zzzcb_7, zf98zzzcb_8, zf98zzzcb_98], [])
noncomputable def q_kwt1ST : sCut := ((fr 0 55 35 [] [], [fBot], 7), (fr 0 278 21 [(0, tr 219), (1, .arg 1308), (2, .int 110), (3, .int 1), (4, .arg 60032)] [], [fBot], 7), [zf98zzzcb_5, zf98zzzcb_6, zf98zzzcb_7, zf98zzzcb_8, zf98zzzcb_98], [])
noncomputable def q_kwt1E : sCut := ((fr 0 55 35 [] [], [fBot], 7), (fr 0 278 21 [(0, tr 219), (1, .arg 1308), (2, .int 110), (3, .int 1), (4, .arg 60032)] [], [fBot], 7), [zf98zzzcb_11, zf98zzzcb_0, zf98zzzcb_1, zf98zzzcb_97, zf98zzzcb_3, zf98zzzcb_4, zf98zzzcb_5, zf98zzzcb_6, zf98zzzcb_7, zf98zzzcb_8, zf98zzzcb_98], [])
noncomputable def q_kwt1En : sCut := ((fr 0 55 35 [] [], [fBot], 7), (fr 0 278 21 [(0, tr 219), (1, .arg 1308), (2, .int 110), (3, .int 1), (4, .arg 60032)] [], [fBot], 7), [zf98zzzcb_12, zf98zzzcb_13, zf98zzzcb_14, zf98zzzcb_15, zf98zzzcb_11, zf98zzzcb_0, zf98zzzcb_1, zf98zzzcb_97, zf98zzzcb_3, zf98zzzcb_4, zf98zzzcb_5, zf98zzzcb_6, zf98zzzcb_7, zf98zzzcb_8, zf98zzzcb_98], [])
noncomputable def w_kwt1En : List (sCut × List (Nat × sT) × List (Nat × sT × List (sT × sT))) := [(q_kwt1LT, [(60032, .add (.arg 60032) (.int 1))], [(64452, .arg 64452, []), (64484, .arg 64484, [(.arg 60032, .elem (.arg 2212) (.arg 60032))])])]
theorem k_kwt1En : cbody kR [] (cpl1 zKWt c_kwt1q [q_kwt1LT]) (cpl2 zKWt c_kwt1q [q_kwt1LT]) (cleafB kR zKWt c_kwt1q w_kwt1En) 120 false true q_kwt1En.2.2.1 q_kwt1En.2.2.2 (cst zKWt c_kwt1q.2.2.1.1 q_kwt1En.1) (cst zKWt c_kwt1q.2.2.1.2 q_kwt1En.2.1) = true := by decide +kernel
theorem t_kwt1En {X : pX} {ρ0 : sR} (hv : vok X ρ0) (hk_ : CUTOK X kR zKWt c_kwt1q 7 ρ0 q_kwt1LL) : CUTOK X kR zKWt c_kwt1q 7 ρ0 q_kwt1En := CUTOK_AT (fun ρ k1 hF hI k4 => AT_of (q := q_kwt1En) rfl rfl (SEM_runB kR_x kR_0 (Cs := []) (fun C hC => by cases hC) c_kwt1q_f (Q := w_kwt1En) hv 120 (b1 := false) (b2 := true) k_kwt1En k1 hF hI k4 (fun p hp ρ3 m1 m2 m3 m4 m5 m6 => by
  rw [List.mem_singleton.mp hp] at m2 m3 m5 m6 ⊢
  have v0 : (0 : Int) ≤ (ρ.1 60096).toInt := ri_lf (x := ρ.1 60096) (y := 0) (hF.2 _ (List.mem_cons_of_mem _ (List.mem_cons_of_mem _ (List.mem_cons_of_mem _ (List.mem_cons_of_mem _ (List.mem_cons_of_mem _ (List.mem_cons_of_mem _ (List.mem_cons_of_mem _ (List.mem_cons_of_mem _ (List.mem_cons_of_mem _ (List.mem_cons_of_mem _ (List.mem_cons_of_mem _ (List.mem_cons_self)))))))))))))
  have v1 : (ρ.1 60096).toInt ≤ 24 := ri_lf (x := 24) (y := ρ.1 60096) (hF.2 _ (List.mem_cons_of_mem _ (List.mem_cons_of_mem _ (List.mem_cons_of_mem _ (List.mem_cons_of_mem _ (List.mem_cons_of_mem _ (List.mem_cons_of_mem _ (List.mem_cons_of_mem _ (List.mem_cons_of_mem _ (List.mem_cons_of_mem _ (List.mem_cons_of_mem _ (List.mem_cons_of_mem _ (List.mem_cons_of_mem _ (List.mem_cons_self))))))))))))))
  have c0 : (0 : Int) ≤ (ρ.1 60032).toInt := ri_lf (x := ρ.1 60032) (y := 0) (hF.2 _ (List.mem_cons_of_mem _ (List.mem_cons_of_mem _ (List.mem_cons_of_mem _ (List.mem_cons_of_mem _ (List.mem_cons_of_mem _ (List.mem_cons_of_mem _ (List.mem_cons_of_mem _ (List.mem_cons_of_mem _ (List.mem_cons_self))))))))))
  have c1 : (ρ.1 60032).toInt ≤ (ρ.1 60096).toInt := ri_lf (x := ρ.1 60096) (y := ρ.1 60032) (hF.2 _ (List.mem_cons_of_mem _ (List.mem_cons_of_mem _ (List.mem_cons_of_mem _ (List.mem_cons_of_mem _ (List.mem_cons_of_mem _ (List.mem_cons_of_mem _ (List.mem_cons_of_mem _ (List.mem_cons_of_mem _ (List.mem_cons_of_mem _ (List.mem_cons_self)))))))))))
  have ek : (ρ.1 60032 + 1).toInt = (ρ.1 60032).toInt + 1 := s_add (y := 1) (by show _ ≤ _ + (1 : Int); omega) (by show _ + (1 : Int) ≤ _; omega)
  have en : ((24 : Int32) - ρ.1 60096).toInt = 24 - (ρ.1 60096).toInt := i_of (i_sb (show (24 : Int32) = Int32.ofInt 24 from rfl) (i_s _)) (by omega) (by omega)
  have t1 : ρ3.1 60032 = ρ.1 60032 + 1 := congrArg Prod.fst (m5 _ (List.mem_cons_self))
  have hP : ∀ j, ρ3.2.2.1 64452 j = ρ.2.2.1 64452 j := fun j => Value.int.inj (m6 (64452, .arg 64452, []) (List.mem_cons_self) j)
  have hQ : ∀ j, ρ3.2.2.1 64484 j = if (ρ.1 60032).toInt.toNat = j then ρ.2.2.1 2212 (ρ.1 60032).toInt.toNat else ρ.2.2.1 64484 j := fun j => by
    have hw : Value.int (ρ3.2.2.1 64484 j) = if (ρ.1 60032).toNatClampNeg = j then Value.int (ρ.2.2.1 2212 (ρ.1 60032).toNatClampNeg) else Value.int (ρ.2.2.1 64484 j) := m6 (64484, .arg 64484, [(.arg 60032, .elem (.arg 2212) (.arg 60032))]) (List.mem_cons_of_mem _ (List.mem_cons_self)) j
    rw [s_nat] at hw
    by_cases hj : (ρ.1 60032).toInt.toNat = j
    · rw [if_pos hj] at hw ⊢; exact Value.int.inj hw
    · rw [if_neg hj] at hw ⊢; exact Value.int.inj hw
  have eV : ρ3.1 60096 = ρ.1 60096 := (m4.1 60096 (by decide) (by decide)).1.trans (k4.1 60096 (by decide) (by decide)).1.symm
  have eA : ρ3.1 60000 = ρ.1 60000 := (m4.1 60000 (by decide) (by decide)).1.trans (k4.1 60000 (by decide) (by decide)).1.symm
  have eB : ρ3.2.2.1 1412 = ρ.2.2.1 1412 := (m4.2 1412 (by decide) (by decide)).1.trans (k4.2 1412 (by decide) (by decide)).1.symm
  have hl : (ρ.1 60032).toInt < (ρ.1 60096).toInt := ri_lt (x := ρ.1 60032) (y := ρ.1 60096) (hF.2 _ (List.mem_cons_self))
  have h3 := (k103 (by decide) (by decide) rfl).mp (hF.2 _ (List.mem_cons_of_mem _ (List.mem_cons_of_mem _ (List.mem_cons_of_mem _ (List.mem_cons_of_mem _ (List.mem_cons_of_mem _ (List.mem_cons_self)))))))
  have ht := (k112v (a := 64452) (b := 64484) (s := .arg 60096) (t := .arg 60096) (n := .sub (.int 24) (.arg 60096)) (by decide) (by decide) rfl rfl rfl).mp (hF.2 _ (List.mem_cons_of_mem _ (List.mem_cons_of_mem _ (List.mem_cons_of_mem _ (List.mem_cons_of_mem _ (List.mem_cons_of_mem _ (List.mem_cons_of_mem _ (List.mem_cons_self))))))))
  have hp := (k112v (a := 1412) (b := 64452) (s := .arg 60000) (t := .int 0) (n := .arg 60096) (by decide) (by decide) rfl rfl rfl).mp (hF.2 _ (List.mem_cons_of_mem _ (List.mem_cons_of_mem _ (List.mem_cons_of_mem _ (List.mem_cons_of_mem _ (List.mem_cons_of_mem _ (List.mem_cons_of_mem _ (List.mem_cons_of_mem _ (List.mem_cons_self)))))))))
  have hd := (k112v (a := 1412) (b := 2212) (s := .arg 60000) (t := .int 0) (n := .arg 60096) (by decide) (by decide) rfl rfl rfl).mp (hF.2 _ (List.mem_cons_of_mem _ (List.mem_cons_of_mem _ (List.mem_cons_of_mem _ (List.mem_cons_of_mem _ (List.mem_cons_of_mem _ (List.mem_cons_of_mem _ (List.mem_cons_of_mem _ (List.mem_cons_of_mem _ (List.mem_cons_of_mem _ (List.mem_cons_of_mem _ (List.mem_cons_of_mem _ (List.mem_cons_of_mem _ (List.mem_cons_of_mem _ (List.mem_cons_of_mem _ (List.mem_cons_self))))))))))))))))
  have x3 : sc X ρ3 (103, .add (.elem (.arg 64452) (.int 0)) (.elem (.arg 64484) (.int 0)), .arg 60032) = true := (k103 (by decide) (by decide) rfl).mpr (fun j hj => by
    have hj : (j : Int) < (ρ3.1 60032).toInt := hj
    rw [t1, ek] at hj
    rw [hP, hQ]
    by_cases e : (ρ.1 60032).toInt.toNat = j
    · rw [if_pos e, e]
      have a1 := hp j (show (j : Int) < (ρ.1 60096).toInt by omega)
      have a2 := hd j (show (j : Int) < (ρ.1 60096).toInt by omega)
      have a3 := a1.symm.trans a2
      have z0 : (0 : Int32).toInt.toNat + j = j := Nat.zero_add j
      rw [show (sd X ρ (.int 0)).1.toInt.toNat + j = j from z0] at a3
      exact a3
    · rw [if_neg e]
      exact h3 j (show (j : Int) < (ρ.1 60032).toInt by omega))
  have xt : sc X ρ3 (112, .add (.arg 60096) (.add (.elem (.arg 64452) (.int 0)) (.add (.arg 60096) (.elem (.arg 64484) (.int 0)))), .sub (.int 24) (.arg 60096)) = true := (k112v (a := 64452) (b := 64484) (s := .arg 60096) (t := .arg 60096) (n := .sub (.int 24) (.arg 60096)) (by decide) (by decide) rfl rfl rfl).mpr (fun j hj => by
    have hj : (j : Int) < ((24 : Int32) - ρ3.1 60096).toInt := hj
    rw [eV] at hj
    show ρ3.2.2.1 64452 ((ρ3.1 60096).toInt.toNat + j) = ρ3.2.2.1 64484 ((ρ3.1 60096).toInt.toNat + j)
    rw [eV, hP, hQ, if_neg (by omega)]
    exact ht j hj)
  have xp : sc X ρ3 (112, .add (.arg 60000) (.add (.elem (.arg 1412) (.int 0)) (.add (.int 0) (.elem (.arg 64452) (.int 0)))), .arg 60096) = true := (k112v (a := 1412) (b := 64452) (s := .arg 60000) (t := .int 0) (n := .arg 60096) (by decide) (by decide) rfl rfl rfl).mpr (fun j hj => by
    have hj : (j : Int) < (ρ3.1 60096).toInt := hj
    rw [eV] at hj
    show ρ3.2.2.1 1412 ((ρ3.1 60000).toInt.toNat + j) = ρ3.2.2.1 64452 ((0 : Int32).toInt.toNat + j)
    rw [eA, eB, hP]
    exact hp j hj)
  have y1 : sc X ρ3 (2, .arg 60032, .int 0) = false := di_lf (x := ρ3.1 60032) (y := 0) (by rw [t1, ek]; show (0 : Int) ≤ _; omega)
  have y2 : sc X ρ3 (2, .arg 60096, .arg 60032) = false := di_lf (x := ρ3.1 60096) (y := ρ3.1 60032) (by rw [t1, ek, eV]; omega)
  exact hk_ ρ3 m1 ⟨m2.1, fcn (m2.2 _ (List.mem_cons_self)) (fcn (x3) (fcn (xt) (fcn (xp) (fcn (y1) (fcn (y2) (fun f hf => m2.2 f (List.mem_cons_of_mem _ hf)))))))⟩ m3 m4)))
noncomputable def q_kwt1Ee : sCut := ((fr 0 55 35 [] [], [fBot], 7), (fr 0 278 21 [(0, tr 219), (1, .arg 1308), (2, .int 110), (3, .int 1), (4, .arg 60032)] [], [fBot], 7), [zf98zzzcb_16, zf98zzzcb_17, zf98zzzcb_18, zf98zzzcb_19, zf98zzzcb_11, zf98zzzcb_0, zf98zzzcb_1, zf98zzzcb_97, zf98zzzcb_3, zf98zzzcb_4, zf98zzzcb_5, zf98zzzcb_6, zf98zzzcb_7, zf98zzzcb_8, zf98zzzcb_98], [])
theorem k_kwt1Ee : cbody kR [] (cpl1 zKWt c_kwt1q []) (cpl2 zKWt c_kwt1q []) (cleaf kR zKWt c_kwt1q []) 120 true true q_kwt1Ee.2.2.1 q_kwt1Ee.2.2.2 (cst zKWt c_kwt1q.2.2.1.1 q_kwt1Ee.1) (cst zKWt c_kwt1q.2.2.1.2 q_kwt1Ee.2.1) = true := by decide +kernel
theorem t_kwt1Ee {X : pX} {ρ0 : sR} (hv : vok X ρ0) (hk_ : CUTOK X kR zKWt c_kwt1q 7 ρ0 q_kwt1LL) : CUTOK X kR zKWt c_kwt1q 7 ρ0 q_kwt1Ee := CUT_run kR_x kR_0 (Cs := []) (fun C hC => by cases hC) c_kwt1q_f (Q := []) hv (fun q hq => by cases hq) 120 (b1 := true) (b2 := true) k_kwt1Ee
theorem t_kwt1E {X : pX} {ρ0 : sR} (hv : vok X ρ0) (hk_ : CUTOK X kR zKWt c_kwt1q 7 ρ0 q_kwt1LL) : CUTOK X kR zKWt c_kwt1q 7 ρ0 q_kwt1E := fun ρ k1 hF hI k4 => by
  have v0 : (0 : Int) ≤ (ρ.1 60096).toInt := ri_lf (x := ρ.1 60096) (y := 0) (hF.2 _ (List.mem_cons_of_mem _ (List.mem_cons_of_mem _ (List.mem_cons_of_mem _ (List.mem_cons_of_mem _ (List.mem_cons_of_mem _ (List.mem_cons_of_mem _ (List.mem_cons_of_mem _ (List.mem_cons_self)))))))))
  have v1 : (ρ.1 60096).toInt ≤ 24 := ri_lf (x := 24) (y := ρ.1 60096) (hF.2 _ (List.mem_cons_of_mem _ (List.mem_cons_of_mem _ (List.mem_cons_of_mem _ (List.mem_cons_of_mem _ (List.mem_cons_of_mem _ (List.mem_cons_of_mem _ (List.mem_cons_of_mem _ (List.mem_cons_of_mem _ (List.mem_cons_self))))))))))
  have c0 : (0 : Int) ≤ (ρ.1 60032).toInt := ri_lf (x := ρ.1 60032) (y := 0) (hF.2 _ (List.mem_cons_of_mem _ (List.mem_cons_of_mem _ (List.mem_cons_of_mem _ (List.mem_cons_of_mem _ (List.mem_cons_self))))))
  have c1 : (ρ.1 60032).toInt ≤ (ρ.1 60096).toInt := ri_lf (x := ρ.1 60096) (y := ρ.1 60032) (hF.2 _ (List.mem_cons_of_mem _ (List.mem_cons_of_mem _ (List.mem_cons_of_mem _ (List.mem_cons_of_mem _ (List.mem_cons_of_mem _ (List.mem_cons_self)))))))
  have ek : (ρ.1 60032 + 1).toInt = (ρ.1 60032).toInt + 1 := s_add (y := 1) (by show _ ≤ _ + (1 : Int); omega) (by show _ + (1 : Int) ≤ _; omega)
  have en : ((24 : Int32) - ρ.1 60096).toInt = 24 - (ρ.1 60096).toInt := i_of (i_sb (show (24 : Int32) = Int32.ofInt 24 from rfl) (i_s _)) (by omega) (by omega)
  have eD : ρ.1 19328 = ρ.1 60096 := of_decide_eq_true (hF.2 _ (List.mem_cons_of_mem _ (List.mem_cons_of_mem _ (List.mem_cons_of_mem _ (List.mem_cons_of_mem _ (List.mem_cons_of_mem _ (List.mem_cons_of_mem _ (List.mem_cons_self))))))))
  have hgg : ρ.1 60096 - ρ.1 60032 = ρ.1 65024 := of_decide_eq_true (hF.2 _ (List.mem_cons_self))
  have em : (ρ.1 60096 - ρ.1 60032).toInt = (ρ.1 60096).toInt - (ρ.1 60032).toInt := i_of (by rw [i_sb (i_s (ρ.1 60096)) (i_s (ρ.1 60032))]) (by omega) (by omega)
  have e1 : (ρ.1 60096 - (ρ.1 60032 + 1)).toInt = (ρ.1 60096).toInt - (ρ.1 60032).toInt - 1 := i_of (n := (ρ.1 60096).toInt - (ρ.1 60032).toInt - 1) (by rw [i_sb (i_s (ρ.1 60096)) (i_s (ρ.1 60032 + 1)), ek]; congr 1; omega) (by omega) (by omega)
  by_cases hl : (ρ.1 60032).toInt < (ρ.1 60096).toInt
  · exact t_kwt1En hv hk_ ρ k1 ⟨hF.1, fcn (di_lt (x := ρ.1 60032) (y := ρ.1 60096) hl) (fcn (di_lt (x := ρ.1 60032) (y := ρ.1 19328) (by rw [eD]; exact hl)) (fcn (di_lf (x := 23) (y := ρ.1 60032) (show _ ≤ (23 : Int) by omega)) (fcn (di_lt (x := ρ.1 60096 - (ρ.1 60032 + 1)) (y := ρ.1 65024) (by rw [← hgg, em, e1]; omega)) (hF.2))))⟩ hI k4
  have h3 := (k103 (by decide) (by decide) rfl).mp (hF.2 _ (List.mem_cons_of_mem _ (List.mem_cons_self)))
  have ht := (k112v (a := 64452) (b := 64484) (s := .arg 60096) (t := .arg 60096) (n := .sub (.int 24) (.arg 60096)) (by decide) (by decide) rfl rfl rfl).mp (hF.2 _ (List.mem_cons_of_mem _ (List.mem_cons_of_mem _ (List.mem_cons_self))))
  have x3 : sc X ρ (103, .add (.elem (.arg 64452) (.int 0)) (.elem (.arg 64484) (.int 0)), .int 24) = true := (k103 (by decide) (by decide) rfl).mpr (fun j hj => by
    have hj : (j : Int) < 24 := hj
    by_cases e : (j : Int) < (ρ.1 60032).toInt
    · exact h3 j e
    · have := ht (j - (ρ.1 60096).toInt.toNat) (show ((j - (ρ.1 60096).toInt.toNat : Nat) : Int) < ((24 : Int32) - ρ.1 60096).toInt by rw [en]; omega)
      have z : (ρ.1 60096).toInt.toNat + (j - (ρ.1 60096).toInt.toNat) = j := by omega
      have this : ρ.2.2.1 64452 ((ρ.1 60096).toInt.toNat + (j - (ρ.1 60096).toInt.toNat)) = ρ.2.2.1 64484 ((ρ.1 60096).toInt.toNat + (j - (ρ.1 60096).toInt.toNat)) := this
      rw [z] at this
      exact this)
  exact t_kwt1Ee hv hk_ ρ k1 ⟨hF.1, fcn (di_lf (x := ρ.1 60032) (y := ρ.1 19328) (by rw [eD]; omega)) (fcn (di_lf (x := ρ.1 19328) (y := 0) (by rw [eD]; exact v0)) (fcn (di_lf (x := 24) (y := ρ.1 19328) (by rw [eD]; exact v1)) (fcn (x3) (hF.2))))⟩ hI k4
theorem t_kwt1L {X : pX} {ρ0 : sR} (hv : vok X ρ0) : CUTOK X kR zKWt c_kwt1q 7 ρ0 q_kwt1L := CUT_again (g := 65024) (mt := .sub (.arg 60096) (.arg 60032)) kR_x (by decide +kernel) (by decide) (by decide) (by decide) (by decide +kernel) (by decide +kernel) (by decide +kernel) (by decide +kernel) (by decide +kernel) (fun ρ0 hv hk => t_kwt1E hv hk) ρ0 hv
theorem kwt1_go {X : pX} {ρ0 ρ ρ3 : sR} (hv : vok X ρ0) (k2 : fall X ρ c_kwt1q.2.2.2.1) (m1 : kok X ρ3 kR) (m2 : fok X ρ3 q_kwt1ST.2.2.1) (m3 : iok X ρ3 []) (m4 : agrM 65536 c_kwt1q.2.2.2.2.1.1 c_kwt1q.2.2.2.2.1.2 ρ3 ρ0) (k4 : agrM 65536 c_kwt1q.2.2.2.2.1.1 c_kwt1q.2.2.2.2.1.2 ρ ρ0) (t1 : ρ3.1 60032 = 0) {m : Nat} (hm : (ρ.1 60096).toInt = m) (hP : ∀ j, bden X ρ3 (.arg 64452) j = aden X ρ (.arg 64452) (cpW 1412 60000 m) j) (hQ : ∀ j, bden X ρ3 (.arg 64484) j = bden X ρ (.arg 64484) j) : AT X zKWt c_kwt1q 7 ρ0 ρ3 q_kwt1ST := by
  have v0 : (0 : Int) ≤ (ρ.1 60096).toInt := ri_lf (x := ρ.1 60096) (y := 0) (k2 _ (List.mem_cons_of_mem _ (List.mem_cons_of_mem _ (List.mem_cons_of_mem _ (List.mem_cons_self)))))
  have v1 : (ρ.1 60096).toInt ≤ 24 := ri_lf (x := 24) (y := ρ.1 60096) (k2 _ (List.mem_cons_of_mem _ (List.mem_cons_of_mem _ (List.mem_cons_of_mem _ (List.mem_cons_of_mem _ (List.mem_cons_self))))))
  have a0 : (0 : Int) ≤ (ρ.1 60000).toInt := ri_lf (x := ρ.1 60000) (y := 0) (k2 _ (List.mem_cons_self))
  have a1 : (ρ.1 60000).toInt ≤ 1024 := ri_lf (x := 1024) (y := ρ.1 60000) (k2 _ (List.mem_cons_of_mem _ (List.mem_cons_of_mem _ (List.mem_cons_of_mem _ (List.mem_cons_of_mem _ (List.mem_cons_of_mem _ (List.mem_cons_self)))))))
  have eV : ρ3.1 60096 = ρ.1 60096 := (m4.1 60096 (by decide) (by decide)).1.trans (k4.1 60096 (by decide) (by decide)).1.symm
  have eA : ρ3.1 60000 = ρ.1 60000 := (m4.1 60000 (by decide) (by decide)).1.trans (k4.1 60000 (by decide) (by decide)).1.symm
  have eB : ρ3.2.2.1 1412 = ρ.2.2.1 1412 := (m4.2 1412 (by decide) (by decide)).1.trans (k4.2 1412 (by decide) (by decide)).1.symm
  have hP : ∀ j, ρ3.2.2.1 64452 j = if j < m then ρ.2.2.1 1412 ((ρ.1 60000).toInt.toNat + j) else ρ.2.2.1 64452 j := fun j => by
    have h := hP j
    rw [cp_v (by decide) (by decide) a0 (by omega) m (by omega)] at h
    exact Value.int.inj h
  have hQ : ∀ j, ρ3.2.2.1 64484 j = ρ.2.2.1 64484 j := fun j => Value.int.inj (hQ j)
  have h3 := (k103 (by decide) (by decide) rfl).mp (k2 _ (List.mem_cons_of_mem _ (List.mem_cons_of_mem _ (List.mem_cons_of_mem _ (List.mem_cons_of_mem _ (List.mem_cons_of_mem _ (List.mem_cons_of_mem _ (List.mem_cons_of_mem _ (List.mem_cons_self)))))))))
  have en : ((24 : Int32) - ρ.1 60096).toInt = 24 - (ρ.1 60096).toInt := i_of (i_sb (show (24 : Int32) = Int32.ofInt 24 from rfl) (i_s _)) (by omega) (by omega)
  have x3 : sc X ρ3 (103, .add (.elem (.arg 64452) (.int 0)) (.elem (.arg 64484) (.int 0)), .arg 60032) = true := (k103 (by decide) (by decide) rfl).mpr (fun j hj => by
    have hj : (j : Int) < (ρ3.1 60032).toInt := hj
    rw [t1] at hj
    have z0 : (0 : Int32).toInt = 0 := rfl
    omega)
  have xt : sc X ρ3 (112, .add (.arg 60096) (.add (.elem (.arg 64452) (.int 0)) (.add (.arg 60096) (.elem (.arg 64484) (.int 0)))), .sub (.int 24) (.arg 60096)) = true := (k112v (a := 64452) (b := 64484) (s := .arg 60096) (t := .arg 60096) (n := .sub (.int 24) (.arg 60096)) (by decide) (by decide) rfl rfl rfl).mpr (fun j hj => by
    have hj : (j : Int) < ((24 : Int32) - ρ3.1 60096).toInt := hj
    rw [eV, en] at hj
    show ρ3.2.2.1 64452 ((ρ3.1 60096).toInt.toNat + j) = ρ3.2.2.1 64484 ((ρ3.1 60096).toInt.toNat + j)
    rw [eV, hP, hQ, if_neg (by omega)]
    exact h3 _ (show (((ρ.1 60096).toInt.toNat + j : Nat) : Int) < 24 by omega))
  have xp : sc X ρ3 (112, .add (.arg 60000) (.add (.elem (.arg 1412) (.int 0)) (.add (.int 0) (.elem (.arg 64452) (.int 0)))), .arg 60096) = true := (k112v (a := 1412) (b := 64452) (s := .arg 60000) (t := .int 0) (n := .arg 60096) (by decide) (by decide) rfl rfl rfl).mpr (fun j hj => by
    have hj : (j : Int) < (ρ3.1 60096).toInt := hj
    rw [eV] at hj
    show ρ3.2.2.1 1412 ((ρ3.1 60000).toInt.toNat + j) = ρ3.2.2.1 64452 ((0 : Int32).toInt.toNat + j)
    have z0 : (0 : Int32).toInt.toNat + j = j := Nat.zero_add j
    rw [z0, eA, eB, hP, if_pos (by omega)])
  have y1 : sc X ρ3 (2, .arg 60032, .int 0) = false := di_lf (x := ρ3.1 60032) (y := 0) (by rw [t1]; exact Int.le_refl _)
  have y2 : sc X ρ3 (2, .arg 60096, .arg 60032) = false := di_lf (x := ρ3.1 60096) (y := ρ3.1 60032) (by rw [t1, eV]; exact v0)
  exact AT_of (q := q_kwt1L) rfl rfl (t_kwt1L hv ρ3 m1 ⟨m2.1, fcn x3 (fcn xt (fcn xp (fcn y1 (fcn y2 m2.2))))⟩ m3 m4)
noncomputable def q_kwt1v0 : sCut := ((fr 0 55 0 [(0, tr 42), (1, .int 110), (2, tr 78), (3, .arg 60000), (4, .arg 60096)] [], [fBot], 7), (fr 0 278 0 [(0, tr 219), (1, .arg 1308), (2, .int 110)] [], [fBot], 7), [zf98zzzcb_20, zf98zzzcb_21, zf98zzzcb_22, zf98zzzcb_23, zf98zzzcb_24, zf98zzzcb_5, zf98zzzcb_6, zf98zzzcb_7, zf98zzzcb_22, zf98zzzcb_98, zf98zzzcb_19], [])
noncomputable def w_kwt1v0 : List (sCut × List (Nat × sT) × List (Nat × sT × List (sT × sT))) := [(q_kwt1ST, [(60032, .int 0)], [(64452, .arg 64452, cpW 1412 60000 0), (64484, .arg 64484, [])])]
theorem k_kwt1v0 : cbody kR [] (cpl1 zKWt c_kwt1q [q_kwt1ST]) (cpl2 zKWt c_kwt1q [q_kwt1ST]) (cleafB kR zKWt c_kwt1q w_kwt1v0) 160 true true q_kwt1v0.2.2.1 q_kwt1v0.2.2.2 (cst zKWt c_kwt1q.2.2.1.1 q_kwt1v0.1) (cst zKWt c_kwt1q.2.2.1.2 q_kwt1v0.2.1) = true := by decide +kernel
theorem t_kwt1v0 {X : pX} {ρ0 : sR} (hv : vok X ρ0) : CUTOK X kR zKWt c_kwt1q 7 ρ0 q_kwt1v0 := CUTOK_AT (fun ρ k1 hF hI k4 => AT_of (q := q_kwt1v0) rfl rfl (SEM_runB kR_x kR_0 (Cs := []) (fun C hC => by cases hC) c_kwt1q_f (Q := w_kwt1v0) hv 160 (b1 := true) (b2 := true) k_kwt1v0 k1 hF hI k4 (fun p hp ρ3 m1 m2 m3 m4 m5 m6 => by
  rw [List.mem_singleton.mp hp] at m2 m3 m5 m6 ⊢
  exact kwt1_go hv (fun f hf => hF.2 f (List.mem_cons_of_mem _ (List.mem_cons_of_mem _ (List.mem_cons_of_mem _ hf)))) m1 m2 m3 m4 k4 (congrArg Prod.fst (m5 _ (List.mem_cons_self))) (m := 0) (by rw [show ρ.1 60096 = 0 from of_decide_eq_true (hF.2 _ (List.mem_cons_self))]; rfl) (fun j => m6 (64452, .arg 64452, cpW 1412 60000 0) (List.mem_cons_self) j) (fun j => m6 (64484, .arg 64484, []) (List.mem_cons_of_mem _ (List.mem_cons_self)) j))))
noncomputable def q_kwt1v1 : sCut := ((fr 0 55 0 [(0, tr 42), (1, .int 110), (2, tr 78), (3, .arg 60000), (4, .arg 60096)] [], [fBot], 7), (fr 0 278 0 [(0, tr 219), (1, .arg 1308), (2, .int 110)] [], [fBot], 7), [zf98zzzcb_25, zf98zzzcb_26, zf98zzzcb_27, zf98zzzcb_23, zf98zzzcb_24, zf98zzzcb_5, zf98zzzcb_6, zf98zzzcb_7, zf98zzzcb_22, zf98zzzcb_98, zf98zzzcb_19], [])
noncomputable def w_kwt1v1 : List (sCut × List (Nat × sT) × List (Nat × sT × List (sT × sT))) := [(q_kwt1ST, [(60032, .int 0)], [(64452, .arg 64452, cpW 1412 60000 1), (64484, .arg 64484, [])])]
theorem k_kwt1v1 : cbody kR [] (cpl1 zKWt c_kwt1q [q_kwt1ST]) (cpl2 zKWt c_kwt1q [q_kwt1ST]) (cleafB kR zKWt c_kwt1q w_kwt1v1) 160 true true q_kwt1v1.2.2.1 q_kwt1v1.2.2.2 (cst zKWt c_kwt1q.2.2.1.1 q_kwt1v1.1) (cst zKWt c_kwt1q.2.2.1.2 q_kwt1v1.2.1) = true := by decide +kernel
theorem t_kwt1v1 {X : pX} {ρ0 : sR} (hv : vok X ρ0) : CUTOK X kR zKWt c_kwt1q 7 ρ0 q_kwt1v1 := CUTOK_AT (fun ρ k1 hF hI k4 => AT_of (q := q_kwt1v1) rfl rfl (SEM_runB kR_x kR_0 (Cs := []) (fun C hC => by cases hC) c_kwt1q_f (Q := w_kwt1v1) hv 160 (b1 := true) (b2 := true) k_kwt1v1 k1 hF hI k4 (fun p hp ρ3 m1 m2 m3 m4 m5 m6 => by
  rw [List.mem_singleton.mp hp] at m2 m3 m5 m6 ⊢
  exact kwt1_go hv (fun f hf => hF.2 f (List.mem_cons_of_mem _ (List.mem_cons_of_mem _ (List.mem_cons_of_mem _ hf)))) m1 m2 m3 m4 k4 (congrArg Prod.fst (m5 _ (List.mem_cons_self))) (m := 1) (by rw [show ρ.1 60096 = 1 from of_decide_eq_true (hF.2 _ (List.mem_cons_self))]; rfl) (fun j => m6 (64452, .arg 64452, cpW 1412 60000 1) (List.mem_cons_self) j) (fun j => m6 (64484, .arg 64484, []) (List.mem_cons_of_mem _ (List.mem_cons_self)) j))))
noncomputable def q_kwt1v2 : sCut := ((fr 0 55 0 [(0, tr 42), (1, .int 110), (2, tr 78), (3, .arg 60000), (4, .arg 60096)] [], [fBot], 7), (fr 0 278 0 [(0, tr 219), (1, .arg 1308), (2, .int 110)] [], [fBot], 7), [zf98zzzcb_28, zf98zzzcb_29, zf98zzzcb_30, zf98zzzcb_23, zf98zzzcb_24, zf98zzzcb_5, zf98zzzcb_6, zf98zzzcb_7, zf98zzzcb_22, zf98zzzcb_98, zf98zzzcb_19], [])
noncomputable def w_kwt1v2 : List (sCut × List (Nat × sT) × List (Nat × sT × List (sT × sT))) := [(q_kwt1ST, [(60032, .int 0)], [(64452, .arg 64452, cpW 1412 60000 2), (64484, .arg 64484, [])])]
theorem k_kwt1v2 : cbody kR [] (cpl1 zKWt c_kwt1q [q_kwt1ST]) (cpl2 zKWt c_kwt1q [q_kwt1ST]) (cleafB kR zKWt c_kwt1q w_kwt1v2) 160 true true q_kwt1v2.2.2.1 q_kwt1v2.2.2.2 (cst zKWt c_kwt1q.2.2.1.1 q_kwt1v2.1) (cst zKWt c_kwt1q.2.2.1.2 q_kwt1v2.2.1) = true := by decide +kernel
theorem t_kwt1v2 {X : pX} {ρ0 : sR} (hv : vok X ρ0) : CUTOK X kR zKWt c_kwt1q 7 ρ0 q_kwt1v2 := CUTOK_AT (fun ρ k1 hF hI k4 => AT_of (q := q_kwt1v2) rfl rfl (SEM_runB kR_x kR_0 (Cs := []) (fun C hC => by cases hC) c_kwt1q_f (Q := w_kwt1v2) hv 160 (b1 := true) (b2 := true) k_kwt1v2 k1 hF hI k4 (fun p hp ρ3 m1 m2 m3 m4 m5 m6 => by
  rw [List.mem_singleton.mp hp] at m2 m3 m5 m6 ⊢
  exact kwt1_go hv (fun f hf => hF.2 f (List.mem_cons_of_mem _ (List.mem_cons_of_mem _ (List.mem_cons_of_mem _ hf)))) m1 m2 m3 m4 k4 (congrArg Prod.fst (m5 _ (List.mem_cons_self))) (m := 2) (by rw [show ρ.1 60096 = 2 from of_decide_eq_true (hF.2 _ (List.mem_cons_self))]; rfl) (fun j => m6 (64452, .arg 64452, cpW 1412 60000 2) (List.mem_cons_self) j) (fun j => m6 (64484, .arg 64484, []) (List.mem_cons_of_mem _ (List.mem_cons_self)) j))))
noncomputable def q_kwt1v3 : sCut := ((fr 0 55 0 [(0, tr 42), (1, .int 110), (2, tr 78), (3, .arg 60000), (4, .arg 60096)] [], [fBot], 7), (fr 0 278 0 [(0, tr 219), (1, .arg 1308), (2, .int 110)] [], [fBot], 7), [zf98zzzcb_31, zf98zzzcb_32, zf98zzzcb_33, zf98zzzcb_23, zf98zzzcb_24, zf98zzzcb_5, zf98zzzcb_6, zf98zzzcb_7, zf98zzzcb_22, zf98zzzcb_98, zf98zzzcb_19], [])
noncomputable def w_kwt1v3 : List (sCut × List (Nat × sT) × List (Nat × sT × List (sT × sT))) := [(q_kwt1ST, [(60032, .int 0)], [(64452, .arg 64452, cpW 1412 60000 3), (64484, .arg 64484, [])])]
theorem k_kwt1v3 : cbody kR [] (cpl1 zKWt c_kwt1q [q_kwt1ST]) (cpl2 zKWt c_kwt1q [q_kwt1ST]) (cleafB kR zKWt c_kwt1q w_kwt1v3) 160 true true q_kwt1v3.2.2.1 q_kwt1v3.2.2.2 (cst zKWt c_kwt1q.2.2.1.1 q_kwt1v3.1) (cst zKWt c_kwt1q.2.2.1.2 q_kwt1v3.2.1) = true := by decide +kernel
theorem t_kwt1v3 {X : pX} {ρ0 : sR} (hv : vok X ρ0) : CUTOK X kR zKWt c_kwt1q 7 ρ0 q_kwt1v3 := CUTOK_AT (fun ρ k1 hF hI k4 => AT_of (q := q_kwt1v3) rfl rfl (SEM_runB kR_x kR_0 (Cs := []) (fun C hC => by cases hC) c_kwt1q_f (Q := w_kwt1v3) hv 160 (b1 := true) (b2 := true) k_kwt1v3 k1 hF hI k4 (fun p hp ρ3 m1 m2 m3 m4 m5 m6 => by
  rw [List.mem_singleton.mp hp] at m2 m3 m5 m6 ⊢
  exact kwt1_go hv (fun f hf => hF.2 f (List.mem_cons_of_mem _ (List.mem_cons_of_mem _ (List.mem_cons_of_mem _ hf)))) m1 m2 m3 m4 k4 (congrArg Prod.fst (m5 _ (List.mem_cons_self))) (m := 3) (by rw [show ρ.1 60096 = 3 from of_decide_eq_true (hF.2 _ (List.mem_cons_self))]; rfl) (fun j => m6 (64452, .arg 64452, cpW 1412 60000 3) (List.mem_cons_self) j) (fun j => m6 (64484, .arg 64484, []) (List.mem_cons_of_mem _ (List.mem_cons_self)) j))))
noncomputable def q_kwt1v4 : sCut := ((fr 0 55 0 [(0, tr 42), (1, .int 110), (2, tr 78), (3, .arg 60000), (4, .arg 60096)] [], [fBot], 7), (fr 0 278 0 [(0, tr 219), (1, .arg 1308), (2, .int 110)] [], [fBot], 7), [zf98zzzcb_34, zf98zzzcb_35, zf98zzzcb_36, zf98zzzcb_23, zf98zzzcb_24, zf98zzzcb_5, zf98zzzcb_6, zf98zzzcb_7, zf98zzzcb_22, zf98zzzcb_98, zf98zzzcb_19], [])
noncomputable def w_kwt1v4 : List (sCut × List (Nat × sT) × List (Nat × sT × List (sT × sT))) := [(q_kwt1ST, [(60032, .int 0)], [(64452, .arg 64452, cpW 1412 60000 4), (64484, .arg 64484, [])])]
theorem k_kwt1v4 : cbody kR [] (cpl1 zKWt c_kwt1q [q_kwt1ST]) (cpl2 zKWt c_kwt1q [q_kwt1ST]) (cleafB kR zKWt c_kwt1q w_kwt1v4) 160 true true q_kwt1v4.2.2.1 q_kwt1v4.2.2.2 (cst zKWt c_kwt1q.2.2.1.1 q_kwt1v4.1) (cst zKWt c_kwt1q.2.2.1.2 q_kwt1v4.2.1) = true := by decide +kernel
theorem t_kwt1v4 {X : pX} {ρ0 : sR} (hv : vok X ρ0) : CUTOK X kR zKWt c_kwt1q 7 ρ0 q_kwt1v4 := CUTOK_AT (fun ρ k1 hF hI k4 => AT_of (q := q_kwt1v4) rfl rfl (SEM_runB kR_x kR_0 (Cs := []) (fun C hC => by cases hC) c_kwt1q_f (Q := w_kwt1v4) hv 160 (b1 := true) (b2 := true) k_kwt1v4 k1 hF hI k4 (fun p hp ρ3 m1 m2 m3 m4 m5 m6 => by
  rw [List.mem_singleton.mp hp] at m2 m3 m5 m6 ⊢
  exact kwt1_go hv (fun f hf => hF.2 f (List.mem_cons_of_mem _ (List.mem_cons_of_mem _ (List.mem_cons_of_mem _ hf)))) m1 m2 m3 m4 k4 (congrArg Prod.fst (m5 _ (List.mem_cons_self))) (m := 4) (by rw [show ρ.1 60096 = 4 from of_decide_eq_true (hF.2 _ (List.mem_cons_self))]; rfl) (fun j => m6 (64452, .arg 64452, cpW 1412 60000 4) (List.mem_cons_self) j) (fun j => m6 (64484, .arg 64484, []) (List.mem_cons_of_mem _ (List.mem_cons_self)) j))))
noncomputable def q_kwt1v5 : sCut := ((fr 0 55 0 [(0, tr 42), (1, .int 110), (2, tr 78), (3, .arg 60000), (4, .arg 60096)] [], [fBot], 7), (fr 0 278 0 [(0, tr 219), (1, .arg 1308), (2, .int 110)] [], [fBot], 7), [zf98zzzcb_37, zf98zzzcb_38, zf98zzzcb_39, zf98zzzcb_23, zf98zzzcb_24, zf98zzzcb_5, zf98zzzcb_6, zf98zzzcb_7, zf98zzzcb_22, zf98zzzcb_98, zf98zzzcb_19], [])
noncomputable def w_kwt1v5 : List (sCut × List (Nat × sT) × List (Nat × sT × List (sT × sT))) := [(q_kwt1ST, [(60032, .int 0)], [(64452, .arg 64452, cpW 1412 60000 5), (64484, .arg 64484, [])])]
theorem k_kwt1v5 : cbody kR [] (cpl1 zKWt c_kwt1q [q_kwt1ST]) (cpl2 zKWt c_kwt1q [q_kwt1ST]) (cleafB kR zKWt c_kwt1q w_kwt1v5) 160 true true q_kwt1v5.2.2.1 q_kwt1v5.2.2.2 (cst zKWt c_kwt1q.2.2.1.1 q_kwt1v5.1) (cst zKWt c_kwt1q.2.2.1.2 q_kwt1v5.2.1) = true := by decide +kernel
theorem t_kwt1v5 {X : pX} {ρ0 : sR} (hv : vok X ρ0) : CUTOK X kR zKWt c_kwt1q 7 ρ0 q_kwt1v5 := CUTOK_AT (fun ρ k1 hF hI k4 => AT_of (q := q_kwt1v5) rfl rfl (SEM_runB kR_x kR_0 (Cs := []) (fun C hC => by cases hC) c_kwt1q_f (Q := w_kwt1v5) hv 160 (b1 := true) (b2 := true) k_kwt1v5 k1 hF hI k4 (fun p hp ρ3 m1 m2 m3 m4 m5 m6 => by
  rw [List.mem_singleton.mp hp] at m2 m3 m5 m6 ⊢
  exact kwt1_go hv (fun f hf => hF.2 f (List.mem_cons_of_mem _ (List.mem_cons_of_mem _ (List.mem_cons_of_mem _ hf)))) m1 m2 m3 m4 k4 (congrArg Prod.fst (m5 _ (List.mem_cons_self))) (m := 5) (by rw [show ρ.1 60096 = 5 from of_decide_eq_true (hF.2 _ (List.mem_cons_self))]; rfl) (fun j => m6 (64452, .arg 64452, cpW 1412 60000 5) (List.mem_cons_self) j) (fun j => m6 (64484, .arg 64484, []) (List.mem_cons_of_mem _ (List.mem_cons_self)) j))))
noncomputable def q_kwt1v6 : sCut := ((fr 0 55 0 [(0, tr 42), (1, .int 110), (2, tr 78), (3, .arg 60000), (4, .arg 60096)] [], [fBot], 7), (fr 0 278 0 [(0, tr 219), (1, .arg 1308), (2, .int 110)] [], [fBot], 7), [zf98zzzcb_40, zf98zzzcb_41, zf98zzzcb_42, zf98zzzcb_23, zf98zzzcb_24, zf98zzzcb_5, zf98zzzcb_6, zf98zzzcb_7, zf98zzzcb_22, zf98zzzcb_98, zf98zzzcb_19], [])
noncomputable def w_kwt1v6 : List (sCut × List (Nat × sT) × List (Nat × sT × List (sT × sT))) := [(q_kwt1ST, [(60032, .int 0)], [(64452, .arg 64452, cpW 1412 60000 6), (64484, .arg 64484, [])])]
theorem k_kwt1v6 : cbody kR [] (cpl1 zKWt c_kwt1q [q_kwt1ST]) (cpl2 zKWt c_kwt1q [q_kwt1ST]) (cleafB kR zKWt c_kwt1q w_kwt1v6) 160 true true q_kwt1v6.2.2.1 q_kwt1v6.2.2.2 (cst zKWt c_kwt1q.2.2.1.1 q_kwt1v6.1) (cst zKWt c_kwt1q.2.2.1.2 q_kwt1v6.2.1) = true := by decide +kernel
theorem t_kwt1v6 {X : pX} {ρ0 : sR} (hv : vok X ρ0) : CUTOK X kR zKWt c_kwt1q 7 ρ0 q_kwt1v6 := CUTOK_AT (fun ρ k1 hF hI k4 => AT_of (q := q_kwt1v6) rfl rfl (SEM_runB kR_x kR_0 (Cs := []) (fun C hC => by cases hC) c_kwt1q_f (Q := w_kwt1v6) hv 160 (b1 := true) (b2 := true) k_kwt1v6 k1 hF hI k4 (fun p hp ρ3 m1 m2 m3 m4 m5 m6 => by
  rw [List.mem_singleton.mp hp] at m2 m3 m5 m6 ⊢
  exact kwt1_go hv (fun f hf => hF.2 f (List.mem_cons_of_mem _ (List.mem_cons_of_mem _ (List.mem_cons_of_mem _ hf)))) m1 m2 m3 m4 k4 (congrArg Prod.fst (m5 _ (List.mem_cons_self))) (m := 6) (by rw [show ρ.1 60096 = 6 from of_decide_eq_true (hF.2 _ (List.mem_cons_self))]; rfl) (fun j => m6 (64452, .arg 64452, cpW 1412 60000 6) (List.mem_cons_self) j) (fun j => m6 (64484, .arg 64484, []) (List.mem_cons_of_mem _ (List.mem_cons_self)) j))))
noncomputable def q_kwt1v7 : sCut := ((fr 0 55 0 [(0, tr 42), (1, .int 110), (2, tr 78), (3, .arg 60000), (4, .arg 60096)] [], [fBot], 7), (fr 0 278 0 [(0, tr 219), (1, .arg 1308), (2, .int 110)] [], [fBot], 7), [zf98zzzcb_43, zf98zzzcb_44, zf98zzzcb_45, zf98zzzcb_23, zf98zzzcb_24, zf98zzzcb_5, zf98zzzcb_6, zf98zzzcb_7, zf98zzzcb_22, zf98zzzcb_98, zf98zzzcb_19], [])
noncomputable def w_kwt1v7 : List (sCut × List (Nat × sT) × List (Nat × sT × List (sT × sT))) := [(q_kwt1ST, [(60032, .int 0)], [(64452, .arg 64452, cpW 1412 60000 7), (64484, .arg 64484, [])])]
theorem k_kwt1v7 : cbody kR [] (cpl1 zKWt c_kwt1q [q_kwt1ST]) (cpl2 zKWt c_kwt1q [q_kwt1ST]) (cleafB kR zKWt c_kwt1q w_kwt1v7) 160 true true q_kwt1v7.2.2.1 q_kwt1v7.2.2.2 (cst zKWt c_kwt1q.2.2.1.1 q_kwt1v7.1) (cst zKWt c_kwt1q.2.2.1.2 q_kwt1v7.2.1) = true := by decide +kernel
theorem t_kwt1v7 {X : pX} {ρ0 : sR} (hv : vok X ρ0) : CUTOK X kR zKWt c_kwt1q 7 ρ0 q_kwt1v7 := CUTOK_AT (fun ρ k1 hF hI k4 => AT_of (q := q_kwt1v7) rfl rfl (SEM_runB kR_x kR_0 (Cs := []) (fun C hC => by cases hC) c_kwt1q_f (Q := w_kwt1v7) hv 160 (b1 := true) (b2 := true) k_kwt1v7 k1 hF hI k4 (fun p hp ρ3 m1 m2 m3 m4 m5 m6 => by
  rw [List.mem_singleton.mp hp] at m2 m3 m5 m6 ⊢
  exact kwt1_go hv (fun f hf => hF.2 f (List.mem_cons_of_mem _ (List.mem_cons_of_mem _ (List.mem_cons_of_mem _ hf)))) m1 m2 m3 m4 k4 (congrArg Prod.fst (m5 _ (List.mem_cons_self))) (m := 7) (by rw [show ρ.1 60096 = 7 from of_decide_eq_true (hF.2 _ (List.mem_cons_self))]; rfl) (fun j => m6 (64452, .arg 64452, cpW 1412 60000 7) (List.mem_cons_self) j) (fun j => m6 (64484, .arg 64484, []) (List.mem_cons_of_mem _ (List.mem_cons_self)) j))))
noncomputable def q_kwt1v8 : sCut := ((fr 0 55 0 [(0, tr 42), (1, .int 110), (2, tr 78), (3, .arg 60000), (4, .arg 60096)] [], [fBot], 7), (fr 0 278 0 [(0, tr 219), (1, .arg 1308), (2, .int 110)] [], [fBot], 7), [zf98zzzcb_46, zf98zzzcb_47, zf98zzzcb_48, zf98zzzcb_23, zf98zzzcb_24, zf98zzzcb_5, zf98zzzcb_6, zf98zzzcb_7, zf98zzzcb_22, zf98zzzcb_98, zf98zzzcb_19], [])
noncomputable def w_kwt1v8 : List (sCut × List (Nat × sT) × List (Nat × sT × List (sT × sT))) := [(q_kwt1ST, [(60032, .int 0)], [(64452, .arg 64452, cpW 1412 60000 8), (64484, .arg 64484, [])])]
theorem k_kwt1v8 : cbody kR [] (cpl1 zKWt c_kwt1q [q_kwt1ST]) (cpl2 zKWt c_kwt1q [q_kwt1ST]) (cleafB kR zKWt c_kwt1q w_kwt1v8) 160 true true q_kwt1v8.2.2.1 q_kwt1v8.2.2.2 (cst zKWt c_kwt1q.2.2.1.1 q_kwt1v8.1) (cst zKWt c_kwt1q.2.2.1.2 q_kwt1v8.2.1) = true := by decide +kernel
theorem t_kwt1v8 {X : pX} {ρ0 : sR} (hv : vok X ρ0) : CUTOK X kR zKWt c_kwt1q 7 ρ0 q_kwt1v8 := CUTOK_AT (fun ρ k1 hF hI k4 => AT_of (q := q_kwt1v8) rfl rfl (SEM_runB kR_x kR_0 (Cs := []) (fun C hC => by cases hC) c_kwt1q_f (Q := w_kwt1v8) hv 160 (b1 := true) (b2 := true) k_kwt1v8 k1 hF hI k4 (fun p hp ρ3 m1 m2 m3 m4 m5 m6 => by
  rw [List.mem_singleton.mp hp] at m2 m3 m5 m6 ⊢
  exact kwt1_go hv (fun f hf => hF.2 f (List.mem_cons_of_mem _ (List.mem_cons_of_mem _ (List.mem_cons_of_mem _ hf)))) m1 m2 m3 m4 k4 (congrArg Prod.fst (m5 _ (List.mem_cons_self))) (m := 8) (by rw [show ρ.1 60096 = 8 from of_decide_eq_true (hF.2 _ (List.mem_cons_self))]; rfl) (fun j => m6 (64452, .arg 64452, cpW 1412 60000 8) (List.mem_cons_self) j) (fun j => m6 (64484, .arg 64484, []) (List.mem_cons_of_mem _ (List.mem_cons_self)) j))))
noncomputable def q_kwt1v9 : sCut := ((fr 0 55 0 [(0, tr 42), (1, .int 110), (2, tr 78), (3, .arg 60000), (4, .arg 60096)] [], [fBot], 7), (fr 0 278 0 [(0, tr 219), (1, .arg 1308), (2, .int 110)] [], [fBot], 7), [zf98zzzcb_49, zf98zzzcb_50, zf98zzzcb_51, zf98zzzcb_23, zf98zzzcb_24, zf98zzzcb_5, zf98zzzcb_6, zf98zzzcb_7, zf98zzzcb_22, zf98zzzcb_98, zf98zzzcb_19], [])
noncomputable def w_kwt1v9 : List (sCut × List (Nat × sT) × List (Nat × sT × List (sT × sT))) := [(q_kwt1ST, [(60032, .int 0)], [(64452, .arg 64452, cpW 1412 60000 9), (64484, .arg 64484, [])])]
theorem k_kwt1v9 : cbody kR [] (cpl1 zKWt c_kwt1q [q_kwt1ST]) (cpl2 zKWt c_kwt1q [q_kwt1ST]) (cleafB kR zKWt c_kwt1q w_kwt1v9) 160 true true q_kwt1v9.2.2.1 q_kwt1v9.2.2.2 (cst zKWt c_kwt1q.2.2.1.1 q_kwt1v9.1) (cst zKWt c_kwt1q.2.2.1.2 q_kwt1v9.2.1) = true := by decide +kernel
theorem t_kwt1v9 {X : pX} {ρ0 : sR} (hv : vok X ρ0) : CUTOK X kR zKWt c_kwt1q 7 ρ0 q_kwt1v9 := CUTOK_AT (fun ρ k1 hF hI k4 => AT_of (q := q_kwt1v9) rfl rfl (SEM_runB kR_x kR_0 (Cs := []) (fun C hC => by cases hC) c_kwt1q_f (Q := w_kwt1v9) hv 160 (b1 := true) (b2 := true) k_kwt1v9 k1 hF hI k4 (fun p hp ρ3 m1 m2 m3 m4 m5 m6 => by
  rw [List.mem_singleton.mp hp] at m2 m3 m5 m6 ⊢
  exact kwt1_go hv (fun f hf => hF.2 f (List.mem_cons_of_mem _ (List.mem_cons_of_mem _ (List.mem_cons_of_mem _ hf)))) m1 m2 m3 m4 k4 (congrArg Prod.fst (m5 _ (List.mem_cons_self))) (m := 9) (by rw [show ρ.1 60096 = 9 from of_decide_eq_true (hF.2 _ (List.mem_cons_self))]; rfl) (fun j => m6 (64452, .arg 64452, cpW 1412 60000 9) (List.mem_cons_self) j) (fun j => m6 (64484, .arg 64484, []) (List.mem_cons_of_mem _ (List.mem_cons_self)) j))))
noncomputable def q_kwt1v10 : sCut := ((fr 0 55 0 [(0, tr 42), (1, .int 110), (2, tr 78), (3, .arg 60000), (4, .arg 60096)] [], [fBot], 7), (fr 0 278 0 [(0, tr 219), (1, .arg 1308), (2, .int 110)] [], [fBot], 7), [zf98zzzcb_52, zf98zzzcb_53, zf98zzzcb_54, zf98zzzcb_23, zf98zzzcb_24, zf98zzzcb_5, zf98zzzcb_6, zf98zzzcb_7, zf98zzzcb_22, zf98zzzcb_98, zf98zzzcb_19], [])
noncomputable def w_kwt1v10 : List (sCut × List (Nat × sT) × List (Nat × sT × List (sT × sT))) := [(q_kwt1ST, [(60032, .int 0)], [(64452, .arg 64452, cpW 1412 60000 10), (64484, .arg 64484, [])])]
theorem k_kwt1v10 : cbody kR [] (cpl1 zKWt c_kwt1q [q_kwt1ST]) (cpl2 zKWt c_kwt1q [q_kwt1ST]) (cleafB kR zKWt c_kwt1q w_kwt1v10) 160 true true q_kwt1v10.2.2.1 q_kwt1v10.2.2.2 (cst zKWt c_kwt1q.2.2.1.1 q_kwt1v10.1) (cst zKWt c_kwt1q.2.2.1.2 q_kwt1v10.2.1) = true := by decide +kernel
theorem t_kwt1v10 {X : pX} {ρ0 : sR} (hv : vok X ρ0) : CUTOK X kR zKWt c_kwt1q 7 ρ0 q_kwt1v10 := CUTOK_AT (fun ρ k1 hF hI k4 => AT_of (q := q_kwt1v10) rfl rfl (SEM_runB kR_x kR_0 (Cs := []) (fun C hC => by cases hC) c_kwt1q_f (Q := w_kwt1v10) hv 160 (b1 := true) (b2 := true) k_kwt1v10 k1 hF hI k4 (fun p hp ρ3 m1 m2 m3 m4 m5 m6 => by
  rw [List.mem_singleton.mp hp] at m2 m3 m5 m6 ⊢
  exact kwt1_go hv (fun f hf => hF.2 f (List.mem_cons_of_mem _ (List.mem_cons_of_mem _ (List.mem_cons_of_mem _ hf)))) m1 m2 m3 m4 k4 (congrArg Prod.fst (m5 _ (List.mem_cons_self))) (m := 10) (by rw [show ρ.1 60096 = 10 from of_decide_eq_true (hF.2 _ (List.mem_cons_self))]; rfl) (fun j => m6 (64452, .arg 64452, cpW 1412 60000 10) (List.mem_cons_self) j) (fun j => m6 (64484, .arg 64484, []) (List.mem_cons_of_mem _ (List.mem_cons_self)) j))))
noncomputable def q_kwt1v11 : sCut := ((fr 0 55 0 [(0, tr 42), (1, .int 110), (2, tr 78), (3, .arg 60000), (4, .arg 60096)] [], [fBot], 7), (fr 0 278 0 [(0, tr 219), (1, .arg 1308), (2, .int 110)] [], [fBot], 7), [zf98zzzcb_55, zf98zzzcb_56, zf98zzzcb_57, zf98zzzcb_23, zf98zzzcb_24, zf98zzzcb_5, zf98zzzcb_6, zf98zzzcb_7, zf98zzzcb_22, zf98zzzcb_98, zf98zzzcb_19], [])
noncomputable def w_kwt1v11 : List (sCut × List (Nat × sT) × List (Nat × sT × List (sT × sT))) := [(q_kwt1ST, [(60032, .int 0)], [(64452, .arg 64452, cpW 1412 60000 11), (64484, .arg 64484, [])])]
theorem k_kwt1v11 : cbody kR [] (cpl1 zKWt c_kwt1q [q_kwt1ST]) (cpl2 zKWt c_kwt1q [q_kwt1ST]) (cleafB kR zKWt c_kwt1q w_kwt1v11) 160 true true q_kwt1v11.2.2.1 q_kwt1v11.2.2.2 (cst zKWt c_kwt1q.2.2.1.1 q_kwt1v11.1) (cst zKWt c_kwt1q.2.2.1.2 q_kwt1v11.2.1) = true := by decide +kernel
theorem t_kwt1v11 {X : pX} {ρ0 : sR} (hv : vok X ρ0) : CUTOK X kR zKWt c_kwt1q 7 ρ0 q_kwt1v11 := CUTOK_AT (fun ρ k1 hF hI k4 => AT_of (q := q_kwt1v11) rfl rfl (SEM_runB kR_x kR_0 (Cs := []) (fun C hC => by cases hC) c_kwt1q_f (Q := w_kwt1v11) hv 160 (b1 := true) (b2 := true) k_kwt1v11 k1 hF hI k4 (fun p hp ρ3 m1 m2 m3 m4 m5 m6 => by
  rw [List.mem_singleton.mp hp] at m2 m3 m5 m6 ⊢
  exact kwt1_go hv (fun f hf => hF.2 f (List.mem_cons_of_mem _ (List.mem_cons_of_mem _ (List.mem_cons_of_mem _ hf)))) m1 m2 m3 m4 k4 (congrArg Prod.fst (m5 _ (List.mem_cons_self))) (m := 11) (by rw [show ρ.1 60096 = 11 from of_decide_eq_true (hF.2 _ (List.mem_cons_self))]; rfl) (fun j => m6 (64452, .arg 64452, cpW 1412 60000 11) (List.mem_cons_self) j) (fun j => m6 (64484, .arg 64484, []) (List.mem_cons_of_mem _ (List.mem_cons_self)) j))))
noncomputable def q_kwt1v12 : sCut := ((fr 0 55 0 [(0, tr 42), (1, .int 110), (2, tr 78), (3, .arg 60000), (4, .arg 60096)] [], [fBot], 7), (fr 0 278 0 [(0, tr 219), (1, .arg 1308), (2, .int 110)] [], [fBot], 7), [zf98zzzcb_58, zf98zzzcb_59, zf98zzzcb_60, zf98zzzcb_23, zf98zzzcb_24, zf98zzzcb_5, zf98zzzcb_6, zf98zzzcb_7, zf98zzzcb_22, zf98zzzcb_98, zf98zzzcb_19], [])
noncomputable def w_kwt1v12 : List (sCut × List (Nat × sT) × List (Nat × sT × List (sT × sT))) := [(q_kwt1ST, [(60032, .int 0)], [(64452, .arg 64452, cpW 1412 60000 12), (64484, .arg 64484, [])])]
theorem k_kwt1v12 : cbody kR [] (cpl1 zKWt c_kwt1q [q_kwt1ST]) (cpl2 zKWt c_kwt1q [q_kwt1ST]) (cleafB kR zKWt c_kwt1q w_kwt1v12) 160 true true q_kwt1v12.2.2.1 q_kwt1v12.2.2.2 (cst zKWt c_kwt1q.2.2.1.1 q_kwt1v12.1) (cst zKWt c_kwt1q.2.2.1.2 q_kwt1v12.2.1) = true := by decide +kernel
theorem t_kwt1v12 {X : pX} {ρ0 : sR} (hv : vok X ρ0) : CUTOK X kR zKWt c_kwt1q 7 ρ0 q_kwt1v12 := CUTOK_AT (fun ρ k1 hF hI k4 => AT_of (q := q_kwt1v12) rfl rfl (SEM_runB kR_x kR_0 (Cs := []) (fun C hC => by cases hC) c_kwt1q_f (Q := w_kwt1v12) hv 160 (b1 := true) (b2 := true) k_kwt1v12 k1 hF hI k4 (fun p hp ρ3 m1 m2 m3 m4 m5 m6 => by
  rw [List.mem_singleton.mp hp] at m2 m3 m5 m6 ⊢
  exact kwt1_go hv (fun f hf => hF.2 f (List.mem_cons_of_mem _ (List.mem_cons_of_mem _ (List.mem_cons_of_mem _ hf)))) m1 m2 m3 m4 k4 (congrArg Prod.fst (m5 _ (List.mem_cons_self))) (m := 12) (by rw [show ρ.1 60096 = 12 from of_decide_eq_true (hF.2 _ (List.mem_cons_self))]; rfl) (fun j => m6 (64452, .arg 64452, cpW 1412 60000 12) (List.mem_cons_self) j) (fun j => m6 (64484, .arg 64484, []) (List.mem_cons_of_mem _ (List.mem_cons_self)) j))))
noncomputable def q_kwt1v13 : sCut := ((fr 0 55 0 [(0, tr 42), (1, .int 110), (2, tr 78), (3, .arg 60000), (4, .arg 60096)] [], [fBot], 7), (fr 0 278 0 [(0, tr 219), (1, .arg 1308), (2, .int 110)] [], [fBot], 7), [zf98zzzcb_61, zf98zzzcb_62, zf98zzzcb_63, zf98zzzcb_23, zf98zzzcb_24, zf98zzzcb_5, zf98zzzcb_6, zf98zzzcb_7, zf98zzzcb_22, zf98zzzcb_98, zf98zzzcb_19], [])
noncomputable def w_kwt1v13 : List (sCut × List (Nat × sT) × List (Nat × sT × List (sT × sT))) := [(q_kwt1ST, [(60032, .int 0)], [(64452, .arg 64452, cpW 1412 60000 13), (64484, .arg 64484, [])])]
theorem k_kwt1v13 : cbody kR [] (cpl1 zKWt c_kwt1q [q_kwt1ST]) (cpl2 zKWt c_kwt1q [q_kwt1ST]) (cleafB kR zKWt c_kwt1q w_kwt1v13) 160 true true q_kwt1v13.2.2.1 q_kwt1v13.2.2.2 (cst zKWt c_kwt1q.2.2.1.1 q_kwt1v13.1) (cst zKWt c_kwt1q.2.2.1.2 q_kwt1v13.2.1) = true := by decide +kernel
theorem t_kwt1v13 {X : pX} {ρ0 : sR} (hv : vok X ρ0) : CUTOK X kR zKWt c_kwt1q 7 ρ0 q_kwt1v13 := CUTOK_AT (fun ρ k1 hF hI k4 => AT_of (q := q_kwt1v13) rfl rfl (SEM_runB kR_x kR_0 (Cs := []) (fun C hC => by cases hC) c_kwt1q_f (Q := w_kwt1v13) hv 160 (b1 := true) (b2 := true) k_kwt1v13 k1 hF hI k4 (fun p hp ρ3 m1 m2 m3 m4 m5 m6 => by
  rw [List.mem_singleton.mp hp] at m2 m3 m5 m6 ⊢
  exact kwt1_go hv (fun f hf => hF.2 f (List.mem_cons_of_mem _ (List.mem_cons_of_mem _ (List.mem_cons_of_mem _ hf)))) m1 m2 m3 m4 k4 (congrArg Prod.fst (m5 _ (List.mem_cons_self))) (m := 13) (by rw [show ρ.1 60096 = 13 from of_decide_eq_true (hF.2 _ (List.mem_cons_self))]; rfl) (fun j => m6 (64452, .arg 64452, cpW 1412 60000 13) (List.mem_cons_self) j) (fun j => m6 (64484, .arg 64484, []) (List.mem_cons_of_mem _ (List.mem_cons_self)) j))))
noncomputable def q_kwt1v14 : sCut := ((fr 0 55 0 [(0, tr 42), (1, .int 110), (2, tr 78), (3, .arg 60000), (4, .arg 60096)] [], [fBot], 7), (fr 0 278 0 [(0, tr 219), (1, .arg 1308), (2, .int 110)] [], [fBot], 7), [zf98zzzcb_64, zf98zzzcb_65, zf98zzzcb_66, zf98zzzcb_23, zf98zzzcb_24, zf98zzzcb_5, zf98zzzcb_6, zf98zzzcb_7, zf98zzzcb_22, zf98zzzcb_98, zf98zzzcb_19], [])
noncomputable def w_kwt1v14 : List (sCut × List (Nat × sT) × List (Nat × sT × List (sT × sT))) := [(q_kwt1ST, [(60032, .int 0)], [(64452, .arg 64452, cpW 1412 60000 14), (64484, .arg 64484, [])])]
theorem k_kwt1v14 : cbody kR [] (cpl1 zKWt c_kwt1q [q_kwt1ST]) (cpl2 zKWt c_kwt1q [q_kwt1ST]) (cleafB kR zKWt c_kwt1q w_kwt1v14) 160 true true q_kwt1v14.2.2.1 q_kwt1v14.2.2.2 (cst zKWt c_kwt1q.2.2.1.1 q_kwt1v14.1) (cst zKWt c_kwt1q.2.2.1.2 q_kwt1v14.2.1) = true := by decide +kernel
theorem t_kwt1v14 {X : pX} {ρ0 : sR} (hv : vok X ρ0) : CUTOK X kR zKWt c_kwt1q 7 ρ0 q_kwt1v14 := CUTOK_AT (fun ρ k1 hF hI k4 => AT_of (q := q_kwt1v14) rfl rfl (SEM_runB kR_x kR_0 (Cs := []) (fun C hC => by cases hC) c_kwt1q_f (Q := w_kwt1v14) hv 160 (b1 := true) (b2 := true) k_kwt1v14 k1 hF hI k4 (fun p hp ρ3 m1 m2 m3 m4 m5 m6 => by
  rw [List.mem_singleton.mp hp] at m2 m3 m5 m6 ⊢
  exact kwt1_go hv (fun f hf => hF.2 f (List.mem_cons_of_mem _ (List.mem_cons_of_mem _ (List.mem_cons_of_mem _ hf)))) m1 m2 m3 m4 k4 (congrArg Prod.fst (m5 _ (List.mem_cons_self))) (m := 14) (by rw [show ρ.1 60096 = 14 from of_decide_eq_true (hF.2 _ (List.mem_cons_self))]; rfl) (fun j => m6 (64452, .arg 64452, cpW 1412 60000 14) (List.mem_cons_self) j) (fun j => m6 (64484, .arg 64484, []) (List.mem_cons_of_mem _ (List.mem_cons_self)) j))))
noncomputable def q_kwt1v15 : sCut := ((fr 0 55 0 [(0, tr 42), (1, .int 110), (2, tr 78), (3, .arg 60000), (4, .arg 60096)] [], [fBot], 7), (fr 0 278 0 [(0, tr 219), (1, .arg 1308), (2, .int 110)] [], [fBot], 7), [zf98zzzcb_67, zf98zzzcb_68, zf98zzzcb_69, zf98zzzcb_23, zf98zzzcb_24, zf98zzzcb_5, zf98zzzcb_6, zf98zzzcb_7, zf98zzzcb_22, zf98zzzcb_98, zf98zzzcb_19], [])
noncomputable def w_kwt1v15 : List (sCut × List (Nat × sT) × List (Nat × sT × List (sT × sT))) := [(q_kwt1ST, [(60032, .int 0)], [(64452, .arg 64452, cpW 1412 60000 15), (64484, .arg 64484, [])])]
theorem k_kwt1v15 : cbody kR [] (cpl1 zKWt c_kwt1q [q_kwt1ST]) (cpl2 zKWt c_kwt1q [q_kwt1ST]) (cleafB kR zKWt c_kwt1q w_kwt1v15) 160 true true q_kwt1v15.2.2.1 q_kwt1v15.2.2.2 (cst zKWt c_kwt1q.2.2.1.1 q_kwt1v15.1) (cst zKWt c_kwt1q.2.2.1.2 q_kwt1v15.2.1) = true := by decide +kernel
theorem t_kwt1v15 {X : pX} {ρ0 : sR} (hv : vok X ρ0) : CUTOK X kR zKWt c_kwt1q 7 ρ0 q_kwt1v15 := CUTOK_AT (fun ρ k1 hF hI k4 => AT_of (q := q_kwt1v15) rfl rfl (SEM_runB kR_x kR_0 (Cs := []) (fun C hC => by cases hC) c_kwt1q_f (Q := w_kwt1v15) hv 160 (b1 := true) (b2 := true) k_kwt1v15 k1 hF hI k4 (fun p hp ρ3 m1 m2 m3 m4 m5 m6 => by
  rw [List.mem_singleton.mp hp] at m2 m3 m5 m6 ⊢
  exact kwt1_go hv (fun f hf => hF.2 f (List.mem_cons_of_mem _ (List.mem_cons_of_mem _ (List.mem_cons_of_mem _ hf)))) m1 m2 m3 m4 k4 (congrArg Prod.fst (m5 _ (List.mem_cons_self))) (m := 15) (by rw [show ρ.1 60096 = 15 from of_decide_eq_true (hF.2 _ (List.mem_cons_self))]; rfl) (fun j => m6 (64452, .arg 64452, cpW 1412 60000 15) (List.mem_cons_self) j) (fun j => m6 (64484, .arg 64484, []) (List.mem_cons_of_mem _ (List.mem_cons_self)) j))))
noncomputable def q_kwt1v16 : sCut := ((fr 0 55 0 [(0, tr 42), (1, .int 110), (2, tr 78), (3, .arg 60000), (4, .arg 60096)] [], [fBot], 7), (fr 0 278 0 [(0, tr 219), (1, .arg 1308), (2, .int 110)] [], [fBot], 7), [zf98zzzcb_70, zf98zzzcb_71, zf98zzzcb_72, zf98zzzcb_23, zf98zzzcb_24, zf98zzzcb_5, zf98zzzcb_6, zf98zzzcb_7, zf98zzzcb_22, zf98zzzcb_98, zf98zzzcb_19], [])
noncomputable def w_kwt1v16 : List (sCut × List (Nat × sT) × List (Nat × sT × List (sT × sT))) := [(q_kwt1ST, [(60032, .int 0)], [(64452, .arg 64452, cpW 1412 60000 16), (64484, .arg 64484, [])])]
theorem k_kwt1v16 : cbody kR [] (cpl1 zKWt c_kwt1q [q_kwt1ST]) (cpl2 zKWt c_kwt1q [q_kwt1ST]) (cleafB kR zKWt c_kwt1q w_kwt1v16) 160 true true q_kwt1v16.2.2.1 q_kwt1v16.2.2.2 (cst zKWt c_kwt1q.2.2.1.1 q_kwt1v16.1) (cst zKWt c_kwt1q.2.2.1.2 q_kwt1v16.2.1) = true := by decide +kernel
theorem t_kwt1v16 {X : pX} {ρ0 : sR} (hv : vok X ρ0) : CUTOK X kR zKWt c_kwt1q 7 ρ0 q_kwt1v16 := CUTOK_AT (fun ρ k1 hF hI k4 => AT_of (q := q_kwt1v16) rfl rfl (SEM_runB kR_x kR_0 (Cs := []) (fun C hC => by cases hC) c_kwt1q_f (Q := w_kwt1v16) hv 160 (b1 := true) (b2 := true) k_kwt1v16 k1 hF hI k4 (fun p hp ρ3 m1 m2 m3 m4 m5 m6 => by
  rw [List.mem_singleton.mp hp] at m2 m3 m5 m6 ⊢
  exact kwt1_go hv (fun f hf => hF.2 f (List.mem_cons_of_mem _ (List.mem_cons_of_mem _ (List.mem_cons_of_mem _ hf)))) m1 m2 m3 m4 k4 (congrArg Prod.fst (m5 _ (List.mem_cons_self))) (m := 16) (by rw [show ρ.1 60096 = 16 from of_decide_eq_true (hF.2 _ (List.mem_cons_self))]; rfl) (fun j => m6 (64452, .arg 64452, cpW 1412 60000 16) (List.mem_cons_self) j) (fun j => m6 (64484, .arg 64484, []) (List.mem_cons_of_mem _ (List.mem_cons_self)) j))))
noncomputable def q_kwt1v17 : sCut := ((fr 0 55 0 [(0, tr 42), (1, .int 110), (2, tr 78), (3, .arg 60000), (4, .arg 60096)] [], [fBot], 7), (fr 0 278 0 [(0, tr 219), (1, .arg 1308), (2, .int 110)] [], [fBot], 7), [zf98zzzcb_73, zf98zzzcb_74, zf98zzzcb_75, zf98zzzcb_23, zf98zzzcb_24, zf98zzzcb_5, zf98zzzcb_6, zf98zzzcb_7, zf98zzzcb_22, zf98zzzcb_98, zf98zzzcb_19], [])
noncomputable def w_kwt1v17 : List (sCut × List (Nat × sT) × List (Nat × sT × List (sT × sT))) := [(q_kwt1ST, [(60032, .int 0)], [(64452, .arg 64452, cpW 1412 60000 17), (64484, .arg 64484, [])])]
theorem k_kwt1v17 : cbody kR [] (cpl1 zKWt c_kwt1q [q_kwt1ST]) (cpl2 zKWt c_kwt1q [q_kwt1ST]) (cleafB kR zKWt c_kwt1q w_kwt1v17) 160 true true q_kwt1v17.2.2.1 q_kwt1v17.2.2.2 (cst zKWt c_kwt1q.2.2.1.1 q_kwt1v17.1) (cst zKWt c_kwt1q.2.2.1.2 q_kwt1v17.2.1) = true := by decide +kernel
theorem t_kwt1v17 {X : pX} {ρ0 : sR} (hv : vok X ρ0) : CUTOK X kR zKWt c_kwt1q 7 ρ0 q_kwt1v17 := CUTOK_AT (fun ρ k1 hF hI k4 => AT_of (q := q_kwt1v17) rfl rfl (SEM_runB kR_x kR_0 (Cs := []) (fun C hC => by cases hC) c_kwt1q_f (Q := w_kwt1v17) hv 160 (b1 := true) (b2 := true) k_kwt1v17 k1 hF hI k4 (fun p hp ρ3 m1 m2 m3 m4 m5 m6 => by
  rw [List.mem_singleton.mp hp] at m2 m3 m5 m6 ⊢
  exact kwt1_go hv (fun f hf => hF.2 f (List.mem_cons_of_mem _ (List.mem_cons_of_mem _ (List.mem_cons_of_mem _ hf)))) m1 m2 m3 m4 k4 (congrArg Prod.fst (m5 _ (List.mem_cons_self))) (m := 17) (by rw [show ρ.1 60096 = 17 from of_decide_eq_true (hF.2 _ (List.mem_cons_self))]; rfl) (fun j => m6 (64452, .arg 64452, cpW 1412 60000 17) (List.mem_cons_self) j) (fun j => m6 (64484, .arg 64484, []) (List.mem_cons_of_mem _ (List.mem_cons_self)) j))))
noncomputable def q_kwt1v18 : sCut := ((fr 0 55 0 [(0, tr 42), (1, .int 110), (2, tr 78), (3, .arg 60000), (4, .arg 60096)] [], [fBot], 7), (fr 0 278 0 [(0, tr 219), (1, .arg 1308), (2, .int 110)] [], [fBot], 7), [zf98zzzcb_76, zf98zzzcb_77, zf98zzzcb_78, zf98zzzcb_23, zf98zzzcb_24, zf98zzzcb_5, zf98zzzcb_6, zf98zzzcb_7, zf98zzzcb_22, zf98zzzcb_98, zf98zzzcb_19], [])
noncomputable def w_kwt1v18 : List (sCut × List (Nat × sT) × List (Nat × sT × List (sT × sT))) := [(q_kwt1ST, [(60032, .int 0)], [(64452, .arg 64452, cpW 1412 60000 18), (64484, .arg 64484, [])])]
theorem k_kwt1v18 : cbody kR [] (cpl1 zKWt c_kwt1q [q_kwt1ST]) (cpl2 zKWt c_kwt1q [q_kwt1ST]) (cleafB kR zKWt c_kwt1q w_kwt1v18) 160 true true q_kwt1v18.2.2.1 q_kwt1v18.2.2.2 (cst zKWt c_kwt1q.2.2.1.1 q_kwt1v18.1) (cst zKWt c_kwt1q.2.2.1.2 q_kwt1v18.2.1) = true := by decide +kernel
theorem t_kwt1v18 {X : pX} {ρ0 : sR} (hv : vok X ρ0) : CUTOK X kR zKWt c_kwt1q 7 ρ0 q_kwt1v18 := CUTOK_AT (fun ρ k1 hF hI k4 => AT_of (q := q_kwt1v18) rfl rfl (SEM_runB kR_x kR_0 (Cs := []) (fun C hC => by cases hC) c_kwt1q_f (Q := w_kwt1v18) hv 160 (b1 := true) (b2 := true) k_kwt1v18 k1 hF hI k4 (fun p hp ρ3 m1 m2 m3 m4 m5 m6 => by
  rw [List.mem_singleton.mp hp] at m2 m3 m5 m6 ⊢
  exact kwt1_go hv (fun f hf => hF.2 f (List.mem_cons_of_mem _ (List.mem_cons_of_mem _ (List.mem_cons_of_mem _ hf)))) m1 m2 m3 m4 k4 (congrArg Prod.fst (m5 _ (List.mem_cons_self))) (m := 18) (by rw [show ρ.1 60096 = 18 from of_decide_eq_true (hF.2 _ (List.mem_cons_self))]; rfl) (fun j => m6 (64452, .arg 64452, cpW 1412 60000 18) (List.mem_cons_self) j) (fun j => m6 (64484, .arg 64484, []) (List.mem_cons_of_mem _ (List.mem_cons_self)) j))))
noncomputable def q_kwt1v19 : sCut := ((fr 0 55 0 [(0, tr 42), (1, .int 110), (2, tr 78), (3, .arg 60000), (4, .arg 60096)] [], [fBot], 7), (fr 0 278 0 [(0, tr 219), (1, .arg 1308), (2, .int 110)] [], [fBot], 7), [zf98zzzcb_79, zf98zzzcb_80, zf98zzzcb_81, zf98zzzcb_23, zf98zzzcb_24, zf98zzzcb_5, zf98zzzcb_6, zf98zzzcb_7, zf98zzzcb_22, zf98zzzcb_98, zf98zzzcb_19], [])
noncomputable def w_kwt1v19 : List (sCut × List (Nat × sT) × List (Nat × sT × List (sT × sT))) := [(q_kwt1ST, [(60032, .int 0)], [(64452, .arg 64452, cpW 1412 60000 19), (64484, .arg 64484, [])])]
theorem k_kwt1v19 : cbody kR [] (cpl1 zKWt c_kwt1q [q_kwt1ST]) (cpl2 zKWt c_kwt1q [q_kwt1ST]) (cleafB kR zKWt c_kwt1q w_kwt1v19) 160 true true q_kwt1v19.2.2.1 q_kwt1v19.2.2.2 (cst zKWt c_kwt1q.2.2.1.1 q_kwt1v19.1) (cst zKWt c_kwt1q.2.2.1.2 q_kwt1v19.2.1) = true := by decide +kernel
theorem t_kwt1v19 {X : pX} {ρ0 : sR} (hv : vok X ρ0) : CUTOK X kR zKWt c_kwt1q 7 ρ0 q_kwt1v19 := CUTOK_AT (fun ρ k1 hF hI k4 => AT_of (q := q_kwt1v19) rfl rfl (SEM_runB kR_x kR_0 (Cs := []) (fun C hC => by cases hC) c_kwt1q_f (Q := w_kwt1v19) hv 160 (b1 := true) (b2 := true) k_kwt1v19 k1 hF hI k4 (fun p hp ρ3 m1 m2 m3 m4 m5 m6 => by
  rw [List.mem_singleton.mp hp] at m2 m3 m5 m6 ⊢
  exact kwt1_go hv (fun f hf => hF.2 f (List.mem_cons_of_mem _ (List.mem_cons_of_mem _ (List.mem_cons_of_mem _ hf)))) m1 m2 m3 m4 k4 (congrArg Prod.fst (m5 _ (List.mem_cons_self))) (m := 19) (by rw [show ρ.1 60096 = 19 from of_decide_eq_true (hF.2 _ (List.mem_cons_self))]; rfl) (fun j => m6 (64452, .arg 64452, cpW 1412 60000 19) (List.mem_cons_self) j) (fun j => m6 (64484, .arg 64484, []) (List.mem_cons_of_mem _ (List.mem_cons_self)) j))))
noncomputable def q_kwt1v20 : sCut := ((fr 0 55 0 [(0, tr 42), (1, .int 110), (2, tr 78), (3, .arg 60000), (4, .arg 60096)] [], [fBot], 7), (fr 0 278 0 [(0, tr 219), (1, .arg 1308), (2, .int 110)] [], [fBot], 7), [zf98zzzcb_82, zf98zzzcb_83, zf98zzzcb_84, zf98zzzcb_23, zf98zzzcb_24, zf98zzzcb_5, zf98zzzcb_6, zf98zzzcb_7, zf98zzzcb_22, zf98zzzcb_98, zf98zzzcb_19], [])
noncomputable def w_kwt1v20 : List (sCut × List (Nat × sT) × List (Nat × sT × List (sT × sT))) := [(q_kwt1ST, [(60032, .int 0)], [(64452, .arg 64452, cpW 1412 60000 20), (64484, .arg 64484, [])])]
theorem k_kwt1v20 : cbody kR [] (cpl1 zKWt c_kwt1q [q_kwt1ST]) (cpl2 zKWt c_kwt1q [q_kwt1ST]) (cleafB kR zKWt c_kwt1q w_kwt1v20) 160 true true q_kwt1v20.2.2.1 q_kwt1v20.2.2.2 (cst zKWt c_kwt1q.2.2.1.1 q_kwt1v20.1) (cst zKWt c_kwt1q.2.2.1.2 q_kwt1v20.2.1) = true := by decide +kernel
theorem t_kwt1v20 {X : pX} {ρ0 : sR} (hv : vok X ρ0) : CUTOK X kR zKWt c_kwt1q 7 ρ0 q_kwt1v20 := CUTOK_AT (fun ρ k1 hF hI k4 => AT_of (q := q_kwt1v20) rfl rfl (SEM_runB kR_x kR_0 (Cs := []) (fun C hC => by cases hC) c_kwt1q_f (Q := w_kwt1v20) hv 160 (b1 := true) (b2 := true) k_kwt1v20 k1 hF hI k4 (fun p hp ρ3 m1 m2 m3 m4 m5 m6 => by
  rw [List.mem_singleton.mp hp] at m2 m3 m5 m6 ⊢
  exact kwt1_go hv (fun f hf => hF.2 f (List.mem_cons_of_mem _ (List.mem_cons_of_mem _ (List.mem_cons_of_mem _ hf)))) m1 m2 m3 m4 k4 (congrArg Prod.fst (m5 _ (List.mem_cons_self))) (m := 20) (by rw [show ρ.1 60096 = 20 from of_decide_eq_true (hF.2 _ (List.mem_cons_self))]; rfl) (fun j => m6 (64452, .arg 64452, cpW 1412 60000 20) (List.mem_cons_self) j) (fun j => m6 (64484, .arg 64484, []) (List.mem_cons_of_mem _ (List.mem_cons_self)) j))))
noncomputable def q_kwt1v21 : sCut := ((fr 0 55 0 [(0, tr 42), (1, .int 110), (2, tr 78), (3, .arg 60000), (4, .arg 60096)] [], [fBot], 7), (fr 0 278 0 [(0, tr 219), (1, .arg 1308), (2, .int 110)] [], [fBot], 7), [zf98zzzcb_85, zf98zzzcb_86, zf98zzzcb_87, zf98zzzcb_23, zf98zzzcb_24, zf98zzzcb_5, zf98zzzcb_6, zf98zzzcb_7, zf98zzzcb_22, zf98zzzcb_98, zf98zzzcb_19], [])
noncomputable def w_kwt1v21 : List (sCut × List (Nat × sT) × List (Nat × sT × List (sT × sT))) := [(q_kwt1ST, [(60032, .int 0)], [(64452, .arg 64452, cpW 1412 60000 21), (64484, .arg 64484, [])])]
theorem k_kwt1v21 : cbody kR [] (cpl1 zKWt c_kwt1q [q_kwt1ST]) (cpl2 zKWt c_kwt1q [q_kwt1ST]) (cleafB kR zKWt c_kwt1q w_kwt1v21) 160 true true q_kwt1v21.2.2.1 q_kwt1v21.2.2.2 (cst zKWt c_kwt1q.2.2.1.1 q_kwt1v21.1) (cst zKWt c_kwt1q.2.2.1.2 q_kwt1v21.2.1) = true := by decide +kernel
theorem t_kwt1v21 {X : pX} {ρ0 : sR} (hv : vok X ρ0) : CUTOK X kR zKWt c_kwt1q 7 ρ0 q_kwt1v21 := CUTOK_AT (fun ρ k1 hF hI k4 => AT_of (q := q_kwt1v21) rfl rfl (SEM_runB kR_x kR_0 (Cs := []) (fun C hC => by cases hC) c_kwt1q_f (Q := w_kwt1v21) hv 160 (b1 := true) (b2 := true) k_kwt1v21 k1 hF hI k4 (fun p hp ρ3 m1 m2 m3 m4 m5 m6 => by
  rw [List.mem_singleton.mp hp] at m2 m3 m5 m6 ⊢
  exact kwt1_go hv (fun f hf => hF.2 f (List.mem_cons_of_mem _ (List.mem_cons_of_mem _ (List.mem_cons_of_mem _ hf)))) m1 m2 m3 m4 k4 (congrArg Prod.fst (m5 _ (List.mem_cons_self))) (m := 21) (by rw [show ρ.1 60096 = 21 from of_decide_eq_true (hF.2 _ (List.mem_cons_self))]; rfl) (fun j => m6 (64452, .arg 64452, cpW 1412 60000 21) (List.mem_cons_self) j) (fun j => m6 (64484, .arg 64484, []) (List.mem_cons_of_mem _ (List.mem_cons_self)) j))))
noncomputable def q_kwt1v22 : sCut := ((fr 0 55 0 [(0, tr 42), (1, .int 110), (2, tr 78), (3, .arg 60000), (4, .arg 60096)] [], [fBot], 7), (fr 0 278 0 [(0, tr 219), (1, .arg 1308), (2, .int 110)] [], [fBot], 7), [zf98zzzcb_88, zf98zzzcb_89, zf98zzzcb_90, zf98zzzcb_23, zf98zzzcb_24, zf98zzzcb_5, zf98zzzcb_6, zf98zzzcb_7, zf98zzzcb_22, zf98zzzcb_98, zf98zzzcb_19], [])
noncomputable def w_kwt1v22 : List (sCut × List (Nat × sT) × List (Nat × sT × List (sT × sT))) := [(q_kwt1ST, [(60032, .int 0)], [(64452, .arg 64452, cpW 1412 60000 22), (64484, .arg 64484, [])])]
theorem k_kwt1v22 : cbody kR [] (cpl1 zKWt c_kwt1q [q_kwt1ST]) (cpl2 zKWt c_kwt1q [q_kwt1ST]) (cleafB kR zKWt c_kwt1q w_kwt1v22) 160 true true q_kwt1v22.2.2.1 q_kwt1v22.2.2.2 (cst zKWt c_kwt1q.2.2.1.1 q_kwt1v22.1) (cst zKWt c_kwt1q.2.2.1.2 q_kwt1v22.2.1) = true := by decide +kernel
theorem t_kwt1v22 {X : pX} {ρ0 : sR} (hv : vok X ρ0) : CUTOK X kR zKWt c_kwt1q 7 ρ0 q_kwt1v22 := CUTOK_AT (fun ρ k1 hF hI k4 => AT_of (q := q_kwt1v22) rfl rfl (SEM_runB kR_x kR_0 (Cs := []) (fun C hC => by cases hC) c_kwt1q_f (Q := w_kwt1v22) hv 160 (b1 := true) (b2 := true) k_kwt1v22 k1 hF hI k4 (fun p hp ρ3 m1 m2 m3 m4 m5 m6 => by
  rw [List.mem_singleton.mp hp] at m2 m3 m5 m6 ⊢
  exact kwt1_go hv (fun f hf => hF.2 f (List.mem_cons_of_mem _ (List.mem_cons_of_mem _ (List.mem_cons_of_mem _ hf)))) m1 m2 m3 m4 k4 (congrArg Prod.fst (m5 _ (List.mem_cons_self))) (m := 22) (by rw [show ρ.1 60096 = 22 from of_decide_eq_true (hF.2 _ (List.mem_cons_self))]; rfl) (fun j => m6 (64452, .arg 64452, cpW 1412 60000 22) (List.mem_cons_self) j) (fun j => m6 (64484, .arg 64484, []) (List.mem_cons_of_mem _ (List.mem_cons_self)) j))))
noncomputable def q_kwt1v23 : sCut := ((fr 0 55 0 [(0, tr 42), (1, .int 110), (2, tr 78), (3, .arg 60000), (4, .arg 60096)] [], [fBot], 7), (fr 0 278 0 [(0, tr 219), (1, .arg 1308), (2, .int 110)] [], [fBot], 7), [zf98zzzcb_91, zf98zzzcb_92, zf98zzzcb_93, zf98zzzcb_23, zf98zzzcb_24, zf98zzzcb_5, zf98zzzcb_6, zf98zzzcb_7, zf98zzzcb_22, zf98zzzcb_98, zf98zzzcb_19], [])
noncomputable def w_kwt1v23 : List (sCut × List (Nat × sT) × List (Nat × sT × List (sT × sT))) := [(q_kwt1ST, [(60032, .int 0)], [(64452, .arg 64452, cpW 1412 60000 23), (64484, .arg 64484, [])])]
theorem k_kwt1v23 : cbody kR [] (cpl1 zKWt c_kwt1q [q_kwt1ST]) (cpl2 zKWt c_kwt1q [q_kwt1ST]) (cleafB kR zKWt c_kwt1q w_kwt1v23) 160 true true q_kwt1v23.2.2.1 q_kwt1v23.2.2.2 (cst zKWt c_kwt1q.2.2.1.1 q_kwt1v23.1) (cst zKWt c_kwt1q.2.2.1.2 q_kwt1v23.2.1) = true := by decide +kernel
theorem t_kwt1v23 {X : pX} {ρ0 : sR} (hv : vok X ρ0) : CUTOK X kR zKWt c_kwt1q 7 ρ0 q_kwt1v23 := CUTOK_AT (fun ρ k1 hF hI k4 => AT_of (q := q_kwt1v23) rfl rfl (SEM_runB kR_x kR_0 (Cs := []) (fun C hC => by cases hC) c_kwt1q_f (Q := w_kwt1v23) hv 160 (b1 := true) (b2 := true) k_kwt1v23 k1 hF hI k4 (fun p hp ρ3 m1 m2 m3 m4 m5 m6 => by
  rw [List.mem_singleton.mp hp] at m2 m3 m5 m6 ⊢
  exact kwt1_go hv (fun f hf => hF.2 f (List.mem_cons_of_mem _ (List.mem_cons_of_mem _ (List.mem_cons_of_mem _ hf)))) m1 m2 m3 m4 k4 (congrArg Prod.fst (m5 _ (List.mem_cons_self))) (m := 23) (by rw [show ρ.1 60096 = 23 from of_decide_eq_true (hF.2 _ (List.mem_cons_self))]; rfl) (fun j => m6 (64452, .arg 64452, cpW 1412 60000 23) (List.mem_cons_self) j) (fun j => m6 (64484, .arg 64484, []) (List.mem_cons_of_mem _ (List.mem_cons_self)) j))))
noncomputable def q_kwt1v24 : sCut := ((fr 0 55 0 [(0, tr 42), (1, .int 110), (2, tr 78), (3, .arg 60000), (4, .arg 60096)] [], [fBot], 7), (fr 0 278 0 [(0, tr 219), (1, .arg 1308), (2, .int 110)] [], [fBot], 7), [zf98zzzcb_94, zf98zzzcb_95, zf98zzzcb_96, zf98zzzcb_23, zf98zzzcb_24, zf98zzzcb_5, zf98zzzcb_6, zf98zzzcb_7, zf98zzzcb_22, zf98zzzcb_98, zf98zzzcb_19], [])
noncomputable def w_kwt1v24 : List (sCut × List (Nat × sT) × List (Nat × sT × List (sT × sT))) := [(q_kwt1ST, [(60032, .int 0)], [(64452, .arg 64452, cpW 1412 60000 24), (64484, .arg 64484, [])])]
theorem k_kwt1v24 : cbody kR [] (cpl1 zKWt c_kwt1q [q_kwt1ST]) (cpl2 zKWt c_kwt1q [q_kwt1ST]) (cleafB kR zKWt c_kwt1q w_kwt1v24) 160 true true q_kwt1v24.2.2.1 q_kwt1v24.2.2.2 (cst zKWt c_kwt1q.2.2.1.1 q_kwt1v24.1) (cst zKWt c_kwt1q.2.2.1.2 q_kwt1v24.2.1) = true := by decide +kernel
theorem t_kwt1v24 {X : pX} {ρ0 : sR} (hv : vok X ρ0) : CUTOK X kR zKWt c_kwt1q 7 ρ0 q_kwt1v24 := CUTOK_AT (fun ρ k1 hF hI k4 => AT_of (q := q_kwt1v24) rfl rfl (SEM_runB kR_x kR_0 (Cs := []) (fun C hC => by cases hC) c_kwt1q_f (Q := w_kwt1v24) hv 160 (b1 := true) (b2 := true) k_kwt1v24 k1 hF hI k4 (fun p hp ρ3 m1 m2 m3 m4 m5 m6 => by
  rw [List.mem_singleton.mp hp] at m2 m3 m5 m6 ⊢
  exact kwt1_go hv (fun f hf => hF.2 f (List.mem_cons_of_mem _ (List.mem_cons_of_mem _ (List.mem_cons_of_mem _ hf)))) m1 m2 m3 m4 k4 (congrArg Prod.fst (m5 _ (List.mem_cons_self))) (m := 24) (by rw [show ρ.1 60096 = 24 from of_decide_eq_true (hF.2 _ (List.mem_cons_self))]; rfl) (fun j => m6 (64452, .arg 64452, cpW 1412 60000 24) (List.mem_cons_self) j) (fun j => m6 (64484, .arg 64484, []) (List.mem_cons_of_mem _ (List.mem_cons_self)) j))))
noncomputable def q_kwt1 : sCut := ((fr 0 55 0 [(0, tr 42), (1, .int 110), (2, tr 78), (3, .arg 60000), (4, .arg 60096)] [], [fBot], 7), (fr 0 278 0 [(0, tr 219), (1, .arg 1308), (2, .int 110)] [], [fBot], 7), [zf98zzzcb_23, zf98zzzcb_24, zf98zzzcb_5, zf98zzzcb_6, zf98zzzcb_7, zf98zzzcb_22, zf98zzzcb_98, zf98zzzcb_19], [])
theorem t_kwt1 {X : pX} {ρ0 : sR} (hv : vok X ρ0) : CUTOK X kR zKWt c_kwt1q 7 ρ0 q_kwt1 := fun ρ k1 hF hI k4 => by
  have v0 : (0 : Int) ≤ (ρ.1 60096).toInt := ri_lf (x := ρ.1 60096) (y := 0) (hF.2 _ (List.mem_cons_of_mem _ (List.mem_cons_of_mem _ (List.mem_cons_of_mem _ (List.mem_cons_self)))))
  have v1 : (ρ.1 60096).toInt ≤ 24 := ri_lf (x := 24) (y := ρ.1 60096) (hF.2 _ (List.mem_cons_of_mem _ (List.mem_cons_of_mem _ (List.mem_cons_of_mem _ (List.mem_cons_of_mem _ (List.mem_cons_self))))))
  have a0 : (0 : Int) ≤ (ρ.1 60000).toInt := ri_lf (x := ρ.1 60000) (y := 0) (hF.2 _ (List.mem_cons_self))
  have a1 : (ρ.1 60000).toInt ≤ 1024 := ri_lf (x := 1024) (y := ρ.1 60000) (hF.2 _ (List.mem_cons_of_mem _ (List.mem_cons_of_mem _ (List.mem_cons_of_mem _ (List.mem_cons_of_mem _ (List.mem_cons_of_mem _ (List.mem_cons_self)))))))
  have ea : (ρ.1 60000 + ρ.1 60096).toInt = (ρ.1 60000).toInt + (ρ.1 60096).toInt := s_add (by omega) (by omega)
  have a2 : (ρ.1 60000 + ρ.1 60096).toInt ≤ 1024 := ri_lf (x := 1024) (y := ρ.1 60000 + ρ.1 60096) (hF.2 _ (List.mem_cons_of_mem _ (List.mem_cons_self)))
  rw [ea] at a2
  have eD : ρ.1 19328 = ρ.1 60096 := of_decide_eq_true (hF.2 _ (List.mem_cons_of_mem _ (List.mem_cons_of_mem _ (List.mem_cons_self))))
  rcases (show (ρ.1 60096).toInt = 0 ∨ (ρ.1 60096).toInt = 1 ∨ (ρ.1 60096).toInt = 2 ∨ (ρ.1 60096).toInt = 3 ∨ (ρ.1 60096).toInt = 4 ∨ (ρ.1 60096).toInt = 5 ∨ (ρ.1 60096).toInt = 6 ∨ (ρ.1 60096).toInt = 7 ∨ (ρ.1 60096).toInt = 8 ∨ (ρ.1 60096).toInt = 9 ∨ (ρ.1 60096).toInt = 10 ∨ (ρ.1 60096).toInt = 11 ∨ (ρ.1 60096).toInt = 12 ∨ (ρ.1 60096).toInt = 13 ∨ (ρ.1 60096).toInt = 14 ∨ (ρ.1 60096).toInt = 15 ∨ (ρ.1 60096).toInt = 16 ∨ (ρ.1 60096).toInt = 17 ∨ (ρ.1 60096).toInt = 18 ∨ (ρ.1 60096).toInt = 19 ∨ (ρ.1 60096).toInt = 20 ∨ (ρ.1 60096).toInt = 21 ∨ (ρ.1 60096).toInt = 22 ∨ (ρ.1 60096).toInt = 23 ∨ (ρ.1 60096).toInt = 24 by omega) with h | h | h | h | h | h | h | h | h | h | h | h | h | h | h | h | h | h | h | h | h | h | h | h | h
  · have e : ρ.1 60096 = 0 := Int32.toInt_inj.mp h
    exact t_kwt1v0 hv ρ k1 ⟨hF.1, fcn (decide_eq_true e) (fcn (decide_eq_true (eD.trans e)) (fcn (di_lf (x := 1024) (y := ρ.1 60000) (show _ ≤ (1024 : Int) by omega)) hF.2))⟩ hI k4
  · have e : ρ.1 60096 = 1 := Int32.toInt_inj.mp h
    exact t_kwt1v1 hv ρ k1 ⟨hF.1, fcn (decide_eq_true e) (fcn (decide_eq_true (eD.trans e)) (fcn (di_lf (x := 1023) (y := ρ.1 60000) (show _ ≤ (1023 : Int) by omega)) hF.2))⟩ hI k4
  · have e : ρ.1 60096 = 2 := Int32.toInt_inj.mp h
    exact t_kwt1v2 hv ρ k1 ⟨hF.1, fcn (decide_eq_true e) (fcn (decide_eq_true (eD.trans e)) (fcn (di_lf (x := 1022) (y := ρ.1 60000) (show _ ≤ (1022 : Int) by omega)) hF.2))⟩ hI k4
  · have e : ρ.1 60096 = 3 := Int32.toInt_inj.mp h
    exact t_kwt1v3 hv ρ k1 ⟨hF.1, fcn (decide_eq_true e) (fcn (decide_eq_true (eD.trans e)) (fcn (di_lf (x := 1021) (y := ρ.1 60000) (show _ ≤ (1021 : Int) by omega)) hF.2))⟩ hI k4
  · have e : ρ.1 60096 = 4 := Int32.toInt_inj.mp h
    exact t_kwt1v4 hv ρ k1 ⟨hF.1, fcn (decide_eq_true e) (fcn (decide_eq_true (eD.trans e)) (fcn (di_lf (x := 1020) (y := ρ.1 60000) (show _ ≤ (1020 : Int) by omega)) hF.2))⟩ hI k4
  · have e : ρ.1 60096 = 5 := Int32.toInt_inj.mp h
    exact t_kwt1v5 hv ρ k1 ⟨hF.1, fcn (decide_eq_true e) (fcn (decide_eq_true (eD.trans e)) (fcn (di_lf (x := 1019) (y := ρ.1 60000) (show _ ≤ (1019 : Int) by omega)) hF.2))⟩ hI k4
  · have e : ρ.1 60096 = 6 := Int32.toInt_inj.mp h
    exact t_kwt1v6 hv ρ k1 ⟨hF.1, fcn (decide_eq_true e) (fcn (decide_eq_true (eD.trans e)) (fcn (di_lf (x := 1018) (y := ρ.1 60000) (show _ ≤ (1018 : Int) by omega)) hF.2))⟩ hI k4
  · have e : ρ.1 60096 = 7 := Int32.toInt_inj.mp h
    exact t_kwt1v7 hv ρ k1 ⟨hF.1, fcn (decide_eq_true e) (fcn (decide_eq_true (eD.trans e)) (fcn (di_lf (x := 1017) (y := ρ.1 60000) (show _ ≤ (1017 : Int) by omega)) hF.2))⟩ hI k4
  · have e : ρ.1 60096 = 8 := Int32.toInt_inj.mp h
    exact t_kwt1v8 hv ρ k1 ⟨hF.1, fcn (decide_eq_true e) (fcn (decide_eq_true (eD.trans e)) (fcn (di_lf (x := 1016) (y := ρ.1 60000) (show _ ≤ (1016 : Int) by omega)) hF.2))⟩ hI k4
  · have e : ρ.1 60096 = 9 := Int32.toInt_inj.mp h
    exact t_kwt1v9 hv ρ k1 ⟨hF.1, fcn (decide_eq_true e) (fcn (decide_eq_true (eD.trans e)) (fcn (di_lf (x := 1015) (y := ρ.1 60000) (show _ ≤ (1015 : Int) by omega)) hF.2))⟩ hI k4
  · have e : ρ.1 60096 = 10 := Int32.toInt_inj.mp h
    exact t_kwt1v10 hv ρ k1 ⟨hF.1, fcn (decide_eq_true e) (fcn (decide_eq_true (eD.trans e)) (fcn (di_lf (x := 1014) (y := ρ.1 60000) (show _ ≤ (1014 : Int) by omega)) hF.2))⟩ hI k4
  · have e : ρ.1 60096 = 11 := Int32.toInt_inj.mp h
    exact t_kwt1v11 hv ρ k1 ⟨hF.1, fcn (decide_eq_true e) (fcn (decide_eq_true (eD.trans e)) (fcn (di_lf (x := 1013) (y := ρ.1 60000) (show _ ≤ (1013 : Int) by omega)) hF.2))⟩ hI k4
  · have e : ρ.1 60096 = 12 := Int32.toInt_inj.mp h
    exact t_kwt1v12 hv ρ k1 ⟨hF.1, fcn (decide_eq_true e) (fcn (decide_eq_true (eD.trans e)) (fcn (di_lf (x := 1012) (y := ρ.1 60000) (show _ ≤ (1012 : Int) by omega)) hF.2))⟩ hI k4
  · have e : ρ.1 60096 = 13 := Int32.toInt_inj.mp h
    exact t_kwt1v13 hv ρ k1 ⟨hF.1, fcn (decide_eq_true e) (fcn (decide_eq_true (eD.trans e)) (fcn (di_lf (x := 1011) (y := ρ.1 60000) (show _ ≤ (1011 : Int) by omega)) hF.2))⟩ hI k4
  · have e : ρ.1 60096 = 14 := Int32.toInt_inj.mp h
    exact t_kwt1v14 hv ρ k1 ⟨hF.1, fcn (decide_eq_true e) (fcn (decide_eq_true (eD.trans e)) (fcn (di_lf (x := 1010) (y := ρ.1 60000) (show _ ≤ (1010 : Int) by omega)) hF.2))⟩ hI k4
  · have e : ρ.1 60096 = 15 := Int32.toInt_inj.mp h
    exact t_kwt1v15 hv ρ k1 ⟨hF.1, fcn (decide_eq_true e) (fcn (decide_eq_true (eD.trans e)) (fcn (di_lf (x := 1009) (y := ρ.1 60000) (show _ ≤ (1009 : Int) by omega)) hF.2))⟩ hI k4
  · have e : ρ.1 60096 = 16 := Int32.toInt_inj.mp h
    exact t_kwt1v16 hv ρ k1 ⟨hF.1, fcn (decide_eq_true e) (fcn (decide_eq_true (eD.trans e)) (fcn (di_lf (x := 1008) (y := ρ.1 60000) (show _ ≤ (1008 : Int) by omega)) hF.2))⟩ hI k4
  · have e : ρ.1 60096 = 17 := Int32.toInt_inj.mp h
    exact t_kwt1v17 hv ρ k1 ⟨hF.1, fcn (decide_eq_true e) (fcn (decide_eq_true (eD.trans e)) (fcn (di_lf (x := 1007) (y := ρ.1 60000) (show _ ≤ (1007 : Int) by omega)) hF.2))⟩ hI k4
  · have e : ρ.1 60096 = 18 := Int32.toInt_inj.mp h
    exact t_kwt1v18 hv ρ k1 ⟨hF.1, fcn (decide_eq_true e) (fcn (decide_eq_true (eD.trans e)) (fcn (di_lf (x := 1006) (y := ρ.1 60000) (show _ ≤ (1006 : Int) by omega)) hF.2))⟩ hI k4
  · have e : ρ.1 60096 = 19 := Int32.toInt_inj.mp h
    exact t_kwt1v19 hv ρ k1 ⟨hF.1, fcn (decide_eq_true e) (fcn (decide_eq_true (eD.trans e)) (fcn (di_lf (x := 1005) (y := ρ.1 60000) (show _ ≤ (1005 : Int) by omega)) hF.2))⟩ hI k4
  · have e : ρ.1 60096 = 20 := Int32.toInt_inj.mp h
    exact t_kwt1v20 hv ρ k1 ⟨hF.1, fcn (decide_eq_true e) (fcn (decide_eq_true (eD.trans e)) (fcn (di_lf (x := 1004) (y := ρ.1 60000) (show _ ≤ (1004 : Int) by omega)) hF.2))⟩ hI k4
  · have e : ρ.1 60096 = 21 := Int32.toInt_inj.mp h
    exact t_kwt1v21 hv ρ k1 ⟨hF.1, fcn (decide_eq_true e) (fcn (decide_eq_true (eD.trans e)) (fcn (di_lf (x := 1003) (y := ρ.1 60000) (show _ ≤ (1003 : Int) by omega)) hF.2))⟩ hI k4
  · have e : ρ.1 60096 = 22 := Int32.toInt_inj.mp h
    exact t_kwt1v22 hv ρ k1 ⟨hF.1, fcn (decide_eq_true e) (fcn (decide_eq_true (eD.trans e)) (fcn (di_lf (x := 1002) (y := ρ.1 60000) (show _ ≤ (1002 : Int) by omega)) hF.2))⟩ hI k4
  · have e : ρ.1 60096 = 23 := Int32.toInt_inj.mp h
    exact t_kwt1v23 hv ρ k1 ⟨hF.1, fcn (decide_eq_true e) (fcn (decide_eq_true (eD.trans e)) (fcn (di_lf (x := 1001) (y := ρ.1 60000) (show _ ≤ (1001 : Int) by omega)) hF.2))⟩ hI k4
  · have e : ρ.1 60096 = 24 := Int32.toInt_inj.mp h
    exact t_kwt1v24 hv ρ k1 ⟨hF.1, fcn (decide_eq_true e) (fcn (decide_eq_true (eD.trans e)) (fcn (di_lf (x := 1000) (y := ρ.1 60000) (show _ ≤ (1000 : Int) by omega)) hF.2))⟩ hI k4
theorem s_kwt1q {X : pX} : SREL X pF pdfl mt_all kR zKWt c_kwt1q := SREL_enter (d := 7) (q := q_kwt1) rfl c_kwt1q_f (fun ρ0 hv => t_kwt1 hv) rfl rfl rfl rfl
noncomputable def c_kwt1 : sC := (c_kwt1q.1, c_kwt1q.2.1, c_kwt1q.2.2.1, [((2, .arg 60000, .int 0), false), ((2, .int 1024, .add (.arg 60000) (.arg 60096)), false), ((0, .arg 19328, .arg 60096), true), ((2, .arg 60096, .int 0), false), ((2, .int 24, .arg 60096), false), ((2, .int 1024, .arg 60000), false), ((112, .add (.arg 60000) (.add (.elem (.arg 1412) (.int 0)) (.add (.int 0) (.elem (.arg 2212) (.int 0)))), .arg 60096), true)], (c_kwt1q.2.2.2.2.1.1, [64452, 64484, 1284]), (none, some (.int 0)), [((0, .arg 1298, .arg 60096), true), ((0, .arg 1554, .arg 60096), true)], ([], []))
theorem c_kwt1_f : cfine zWB 65536 c_kwt1 = true := by decide +kernel
theorem s_kwt1 {X : pX} : SREL X pF pdfl mt_all kR zWB c_kwt1 := SREL_share (p := 64452) (q := 64484) (s := 1284) (k := 45) (km := 230) (D := 1308) (n := 24) (c := 2244) (len := 144) (m := 96) s_kwt1q kR_0 kR_x (by decide) (by decide) (by decide +kernel) (by decide +kernel) (by decide) (by decide) (by decide) (by decide) (by decide) (by decide) (by decide) (by decide) (by decide) rfl rfl (by decide) (by decide) (by decide) (by decide) (by decide) rfl rfl rfl rfl (by decide +kernel) (by decide +kernel) (by decide +kernel) (by decide +kernel) (fun i hi => hi) (fun x hx => ⟨fun h => hx (by
    rcases List.mem_cons.mp h with h | h
    · rw [h]; exact List.mem_cons_self
    · rw [List.mem_singleton.mp h]; exact List.mem_cons_of_mem _ List.mem_cons_self), fun e => hx (by rw [e]; exact List.mem_cons_self), fun e => hx (by rw [e]; exact List.mem_cons_of_mem _ List.mem_cons_self), fun e => hx (by rw [e]; exact List.mem_cons_of_mem _ (List.mem_cons_of_mem _ List.mem_cons_self))⟩)
  (fun ρ kk ff ii => ⟨by
    have al : alk (fun _ => false) (fun i => i == 64452 || (i == 64484 || i == 1284)) (rsI 64484 (ρ.2.2.1 1284) (rsI 64452 (ρ.2.2.1 1284) ρ)) ρ := ⟨fun i _ => ⟨rfl, rfl⟩, fun x hx => by
      simp only [Bool.or_eq_false_iff, beq_eq_false_iff_ne, ne_eq] at hx
      exact ⟨(if_neg hx.2.1).trans (if_neg hx.1), rfl⟩⟩
    have h := nod_fall al (F := c_kwt1.2.2.2.1) (by decide +kernel) ff.2
    have h3 : sc X (rsI 64484 (ρ.2.2.1 1284) (rsI 64452 (ρ.2.2.1 1284) ρ)) (103, .add (.elem (.arg 64452) (.int 0)) (.elem (.arg 64484) (.int 0)), .int 24) = true := (k103 (by decide) (by decide) rfl).mpr (fun j _ => congrFun (rsI_pq (by decide)) j)
    exact fcn (h _ (List.mem_cons_self)) (fcn (h _ (List.mem_cons_of_mem _ (List.mem_cons_self))) (fcn (h _ (List.mem_cons_of_mem _ (List.mem_cons_of_mem _ (List.mem_cons_self)))) (fcn (h _ (List.mem_cons_of_mem _ (List.mem_cons_of_mem _ (List.mem_cons_of_mem _ (List.mem_cons_self))))) (fcn (h _ (List.mem_cons_of_mem _ (List.mem_cons_of_mem _ (List.mem_cons_of_mem _ (List.mem_cons_of_mem _ (List.mem_cons_self)))))) (fcn (h _ (List.mem_cons_of_mem _ (List.mem_cons_of_mem _ (List.mem_cons_of_mem _ (List.mem_cons_of_mem _ (List.mem_cons_of_mem _ (List.mem_cons_self))))))) (fcn (h _ (List.mem_cons_of_mem _ (List.mem_cons_of_mem _ (List.mem_cons_of_mem _ (List.mem_cons_of_mem _ (List.mem_cons_of_mem _ (List.mem_cons_of_mem _ (List.mem_cons_self)))))))) (fcn (h3) (fun f hf => by cases hf)))))))), fun c hc => by cases hc⟩)
  (fun ρ2 f2 i2 => ⟨fun j hj => (k103 (by decide) (by decide) rfl).mp (f2.2 _ (List.mem_cons_of_mem _ (List.mem_cons_of_mem _ (List.mem_cons_self)))) j (show (j : Int) < 24 by omega), nod_fall (ρ1 := rsI 1284 (ρ2.2.2.1 64452) ρ2) (ρ2 := ρ2) (V := fun _ => false) (R := fun i => i == 64452 || (i == 64484 || i == 1284)) ⟨fun i hi => ⟨rfl, rfl⟩, fun x hx => by
    simp only [Bool.or_eq_false_iff, beq_eq_false_iff_ne, ne_eq] at hx
    exact ⟨if_neg hx.2.2, rfl⟩⟩ (by decide +kernel) (fcn (f2.2 _ (List.mem_cons_self)) (fcn (f2.2 _ (List.mem_cons_of_mem _ (List.mem_cons_self))) (fun f hf => by cases hf))), fun c hc => by cases hc⟩)
