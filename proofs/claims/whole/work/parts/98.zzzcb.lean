set_option maxRecDepth 20000
theorem rem_12 {x : Int32} (h : 0 ≤ x.toInt) (q : x - x / 12 * 12 = 0) : x.toInt % 12 = 0 := by
  have e : x = x / 12 * 12 := by
    have := congrArg (fun z => z + x / 12 * 12) q
    simpa using this
  have d : (x / 12).toInt = x.toInt / 12 := by
    rw [Int32.toInt_div]
    have z : (12 : Int32).toInt = 12 := rfl
    rw [z, Int.tdiv_eq_ediv_of_nonneg h]
    have := Int32.toInt_lt x
    exact Int.bmod_eq_of_le (by omega) (by omega)
  have m : (x / 12 * 12).toInt = x.toInt / 12 * 12 := by
    rw [Int32.toInt_mul, d]
    have z : (12 : Int32).toInt = 12 := rfl
    have := Int32.toInt_lt x
    rw [z]
    exact Int.bmod_eq_of_le (by omega) (by omega)
  have := congrArg Int32.toInt e
  rw [m] at this
  omega
/-! ===== rows that a bank has kept ===== -/
noncomputable def cpI (bk a k : Nat) : sT := .elem (.arg bk) (if k = 0 then .arg a else .add (.arg a) (.int (Int32.ofNat k)))
noncomputable def cpW (bk a : Nat) : Nat → List (sT × sT)
  | 0 => []
  | k + 1 => (.int (Int32.ofNat k), cpI bk a k) :: cpW bk a k
theorem cp_v {X : pX} {ρ : sR} {bk a p j : Nat} (hb : bk % 2 = 0) (hp : p % 2 = 0) (a0 : 0 ≤ (ρ.1 a).toInt) (a1 : (ρ.1 a).toInt ≤ 5000) : ∀ n : Nat, n ≤ 1000 → aden X ρ (.arg p) (cpW bk a n) j = .int (if j < n then ρ.2.2.1 bk ((ρ.1 a).toInt.toNat + j) else ρ.2.2.1 p j)
  | 0, _ => by
    show (if p % 2 = 1 then _ else Value.int (ρ.2.2.1 p j)) = _
    rw [if_neg (by omega), if_neg (by omega)]
  | k + 1, hn => by
    show (if (Int32.ofNat k).toNatClampNeg = j then sv X ρ (cpI bk a k) else aden X ρ (.arg p) (cpW bk a k) j) = _
    rw [cp_v hb hp a0 a1 k (by omega), s_nat, sp_nat (by omega), Int.toNat_natCast]
    by_cases e : k = j
    · rw [if_pos e, if_pos (by omega), ← e]
      have hk : sk (cpI bk a k) = 0 := by
        unfold cpI
        show bk % 2 = 0
        exact hb
      rw [sv_int hk]
      congr 1
      unfold cpI
      by_cases z : k = 0
      · rw [if_pos z, z]
        show ρ.2.2.1 bk (ρ.1 a).toNatClampNeg = _
        rw [s_nat]
        rfl
      · rw [if_neg z]
        show ρ.2.2.1 bk (ρ.1 a + Int32.ofNat k).toNatClampNeg = _
        have hs := sp_nat (k := k) (by omega)
        rw [s_nat, s_add (by rw [hs]; omega) (by rw [hs]; omega), hs]
        exact congrArg (ρ.2.2.1 bk) (show ((ρ.1 a).toInt + (k : Int)).toNat = (ρ.1 a).toInt.toNat + k by omega)
    · rw [if_neg e]
      by_cases q : j < k
      · rw [if_pos q, if_pos (by omega)]
      · rw [if_neg q, if_neg (by omega)]
theorem k103 {X : pX} {ρ : sR} {a b : Nat} {n : sT} (ha : a % 2 = 0) (hb : b % 2 = 0) (hn : sk n = 0) : sc X ρ (103, .add (.elem (.arg a) (.int 0)) (.elem (.arg b) (.int 0)), n) = true ↔ ∀ j : Nat, (j : Int) < (sd X ρ n).1.toInt → ρ.2.2.1 a j = ρ.2.2.1 b j := by
  have e2 : sn X ρ n = (sd X ρ n).1.toInt := by
    unfold sn
    rw [if_neg (by rw [hn]; decide)]
  show (Nat.ble 100 103 && apred 103 (aits X ρ (.add (.elem (.arg a) (.int 0)) (.elem (.arg b) (.int 0)))) (sn X ρ n)) = true ↔ _
  rw [show Nat.ble 100 103 = true from rfl, Bool.true_and, e2, show aits X ρ (.add (.elem (.arg a) (.int 0)) (.elem (.arg b) (.int 0))) = [(aarr ρ (.elem (.arg a) (.int 0)), if sk (.elem (.arg a) (.int 0)) = 1 then (sd X ρ (.elem (.arg a) (.int 0))).2.toInt else (sd X ρ (.elem (.arg a) (.int 0))).1.toInt), (aarr ρ (.elem (.arg b) (.int 0)), if sk (.elem (.arg b) (.int 0)) = 1 then (sd X ρ (.elem (.arg b) (.int 0))).2.toInt else (sd X ρ (.elem (.arg b) (.int 0))).1.toInt)] from rfl, aar_b ha, aar_b hb]
  show ((List.range (sd X ρ n).1.toInt.toNat).all (fun j => decide (ρ.2.2.1 a j = ρ.2.2.1 b j))) = true ↔ _
  simp only [List.all_eq_true, List.mem_range, decide_eq_true_eq]
  exact ⟨fun h j hj => h j (by omega), fun h j hj => h j (by omega)⟩
theorem ap112 {f g h1 h2 : Nat → Int32} {k1 k2 k3 k4 : Nat → Int64} {x y u v n : Int} : apred 112 [((h1, k1), u), ((f, k2), x), ((h2, k3), v), ((g, k4), y)] n = (List.range n.toNat).all (fun j => decide (f (u.toNat + j) = g (v.toNat + j))) := rfl
theorem k112v {X : pX} {ρ : sR} {a b : Nat} {s t n : sT} (ha : a % 2 = 0) (hb : b % 2 = 0) (hn : sk n = 0) (hs : sk s = 0) (ht : sk t = 0) : sc X ρ (112, .add s (.add (.elem (.arg a) (.int 0)) (.add t (.elem (.arg b) (.int 0)))), n) = true ↔ ∀ j : Nat, (j : Int) < (sd X ρ n).1.toInt → ρ.2.2.1 a ((sd X ρ s).1.toInt.toNat + j) = ρ.2.2.1 b ((sd X ρ t).1.toInt.toNat + j) := by
  have e2 : sn X ρ n = (sd X ρ n).1.toInt := by
    unfold sn
    rw [if_neg (by rw [hn]; decide)]
  have h3 : aits X ρ (.add s (.add (.elem (.arg a) (.int 0)) (.add t (.elem (.arg b) (.int 0))))) = [(aarr ρ s, if sk s = 1 then (sd X ρ s).2.toInt else (sd X ρ s).1.toInt), (aarr ρ (.elem (.arg a) (.int 0)), if sk (.elem (.arg a) (.int 0)) = 1 then (sd X ρ (.elem (.arg a) (.int 0))).2.toInt else (sd X ρ (.elem (.arg a) (.int 0))).1.toInt), (aarr ρ t, if sk t = 1 then (sd X ρ t).2.toInt else (sd X ρ t).1.toInt), (aarr ρ (.elem (.arg b) (.int 0)), if sk (.elem (.arg b) (.int 0)) = 1 then (sd X ρ (.elem (.arg b) (.int 0))).2.toInt else (sd X ρ (.elem (.arg b) (.int 0))).1.toInt)] := rfl
  show (Nat.ble 100 112 && apred 112 (aits X ρ (.add s (.add (.elem (.arg a) (.int 0)) (.add t (.elem (.arg b) (.int 0)))))) (sn X ρ n)) = true ↔ _
  rw [show Nat.ble 100 112 = true from rfl, Bool.true_and, e2, h3, aar_b ha, aar_b hb, if_neg (show ¬ sk s = 1 by rw [hs]; decide), if_neg (show ¬ sk t = 1 by rw [ht]; decide), ap112]
  simp only [List.all_eq_true, List.mem_range, decide_eq_true_eq]
  exact ⟨fun h j hj => h j (by omega), fun h j hj => h j (by omega)⟩
noncomputable def zKWp : sH := zSh zWB 46 232 1308 144 2276 144 576 64452 64484
