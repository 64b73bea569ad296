set_option maxRecDepth 20000
/-! ===== a bank's entries, one after the other ===== -/
noncomputable def ksb (p : Nat) : Bool := (decide (aks[p]? = some none) && (decide (pt_BOOK.getD (5 * p + 1) 0 &&& 64 = 0) && decide (Int32.ofInt (ztab106.getD p 0) &&& 2 = 0))) || ((!decide (pt_BOOK.getD (5 * p + 1) 0 &&& 64 = 0)) && ((!decide (Int32.ofInt (ztab106.getD p 0) &&& 2 = 0)) && ((decide (pt_BOOK.getD (5 * p + 1) 0 &&& 15 = 0) && (decide (Int32.ofInt (ztab104.getD p 0) = 0) && decide (aks[p]? = some (some (1, 1))))) || ((decide (pt_BOOK.getD (5 * p + 1) 0 &&& 15 = 1) && (decide (Int32.ofInt (ztab104.getD p 0) = 1) && decide (aks[p]? = some (some (2, 2))))) || ((decide (pt_BOOK.getD (5 * p + 1) 0 &&& 15 = 2) && (decide (Int32.ofInt (ztab104.getD p 0) = 2) && decide (aks[p]? = some (some (4, 4))))) || ((decide (pt_BOOK.getD (5 * p + 1) 0 &&& 15 = 3) && (decide (Int32.ofInt (ztab104.getD p 0) = 3) && decide (aks[p]? = some (some (1, 1))))) || ((decide (pt_BOOK.getD (5 * p + 1) 0 &&& 15 = 4) && (decide (Int32.ofInt (ztab104.getD p 0) = 4) && decide (aks[p]? = some (some (2, 2))))) || ((decide (pt_BOOK.getD (5 * p + 1) 0 &&& 15 = 5) && (decide (Int32.ofInt (ztab104.getD p 0) = 5) && decide (aks[p]? = some (some (4, 4))))) || ((decide (pt_BOOK.getD (5 * p + 1) 0 &&& 15 = 6) && (decide (Int32.ofInt (ztab104.getD p 0) = 6) && decide (aks[p]? = some (some (0, 24))))) || ((decide (pt_BOOK.getD (5 * p + 1) 0 &&& 15 = 8) && (decide (Int32.ofInt (ztab104.getD p 0) = 7) && decide (aks[p]? = some (some (0, 144)))))))))))))))
theorem ks_f : (List.range 156).all ksb = true := by decide +kernel
theorem ks_o {p : Nat} (hp : p < 156) : (aks[p]? = some none ∧ pt_BOOK.getD (5 * p + 1) 0 &&& 64 = 0 ∧ Int32.ofInt (ztab106.getD p 0) &&& 2 = 0) ∨ ((¬ pt_BOOK.getD (5 * p + 1) 0 &&& 64 = 0) ∧ (¬ Int32.ofInt (ztab106.getD p 0) &&& 2 = 0) ∧ ((pt_BOOK.getD (5 * p + 1) 0 &&& 15 = 0 ∧ Int32.ofInt (ztab104.getD p 0) = 0 ∧ aks[p]? = some (some (1, 1))) ∨ (pt_BOOK.getD (5 * p + 1) 0 &&& 15 = 1 ∧ Int32.ofInt (ztab104.getD p 0) = 1 ∧ aks[p]? = some (some (2, 2))) ∨ (pt_BOOK.getD (5 * p + 1) 0 &&& 15 = 2 ∧ Int32.ofInt (ztab104.getD p 0) = 2 ∧ aks[p]? = some (some (4, 4))) ∨ (pt_BOOK.getD (5 * p + 1) 0 &&& 15 = 3 ∧ Int32.ofInt (ztab104.getD p 0) = 3 ∧ aks[p]? = some (some (1, 1))) ∨ (pt_BOOK.getD (5 * p + 1) 0 &&& 15 = 4 ∧ Int32.ofInt (ztab104.getD p 0) = 4 ∧ aks[p]? = some (some (2, 2))) ∨ (pt_BOOK.getD (5 * p + 1) 0 &&& 15 = 5 ∧ Int32.ofInt (ztab104.getD p 0) = 5 ∧ aks[p]? = some (some (4, 4))) ∨ (pt_BOOK.getD (5 * p + 1) 0 &&& 15 = 6 ∧ Int32.ofInt (ztab104.getD p 0) = 6 ∧ aks[p]? = some (some (0, 24))) ∨ (pt_BOOK.getD (5 * p + 1) 0 &&& 15 = 8 ∧ Int32.ofInt (ztab104.getD p 0) = 7 ∧ aks[p]? = some (some (0, 144))))) := by
  have h := List.all_eq_true.mp ks_f p (List.mem_range.mpr hp)
  unfold ksb at h
  simp only [Bool.or_eq_true, Bool.and_eq_true, Bool.not_eq_true', decide_eq_true_eq, decide_eq_false_iff_not] at h
  exact h
theorem aw_app {f : Nat → Int32} {e : Int} {l2 : List (Option (Int × Int))} : ∀ (l1 : List (Option (Int × Int))) (a : Int), awalk f e (l1 ++ l2) a = (awalk f e l1 a).bind (awalk f e l2)
  | [], _ => rfl
  | none :: r, a => aw_app r a
  | some q :: r, a => by
    simp only [List.cons_append, awalk]
    split
    · rfl
    · exact aw_app r _
theorem aw_t {p : Nat} {q : Option (Int × Int)} (h : aks[p]? = some q) : aks.take (p + 1) = aks.take p ++ [q] := by
  rw [List.take_add_one, h]
  rfl
theorem aw_d {p : Nat} {q : Option (Int × Int)} (h : aks[p]? = some q) : aks = aks.take p ++ (q :: aks.drop (p + 1)) := by
  obtain ⟨hlt, he⟩ := List.getElem?_eq_some_iff.mp h
  calc aks = aks.take p ++ aks.drop p := (List.take_append_drop p aks).symm
    _ = _ := by rw [List.drop_eq_getElem_cons hlt, he]
theorem wl_z {f : Nat → Int32} {e a : Int} {p : Nat} (h : awalk f e (aks.take p) 8 = some a) (hp : aks[p]? = some none) : awalk f e (aks.take (p + 1)) 8 = some a := by
  rw [aw_t hp, aw_app, h]
  rfl
theorem wl_s {f : Nat → Int32} {e a : Int} {p : Nat} {q : Int × Int} (h : awalk f e (aks.take p) 8 = some a) (hp : aks[p]? = some (some q)) (h1 : a < e) (h2 : q.1 ≤ (f a.toNat).toInt) (h3 : (f a.toNat).toInt ≤ q.2) : awalk f e (aks.take (p + 1)) 8 = some (a + 1 + (f a.toNat).toInt) := by
  rw [aw_t hp, aw_app, h]
  show awalk f e [some q] a = _
  simp only [awalk]
  rw [decide_eq_false (show ¬ e ≤ a by omega), decide_eq_false (show ¬ (f a.toNat).toInt < q.1 by omega), decide_eq_false (show ¬ q.2 < (f a.toNat).toInt by omega)]
  rfl
theorem wl_n {f : Nat → Int32} {e a : Int} {p : Nat} {q : Int × Int} (h : awalk f e (aks.take p) 8 = some a) (hp : aks[p]? = some (some q)) (hx : e ≤ a ∨ (f a.toNat).toInt < q.1 ∨ q.2 < (f a.toNat).toInt) : awalk f e aks 8 = none := by
  rw [aw_d hp, aw_app, h]
  show awalk f e (some q :: aks.drop (p + 1)) a = none
  simp only [awalk]
  rw [if_pos]
  rcases hx with x | x | x
  · rw [decide_eq_true x]; rfl
  · rw [decide_eq_true x]; simp
  · rw [decide_eq_true x]; simp
theorem aw_gt {f : Nat → Int32} {e : Int} : ∀ (l : List (Option (Int × Int))) (a : Int), e < a → ¬ awalk f e l a = some e
  | [], a, h => fun q => by have := Option.some.inj q; omega
  | none :: r, a, h => aw_gt r a h
  | some q :: r, a, h => by
    simp only [awalk]
    rw [decide_eq_true (show e ≤ a by omega)]
    intro q
    cases q
theorem wl_g {f : Nat → Int32} {e a : Int} {p : Nat} (h : awalk f e (aks.take p) 8 = some a) (hx : e < a) : ¬ awalk f e aks 8 = some e := by
  rw [← List.take_append_drop p aks, aw_app, h]
  exact aw_gt _ a hx
theorem ct_0 {f : Nat → Int32} (h : ¬ awalk f (alen f - 2) aks 8 = some (alen f - 2)) : acounts f = false := by
  unfold acounts
  rw [decide_eq_false h]
  simp
theorem ct_h {f : Nat → Int32} (h : ¬ (f 0).toInt = 165 ∨ ¬ (f 1).toInt = 90 ∨ ¬ 11 ≤ alen f ∨ ¬ alen f ≤ 1024) : acounts f = false := by
  unfold acounts
  rcases h with h | h | h | h
  · rw [decide_eq_false h]; rfl
  · rw [decide_eq_false h]; simp
  · rw [decide_eq_false h]; simp
  · rw [decide_eq_false h]; simp
theorem ct_s {f : Nat → Int32} (h : ¬ (acrc f (alen f - 2).toNat).toInt = (f (alen f - 2).toNat).toInt + 256 * (f (alen f - 1).toNat).toInt) : acounts f = false := by
  unfold acounts
  rw [decide_eq_false h]
  simp
theorem ct_1 {f : Nat → Int32} (h0 : (f 0).toInt = 165) (h1 : (f 1).toInt = 90) (h2 : 11 ≤ alen f) (h3 : alen f ≤ 1024) (h4 : awalk f (alen f - 2) aks 8 = some (alen f - 2)) (h5 : (acrc f (alen f - 2).toNat).toInt = (f (alen f - 2).toNat).toInt + 256 * (f (alen f - 1).toNat).toInt) : acounts f = true := by
  unfold acounts
  rw [decide_eq_true h0, decide_eq_true h1, decide_eq_true h2, decide_eq_true h3, decide_eq_true h4, decide_eq_true h5]
  rfl
theorem aar_b {ρ : sR} {b : Nat} (hb : b % 2 = 0) : aarr ρ (.elem (.arg b) (.int 0)) = (ρ.2.2.1 b, fun _ => 0) := by
  unfold aarr
  simp only []
  rw [if_neg (by omega)]
theorem k115 {X : pX} {ρ : sR} {b : Nat} (hb : b % 2 = 0 := by decide) : sc X ρ (115, .elem (.arg b) (.int 0), .arg 60034) = true ↔ (ρ.1 60034).toInt = if acounts (ρ.2.2.1 b) = true then 1 else 0 := by
  show apred 115 [(aarr ρ (.elem (.arg b) (.int 0)), _)] (ρ.1 60034).toInt = true ↔ _
  rw [aar_b hb]
  exact decide_eq_true_iff
theorem k115_0 {X : pX} {ρ : sR} {b : Nat} (hb : b % 2 = 0 := by decide) (hN : sc X ρ (115, .elem (.arg b) (.int 0), .arg 60034) = true) (h : acounts (ρ.2.2.1 b) = false) : sc X ρ (0, .arg 60034, .int 0) = true := by
  have e := (k115 hb).mp hN
  rw [h] at e
  exact decide_eq_true (Int32.toInt_inj.mp e)
theorem k115_1 {X : pX} {ρ : sR} {b : Nat} (hb : b % 2 = 0 := by decide) (hN : sc X ρ (115, .elem (.arg b) (.int 0), .arg 60034) = true) (h : acounts (ρ.2.2.1 b) = true) : sc X ρ (0, .arg 60034, .int 1) = true := by
  have e := (k115 hb).mp hN
  rw [h] at e
  exact decide_eq_true (Int32.toInt_inj.mp e)
theorem k152 {X : pX} {ρ : sR} {b : Nat} (hb : b % 2 = 0 := by decide) : sc X ρ (152, .elem (.arg b) (.int 0), .arg 60032) = true ↔ ((ρ.2.2.1 b 0).toInt = 165 ∧ (ρ.2.2.1 b 1).toInt = 90 ∧ 11 ≤ alen (ρ.2.2.1 b) ∧ alen (ρ.2.2.1 b) ≤ 1024 ∧ (ρ.1 60032).toInt = alen (ρ.2.2.1 b) - 2) := by
  show apred 152 [(aarr ρ (.elem (.arg b) (.int 0)), _)] (ρ.1 60032).toInt = true ↔ _
  rw [aar_b hb]
  show (decide ((ρ.2.2.1 b 0).toInt = 165) && (decide ((ρ.2.2.1 b 1).toInt = 90) && (decide (11 ≤ alen (ρ.2.2.1 b)) && (decide (alen (ρ.2.2.1 b) ≤ 1024) && decide ((ρ.1 60032).toInt = alen (ρ.2.2.1 b) - 2))))) = true ↔ _
  simp only [Bool.and_eq_true, decide_eq_true_eq]
theorem k118 {X : pX} {ρ : sR} {b : Nat} (hb : b % 2 = 0 := by decide) : sc X ρ (118, .add (.arg 60000) (.elem (.arg b) (.int 0)), .arg 60064) = true ↔ awalk (ρ.2.2.1 b) (alen (ρ.2.2.1 b) - 2) (aks.take (ρ.1 60064).toInt.toNat) 8 = some (ρ.1 60000).toInt := by
  show apred 118 [(aarr ρ (.arg 60000), (ρ.1 60000).toInt), (aarr ρ (.elem (.arg b) (.int 0)), _)] (ρ.1 60064).toInt = true ↔ _
  rw [aar_b hb]
  exact decide_eq_true_iff
theorem k118e {X : pX} {ρ : sR} {b : Nat} (hb : b % 2 = 0 := by decide) : sc X ρ (118, .add (.arg 60032) (.elem (.arg b) (.int 0)), .int 156) = true ↔ awalk (ρ.2.2.1 b) (alen (ρ.2.2.1 b) - 2) aks 8 = some (ρ.1 60032).toInt := by
  show apred 118 [(aarr ρ (.arg 60032), (ρ.1 60032).toInt), (aarr ρ (.elem (.arg b) (.int 0)), _)] (156 : Int32).toInt = true ↔ _
  rw [aar_b hb]
  exact decide_eq_true_iff
theorem k153 {X : pX} {ρ : sR} {b : Nat} (hb : b % 2 = 0 := by decide) : sc X ρ (153, .elem (.arg b) (.int 0), .arg 60032) = true ↔ (acrc (ρ.2.2.1 b) (ρ.1 60032).toInt.toNat).toInt = (ρ.2.2.1 b (ρ.1 60032).toInt.toNat).toInt + 256 * (ρ.2.2.1 b ((ρ.1 60032).toInt.toNat + 1)).toInt := by
  show apred 153 [(aarr ρ (.elem (.arg b) (.int 0)), _)] (ρ.1 60032).toInt = true ↔ _
  rw [aar_b hb]
  exact decide_eq_true_iff
theorem k_fin {X : pX} {ρ : sR} {b : Nat} (hb : b % 2 = 0 := by decide) (hN : sc X ρ (115, .elem (.arg b) (.int 0), .arg 60034) = true) (h8 : awalk (ρ.2.2.1 b) (alen (ρ.2.2.1 b) - 2) aks 8 = some (alen (ρ.2.2.1 b) - 2)) (h2 : sc X ρ (152, .elem (.arg b) (.int 0), .arg 60032) = true) (h3 : sc X ρ (153, .elem (.arg b) (.int 0), .arg 60032) = true) : sc X ρ (0, .arg 60034, .int 1) = true := by
  obtain ⟨q0, q1, q2, q3, q4⟩ := (k152 hb).mp h2
  have h5 := (k153 hb).mp h3
  rw [q4] at h5
  have e : (alen (ρ.2.2.1 b) - 2).toNat + 1 = (alen (ρ.2.2.1 b) - 1).toNat := by omega
  rw [e] at h5
  exact k115_1 hb hN (ct_1 q0 q1 q2 q3 h8 h5)
theorem k_bad {X : pX} {ρ : sR} {b : Nat} (hb : b % 2 = 0 := by decide) (hN : sc X ρ (115, .elem (.arg b) (.int 0), .arg 60034) = true) (h2 : sc X ρ (152, .elem (.arg b) (.int 0), .arg 60032) = true) (h3 : ¬ sc X ρ (153, .elem (.arg b) (.int 0), .arg 60032) = true) : sc X ρ (0, .arg 60034, .int 0) = true := by
  obtain ⟨q0, q1, q2, q3, q4⟩ := (k152 hb).mp h2
  refine k115_0 hb hN (ct_s (fun q => h3 ((k153 hb).mpr ?_)))
  have e : (alen (ρ.2.2.1 b) - 2).toNat + 1 = (alen (ρ.2.2.1 b) - 1).toNat := by omega
  rw [q4, e]
  exact q
theorem by_or8 {x y : Int32} (hx : 0 ≤ x.toInt ∧ x.toInt ≤ 255) (hy : 0 ≤ y.toInt ∧ y.toInt ≤ 255) : (x ||| (y <<< ((8 : Int32) &&& 31))).toInt = x.toInt + 256 * y.toInt := by
  have nx : x.toInt = (x.toBitVec.toNat : Int) := by
    have : x.toInt = x.toBitVec.toInt := rfl
    rw [this, BitVec.toInt_eq_toNat_cond] at hx ⊢
    have := x.toBitVec.isLt
    split at hx <;> omega
  have ny : y.toInt = (y.toBitVec.toNat : Int) := by
    have : y.toInt = y.toBitVec.toInt := rfl
    rw [this, BitVec.toInt_eq_toNat_cond] at hy ⊢
    have := y.toBitVec.isLt
    split at hy <;> omega
  have e : (x ||| (y <<< ((8 : Int32) &&& 31))).toBitVec = x.toBitVec ||| (y.toBitVec <<< 8) := rfl
  have n : (x.toBitVec ||| (y.toBitVec <<< 8)).toNat = x.toBitVec.toNat + 256 * y.toBitVec.toNat := by
    rw [BitVec.toNat_or, BitVec.toNat_shiftLeft, Nat.or_comm]
    rw [Nat.mod_eq_of_lt (by rw [Nat.shiftLeft_eq]; omega), ← Nat.shiftLeft_add_eq_or_of_lt (by omega), Nat.shiftLeft_eq]
    omega
  show (x ||| (y <<< ((8 : Int32) &&& 31))).toBitVec.toInt = _
  rw [e, BitVec.toInt_eq_toNat_cond, n, nx, ny]
  split <;> omega
theorem ks_n {X : pX} {ρ : sR} (k1 : kok X ρ kR) {s : Nat} (hs : s % 2 = 0) (s0 : (0 : Int) ≤ (ρ.1 s).toInt) (s1 : (ρ.1 s).toInt < 156) (h : sc X ρ (0, .op2 .iand (.elem (.string "" 1) (.add (.mul (.arg s) (.int 5)) (.int 1))) (.int 64), .int 0) = true) : aks[(ρ.1 s).toInt.toNat]? = some none := by
  have m1 := op_tab k1 (p := (ρ.1 s).toInt.toNat) (by omega) hs (by omega)
  have h : (sd X ρ (.elem (.string "" 1) (.add (.mul (.arg s) (.int 5)) (.int 1)))).1 &&& 64 = 0 := of_decide_eq_true h
  rw [m1.1] at h
  rcases ks_o (p := (ρ.1 s).toInt.toNat) (by omega) with ⟨q, _, _⟩ | ⟨q1, _, _⟩
  · exact q
  · exact absurd h q1
theorem ks_nm {X : pX} {ρ : sR} (k1 : kok X ρ kR) {s : Nat} (hs : s % 2 = 0) (s0 : (0 : Int) ≤ (ρ.1 s).toInt) (s1 : (ρ.1 s).toInt < 156) (h : sc X ρ (0, .op2 .iand (.elem (.arg 106) (.arg s)) (.int 2), .int 0) = true) : aks[(ρ.1 s).toInt.toNat]? = some none := by
  have m1 := op_tab k1 (p := (ρ.1 s).toInt.toNat) (by omega) hs (by omega)
  have h : ρ.2.2.1 106 (ρ.1 s).toNatClampNeg &&& 2 = 0 := of_decide_eq_true h
  rw [m1.2.2.2.2] at h
  rcases ks_o (p := (ρ.1 s).toInt.toNat) (by omega) with ⟨q, _, _⟩ | ⟨_, q2, _⟩
  · exact q
  · exact absurd h q2
theorem adw_1 {x y : Int32} (h1 : 0 ≤ x.toInt) (h2 : x.toInt ≤ 2000) (h3 : 0 ≤ y.toInt) (h4 : y.toInt ≤ 255) : (x + (y + 1)).toInt = x.toInt + 1 + y.toInt := by
  have e : (y + 1).toInt = y.toInt + 1 := s_add (y := 1) (by show _ ≤ _ + (1 : Int); omega) (by show _ + (1 : Int) ≤ _; omega)
  rw [s_add (by rw [e]; omega) (by rw [e]; omega), e]
  omega
theorem ln_h {X : pX} {ρ : sR} {b a : Nat} {n : Int64} (h : n.toInt < (ρ.2.2.1 b (ρ.1 a).toInt.toNat).toInt) : sc X ρ (8, .long n, .op1 .i2l (.elem (.arg b) (.arg a))) = true := dl_lt (x := n) (y := (ρ.2.2.1 b (ρ.1 a).toNatClampNeg).toInt64) (by rw [Int32.toInt_toInt64]; exact h)
theorem ln_hn {X : pX} {ρ : sR} {b a : Nat} {n : Int64} (h : ¬ n.toInt < (ρ.2.2.1 b (ρ.1 a).toInt.toNat).toInt) : sc X ρ (8, .long n, .op1 .i2l (.elem (.arg b) (.arg a))) = false := dl_lf (x := n) (y := (ρ.2.2.1 b (ρ.1 a).toNatClampNeg).toInt64) (by rw [Int32.toInt_toInt64]; exact Int.not_lt.mp h)
theorem ln_l {X : pX} {ρ : sR} {b a : Nat} {n : Int64} (h : (ρ.2.2.1 b (ρ.1 a).toInt.toNat).toInt < n.toInt) : sc X ρ (8, .op1 .i2l (.elem (.arg b) (.arg a)), .long n) = true := dl_lt (x := (ρ.2.2.1 b (ρ.1 a).toNatClampNeg).toInt64) (y := n) (by rw [Int32.toInt_toInt64]; exact h)
theorem ln_ln {X : pX} {ρ : sR} {b a : Nat} {n : Int64} (h : ¬ (ρ.2.2.1 b (ρ.1 a).toInt.toNat).toInt < n.toInt) : sc X ρ (8, .op1 .i2l (.elem (.arg b) (.arg a)), .long n) = false := dl_lf (x := (ρ.2.2.1 b (ρ.1 a).toNatClampNeg).toInt64) (y := n) (by rw [Int32.toInt_toInt64]; exact Int.not_lt.mp h)
theorem ln_hi {X : pX} {ρ : sR} {b a : Nat} {n : Int64} (h : sc X ρ (8, .long n, .op1 .i2l (.elem (.arg b) (.arg a))) = false) : (ρ.2.2.1 b (ρ.1 a).toInt.toNat).toInt ≤ n.toInt := by
  have := rl_lf (x := n) (y := (ρ.2.2.1 b (ρ.1 a).toNatClampNeg).toInt64) h
  rw [Int32.toInt_toInt64] at this
  exact this
theorem ln_lo {X : pX} {ρ : sR} {b a : Nat} {n : Int64} (h : sc X ρ (8, .op1 .i2l (.elem (.arg b) (.arg a)), .long n) = false) : n.toInt ≤ (ρ.2.2.1 b (ρ.1 a).toInt.toNat).toInt := by
  have := rl_lf (x := (ρ.2.2.1 b (ρ.1 a).toNatClampNeg).toInt64) (y := n) h
  rw [Int32.toInt_toInt64] at this
  exact this
theorem ks_c0 {X : pX} {ρ : sR} (k1 : kok X ρ kR) {s : Nat} (hs : s % 2 = 0) (s0 : (0 : Int) ≤ (ρ.1 s).toInt) (s1 : (ρ.1 s).toInt < 156) (h : sc X ρ (0, .op2 .iand (.elem (.string "" 1) (.add (.mul (.arg s) (.int 5)) (.int 1))) (.int 64), .int 0) = false) (h2 : sc X ρ (0, .op2 .iand (.elem (.string "" 1) (.add (.mul (.arg s) (.int 5)) (.int 1))) (.int 15), .int 0) = true) : aks[(ρ.1 s).toInt.toNat]? = some (some (1, 1)) := by
  have m1 := op_tab k1 (p := (ρ.1 s).toInt.toNat) (by omega) hs (by omega)
  have h : ¬ (sd X ρ (.elem (.string "" 1) (.add (.mul (.arg s) (.int 5)) (.int 1)))).1 &&& 64 = 0 := of_decide_eq_false h
  have h2 : (sd X ρ (.elem (.string "" 1) (.add (.mul (.arg s) (.int 5)) (.int 1)))).1 &&& 15 = 0 := of_decide_eq_true h2
  rw [m1.1] at h
  rw [m1.1] at h2
  rcases ks_o (p := (ρ.1 s).toInt.toNat) (by omega) with ⟨_, q1, q2⟩ | ⟨_, _, y⟩
  · exact absurd q1 h
  · rcases y with y | y | y | y | y | y | y | y
    · exact y.2.2
    · rw [y.1] at h2; exact absurd h2 (by decide)
    · rw [y.1] at h2; exact absurd h2 (by decide)
    · rw [y.1] at h2; exact absurd h2 (by decide)
    · rw [y.1] at h2; exact absurd h2 (by decide)
    · rw [y.1] at h2; exact absurd h2 (by decide)
    · rw [y.1] at h2; exact absurd h2 (by decide)
    · rw [y.1] at h2; exact absurd h2 (by decide)
theorem ks_m0 {X : pX} {ρ : sR} (k1 : kok X ρ kR) {s : Nat} (hs : s % 2 = 0) (s0 : (0 : Int) ≤ (ρ.1 s).toInt) (s1 : (ρ.1 s).toInt < 156) (h : sc X ρ (0, .op2 .iand (.elem (.arg 106) (.arg s)) (.int 2), .int 0) = false) (h2 : sc X ρ (0, .elem (.arg 104) (.arg s), .int 0) = true) : aks[(ρ.1 s).toInt.toNat]? = some (some (1, 1)) := by
  have m1 := op_tab k1 (p := (ρ.1 s).toInt.toNat) (by omega) hs (by omega)
  have h : ¬ ρ.2.2.1 106 (ρ.1 s).toNatClampNeg &&& 2 = 0 := of_decide_eq_false h
  have h2 : ρ.2.2.1 104 (ρ.1 s).toNatClampNeg = 0 := of_decide_eq_true h2
  rw [m1.2.2.2.2] at h
  rw [m1.2.2.2.1] at h2
  rcases ks_o (p := (ρ.1 s).toInt.toNat) (by omega) with ⟨_, q1, q2⟩ | ⟨_, _, y⟩
  · exact absurd q2 h
  · rcases y with y | y | y | y | y | y | y | y
    · exact y.2.2
    · rw [y.2.1] at h2; exact absurd h2 (by decide)
    · rw [y.2.1] at h2; exact absurd h2 (by decide)
    · rw [y.2.1] at h2; exact absurd h2 (by decide)
    · rw [y.2.1] at h2; exact absurd h2 (by decide)
    · rw [y.2.1] at h2; exact absurd h2 (by decide)
    · rw [y.2.1] at h2; exact absurd h2 (by decide)
    · rw [y.2.1] at h2; exact absurd h2 (by decide)
theorem ks_c1 {X : pX} {ρ : sR} (k1 : kok X ρ kR) {s : Nat} (hs : s % 2 = 0) (s0 : (0 : Int) ≤ (ρ.1 s).toInt) (s1 : (ρ.1 s).toInt < 156) (h : sc X ρ (0, .op2 .iand (.elem (.string "" 1) (.add (.mul (.arg s) (.int 5)) (.int 1))) (.int 64), .int 0) = false) (h2 : sc X ρ (0, .op2 .iand (.elem (.string "" 1) (.add (.mul (.arg s) (.int 5)) (.int 1))) (.int 15), .int 1) = true) : aks[(ρ.1 s).toInt.toNat]? = some (some (2, 2)) := by
  have m1 := op_tab k1 (p := (ρ.1 s).toInt.toNat) (by omega) hs (by omega)
  have h : ¬ (sd X ρ (.elem (.string "" 1) (.add (.mul (.arg s) (.int 5)) (.int 1)))).1 &&& 64 = 0 := of_decide_eq_false h
  have h2 : (sd X ρ (.elem (.string "" 1) (.add (.mul (.arg s) (.int 5)) (.int 1)))).1 &&& 15 = 1 := of_decide_eq_true h2
  rw [m1.1] at h
  rw [m1.1] at h2
  rcases ks_o (p := (ρ.1 s).toInt.toNat) (by omega) with ⟨_, q1, q2⟩ | ⟨_, _, y⟩
  · exact absurd q1 h
  · rcases y with y | y | y | y | y | y | y | y
    · rw [y.1] at h2; exact absurd h2 (by decide)
    · exact y.2.2
    · rw [y.1] at h2; exact absurd h2 (by decide)
    · rw [y.1] at h2; exact absurd h2 (by decide)
    · rw [y.1] at h2; exact absurd h2 (by decide)
    · rw [y.1] at h2; exact absurd h2 (by decide)
    · rw [y.1] at h2; exact absurd h2 (by decide)
    · rw [y.1] at h2; exact absurd h2 (by decide)
theorem ks_m1 {X : pX} {ρ : sR} (k1 : kok X ρ kR) {s : Nat} (hs : s % 2 = 0) (s0 : (0 : Int) ≤ (ρ.1 s).toInt) (s1 : (ρ.1 s).toInt < 156) (h : sc X ρ (0, .op2 .iand (.elem (.arg 106) (.arg s)) (.int 2), .int 0) = false) (h2 : sc X ρ (0, .elem (.arg 104) (.arg s), .int 1) = true) : aks[(ρ.1 s).toInt.toNat]? = some (some (2, 2)) := by
  have m1 := op_tab k1 (p := (ρ.1 s).toInt.toNat) (by omega) hs (by omega)
  have h : ¬ ρ.2.2.1 106 (ρ.1 s).toNatClampNeg &&& 2 = 0 := of_decide_eq_false h
  have h2 : ρ.2.2.1 104 (ρ.1 s).toNatClampNeg = 1 := of_decide_eq_true h2
  rw [m1.2.2.2.2] at h
  rw [m1.2.2.2.1] at h2
  rcases ks_o (p := (ρ.1 s).toInt.toNat) (by omega) with ⟨_, q1, q2⟩ | ⟨_, _, y⟩
  · exact absurd q2 h
  · rcases y with y | y | y | y | y | y | y | y
    · rw [y.2.1] at h2; exact absurd h2 (by decide)
    · exact y.2.2
    · rw [y.2.1] at h2; exact absurd h2 (by decide)
    · rw [y.2.1] at h2; exact absurd h2 (by decide)
    · rw [y.2.1] at h2; exact absurd h2 (by decide)
    · rw [y.2.1] at h2; exact absurd h2 (by decide)
    · rw [y.2.1] at h2; exact absurd h2 (by decide)
    · rw [y.2.1] at h2; exact absurd h2 (by decide)
theorem ks_c2 {X : pX} {ρ : sR} (k1 : kok X ρ kR) {s : Nat} (hs : s % 2 = 0) (s0 : (0 : Int) ≤ (ρ.1 s).toInt) (s1 : (ρ.1 s).toInt < 156) (h : sc X ρ (0, .op2 .iand (.elem (.string "" 1) (.add (.mul (.arg s) (.int 5)) (.int 1))) (.int 64), .int 0) = false) (h2 : sc X ρ (0, .op2 .iand (.elem (.string "" 1) (.add (.mul (.arg s) (.int 5)) (.int 1))) (.int 15), .int 2) = true) : aks[(ρ.1 s).toInt.toNat]? = some (some (4, 4)) := by
  have m1 := op_tab k1 (p := (ρ.1 s).toInt.toNat) (by omega) hs (by omega)
  have h : ¬ (sd X ρ (.elem (.string "" 1) (.add (.mul (.arg s) (.int 5)) (.int 1)))).1 &&& 64 = 0 := of_decide_eq_false h
  have h2 : (sd X ρ (.elem (.string "" 1) (.add (.mul (.arg s) (.int 5)) (.int 1)))).1 &&& 15 = 2 := of_decide_eq_true h2
  rw [m1.1] at h
  rw [m1.1] at h2
  rcases ks_o (p := (ρ.1 s).toInt.toNat) (by omega) with ⟨_, q1, q2⟩ | ⟨_, _, y⟩
  · exact absurd q1 h
  · rcases y with y | y | y | y | y | y | y | y
    · rw [y.1] at h2; exact absurd h2 (by decide)
    · rw [y.1] at h2; exact absurd h2 (by decide)
    · exact y.2.2
    · rw [y.1] at h2; exact absurd h2 (by decide)
    · rw [y.1] at h2; exact absurd h2 (by decide)
    · rw [y.1] at h2; exact absurd h2 (by decide)
    · rw [y.1] at h2; exact absurd h2 (by decide)
    · rw [y.1] at h2; exact absurd h2 (by decide)
theorem ks_m2 {X : pX} {ρ : sR} (k1 : kok X ρ kR) {s : Nat} (hs : s % 2 = 0) (s0 : (0 : Int) ≤ (ρ.1 s).toInt) (s1 : (ρ.1 s).toInt < 156) (h : sc X ρ (0, .op2 .iand (.elem (.arg 106) (.arg s)) (.int 2), .int 0) = false) (h2 : sc X ρ (0, .elem (.arg 104) (.arg s), .int 2) = true) : aks[(ρ.1 s).toInt.toNat]? = some (some (4, 4)) := by
  have m1 := op_tab k1 (p := (ρ.1 s).toInt.toNat) (by omega) hs (by omega)
  have h : ¬ ρ.2.2.1 106 (ρ.1 s).toNatClampNeg &&& 2 = 0 := of_decide_eq_false h
  have h2 : ρ.2.2.1 104 (ρ.1 s).toNatClampNeg = 2 := of_decide_eq_true h2
  rw [m1.2.2.2.2] at h
  rw [m1.2.2.2.1] at h2
  rcases ks_o (p := (ρ.1 s).toInt.toNat) (by omega) with ⟨_, q1, q2⟩ | ⟨_, _, y⟩
  · exact absurd q2 h
  · rcases y with y | y | y | y | y | y | y | y
    · rw [y.2.1] at h2; exact absurd h2 (by decide)
    · rw [y.2.1] at h2; exact absurd h2 (by decide)
    · exact y.2.2
    · rw [y.2.1] at h2; exact absurd h2 (by decide)
    · rw [y.2.1] at h2; exact absurd h2 (by decide)
    · rw [y.2.1] at h2; exact absurd h2 (by decide)
    · rw [y.2.1] at h2; exact absurd h2 (by decide)
    · rw [y.2.1] at h2; exact absurd h2 (by decide)
theorem ks_c3 {X : pX} {ρ : sR} (k1 : kok X ρ kR) {s : Nat} (hs : s % 2 = 0) (s0 : (0 : Int) ≤ (ρ.1 s).toInt) (s1 : (ρ.1 s).toInt < 156) (h : sc X ρ (0, .op2 .iand (.elem (.string "" 1) (.add (.mul (.arg s) (.int 5)) (.int 1))) (.int 64), .int 0) = false) (h2 : sc X ρ (0, .op2 .iand (.elem (.string "" 1) (.add (.mul (.arg s) (.int 5)) (.int 1))) (.int 15), .int 3) = true) : aks[(ρ.1 s).toInt.toNat]? = some (some (1, 1)) := by
  have m1 := op_tab k1 (p := (ρ.1 s).toInt.toNat) (by omega) hs (by omega)
  have h : ¬ (sd X ρ (.elem (.string "" 1) (.add (.mul (.arg s) (.int 5)) (.int 1)))).1 &&& 64 = 0 := of_decide_eq_false h
  have h2 : (sd X ρ (.elem (.string "" 1) (.add (.mul (.arg s) (.int 5)) (.int 1)))).1 &&& 15 = 3 := of_decide_eq_true h2
  rw [m1.1] at h
  rw [m1.1] at h2
  rcases ks_o (p := (ρ.1 s).toInt.toNat) (by omega) with ⟨_, q1, q2⟩ | ⟨_, _, y⟩
  · exact absurd q1 h
  · rcases y with y | y | y | y | y | y | y | y
    · rw [y.1] at h2; exact absurd h2 (by decide)
    · rw [y.1] at h2; exact absurd h2 (by decide)
    · rw [y.1] at h2; exact absurd h2 (by decide)
    · exact y.2.2
    · rw [y.1] at h2; exact absurd h2 (by decide)
    · rw [y.1] at h2; exact absurd h2 (by decide)
    · rw [y.1] at h2; exact absurd h2 (by decide)
    · rw [y.1] at h2; exact absurd h2 (by decide)
theorem ks_m3 {X : pX} {ρ : sR} (k1 : kok X ρ kR) {s : Nat} (hs : s % 2 = 0) (s0 : (0 : Int) ≤ (ρ.1 s).toInt) (s1 : (ρ.1 s).toInt < 156) (h : sc X ρ (0, .op2 .iand (.elem (.arg 106) (.arg s)) (.int 2), .int 0) = false) (h2 : sc X ρ (0, .elem (.arg 104) (.arg s), .int 3) = true) : aks[(ρ.1 s).toInt.toNat]? = some (some (1, 1)) := by
  have m1 := op_tab k1 (p := (ρ.1 s).toInt.toNat) (by omega) hs (by omega)
  have h : ¬ ρ.2.2.1 106 (ρ.1 s).toNatClampNeg &&& 2 = 0 := of_decide_eq_false h
  have h2 : ρ.2.2.1 104 (ρ.1 s).toNatClampNeg = 3 := of_decide_eq_true h2
  rw [m1.2.2.2.2] at h
  rw [m1.2.2.2.1] at h2
  rcases ks_o (p := (ρ.1 s).toInt.toNat) (by omega) with ⟨_, q1, q2⟩ | ⟨_, _, y⟩
  · exact absurd q2 h
  · rcases y with y | y | y | y | y | y | y | y
    · rw [y.2.1] at h2; exact absurd h2 (by decide)
    · rw [y.2.1] at h2; exact absurd h2 (by decide)
    · rw [y.2.1] at h2; exact absurd h2 (by decide)
    · exact y.2.2
    · rw [y.2.1] at h2; exact absurd h2 (by decide)
    · rw [y.2.1] at h2; exact absurd h2 (by decide)
    · rw [y.2.1] at h2; exact absurd h2 (by decide)
    · rw [y.2.1] at h2; exact absurd h2 (by decide)
theorem ks_c4 {X : pX} {ρ : sR} (k1 : kok X ρ kR) {s : Nat} (hs : s % 2 = 0) (s0 : (0 : Int) ≤ (ρ.1 s).toInt) (s1 : (ρ.1 s).toInt < 156) (h : sc X ρ (0, .op2 .iand (.elem (.string "" 1) (.add (.mul (.arg s) (.int 5)) (.int 1))) (.int 64), .int 0) = false) (h2 : sc X ρ (0, .op2 .iand (.elem (.string "" 1) (.add (.mul (.arg s) (.int 5)) (.int 1))) (.int 15), .int 4) = true) : aks[(ρ.1 s).toInt.toNat]? = some (some (2, 2)) := by
  have m1 := op_tab k1 (p := (ρ.1 s).toInt.toNat) (by omega) hs (by omega)
  have h : ¬ (sd X ρ (.elem (.string "" 1) (.add (.mul (.arg s) (.int 5)) (.int 1)))).1 &&& 64 = 0 := of_decide_eq_false h
  have h2 : (sd X ρ (.elem (.string "" 1) (.add (.mul (.arg s) (.int 5)) (.int 1)))).1 &&& 15 = 4 := of_decide_eq_true h2
  rw [m1.1] at h
  rw [m1.1] at h2
  rcases ks_o (p := (ρ.1 s).toInt.toNat) (by omega) with ⟨_, q1, q2⟩ | ⟨_, _, y⟩
  · exact absurd q1 h
  · rcases y with y | y | y | y | y | y | y | y
    · rw [y.1] at h2; exact absurd h2 (by decide)
    · rw [y.1] at h2; exact absurd h2 (by decide)
    · rw [y.1] at h2; exact absurd h2 (by decide)
    · rw [y.1] at h2; exact absurd h2 (by decide)
    · exact y.2.2
    · rw [y.1] at h2; exact absurd h2 (by decide)
    · rw [y.1] at h2; exact absurd h2 (by decide)
    · rw [y.1] at h2; exact absurd h2 (by decide)
theorem ks_m4 {X : pX} {ρ : sR} (k1 : kok X ρ kR) {s : Nat} (hs : s % 2 = 0) (s0 : (0 : Int) ≤ (ρ.1 s).toInt) (s1 : (ρ.1 s).toInt < 156) (h : sc X ρ (0, .op2 .iand (.elem (.arg 106) (.arg s)) (.int 2), .int 0) = false) (h2 : sc X ρ (0, .elem (.arg 104) (.arg s), .int 4) = true) : aks[(ρ.1 s).toInt.toNat]? = some (some (2, 2)) := by
  have m1 := op_tab k1 (p := (ρ.1 s).toInt.toNat) (by omega) hs (by omega)
  have h : ¬ ρ.2.2.1 106 (ρ.1 s).toNatClampNeg &&& 2 = 0 := of_decide_eq_false h
  have h2 : ρ.2.2.1 104 (ρ.1 s).toNatClampNeg = 4 := of_decide_eq_true h2
  rw [m1.2.2.2.2] at h
  rw [m1.2.2.2.1] at h2
  rcases ks_o (p := (ρ.1 s).toInt.toNat) (by omega) with ⟨_, q1, q2⟩ | ⟨_, _, y⟩
  · exact absurd q2 h
  · rcases y with y | y | y | y | y | y | y | y
    · rw [y.2.1] at h2; exact absurd h2 (by decide)
    · rw [y.2.1] at h2; exact absurd h2 (by decide)
    · rw [y.2.1] at h2; exact absurd h2 (by decide)
    · rw [y.2.1] at h2; exact absurd h2 (by decide)
    · exact y.2.2
    · rw [y.2.1] at h2; exact absurd h2 (by decide)
    · rw [y.2.1] at h2; exact absurd h2 (by decide)
    · rw [y.2.1] at h2; exact absurd h2 (by decide)
theorem ks_c5 {X : pX} {ρ : sR} (k1 : kok X ρ kR) {s : Nat} (hs : s % 2 = 0) (s0 : (0 : Int) ≤ (ρ.1 s).toInt) (s1 : (ρ.1 s).toInt < 156) (h : sc X ρ (0, .op2 .iand (.elem (.string "" 1) (.add (.mul (.arg s) (.int 5)) (.int 1))) (.int 64), .int 0) = false) (h2 : sc X ρ (0, .op2 .iand (.elem (.string "" 1) (.add (.mul (.arg s) (.int 5)) (.int 1))) (.int 15), .int 5) = true) : aks[(ρ.1 s).toInt.toNat]? = some (some (4, 4)) := by
  have m1 := op_tab k1 (p := (ρ.1 s).toInt.toNat) (by omega) hs (by omega)
  have h : ¬ (sd X ρ (.elem (.string "" 1) (.add (.mul (.arg s) (.int 5)) (.int 1)))).1 &&& 64 = 0 := of_decide_eq_false h
  have h2 : (sd X ρ (.elem (.string "" 1) (.add (.mul (.arg s) (.int 5)) (.int 1)))).1 &&& 15 = 5 := of_decide_eq_true h2
  rw [m1.1] at h
  rw [m1.1] at h2
  rcases ks_o (p := (ρ.1 s).toInt.toNat) (by omega) with ⟨_, q1, q2⟩ | ⟨_, _, y⟩
  · exact absurd q1 h
  · rcases y with y | y | y | y | y | y | y | y
    · rw [y.1] at h2; exact absurd h2 (by decide)
    · rw [y.1] at h2; exact absurd h2 (by decide)
    · rw [y.1] at h2; exact absurd h2 (by decide)
    · rw [y.1] at h2; exact absurd h2 (by decide)
    · rw [y.1] at h2; exact absurd h2 (by decide)
    · exact y.2.2
    · rw [y.1] at h2; exact absurd h2 (by decide)
    · rw [y.1] at h2; exact absurd h2 (by decide)
theorem ks_m5 {X : pX} {ρ : sR} (k1 : kok X ρ kR) {s : Nat} (hs : s % 2 = 0) (s0 : (0 : Int) ≤ (ρ.1 s).toInt) (s1 : (ρ.1 s).toInt < 156) (h : sc X ρ (0, .op2 .iand (.elem (.arg 106) (.arg s)) (.int 2), .int 0) = false) (h2 : sc X ρ (0, .elem (.arg 104) (.arg s), .int 5) = true) : aks[(ρ.1 s).toInt.toNat]? = some (some (4, 4)) := by
  have m1 := op_tab k1 (p := (ρ.1 s).toInt.toNat) (by omega) hs (by omega)
  have h : ¬ ρ.2.2.1 106 (ρ.1 s).toNatClampNeg &&& 2 = 0 := of_decide_eq_false h
  have h2 : ρ.2.2.1 104 (ρ.1 s).toNatClampNeg = 5 := of_decide_eq_true h2
  rw [m1.2.2.2.2] at h
  rw [m1.2.2.2.1] at h2
  rcases ks_o (p := (ρ.1 s).toInt.toNat) (by omega) with ⟨_, q1, q2⟩ | ⟨_, _, y⟩
  · exact absurd q2 h
  · rcases y with y | y | y | y | y | y | y | y
    · rw [y.2.1] at h2; exact absurd h2 (by decide)
    · rw [y.2.1] at h2; exact absurd h2 (by decide)
    · rw [y.2.1] at h2; exact absurd h2 (by decide)
    · rw [y.2.1] at h2; exact absurd h2 (by decide)
    · rw [y.2.1] at h2; exact absurd h2 (by decide)
    · exact y.2.2
    · rw [y.2.1] at h2; exact absurd h2 (by decide)
    · rw [y.2.1] at h2; exact absurd h2 (by decide)
theorem ks_c6 {X : pX} {ρ : sR} (k1 : kok X ρ kR) {s : Nat} (hs : s % 2 = 0) (s0 : (0 : Int) ≤ (ρ.1 s).toInt) (s1 : (ρ.1 s).toInt < 156) (h : sc X ρ (0, .op2 .iand (.elem (.string "" 1) (.add (.mul (.arg s) (.int 5)) (.int 1))) (.int 64), .int 0) = false) (h2 : sc X ρ (0, .op2 .iand (.elem (.string "" 1) (.add (.mul (.arg s) (.int 5)) (.int 1))) (.int 15), .int 6) = true) : aks[(ρ.1 s).toInt.toNat]? = some (some (0, 24)) := by
  have m1 := op_tab k1 (p := (ρ.1 s).toInt.toNat) (by omega) hs (by omega)
  have h : ¬ (sd X ρ (.elem (.string "" 1) (.add (.mul (.arg s) (.int 5)) (.int 1)))).1 &&& 64 = 0 := of_decide_eq_false h
  have h2 : (sd X ρ (.elem (.string "" 1) (.add (.mul (.arg s) (.int 5)) (.int 1)))).1 &&& 15 = 6 := of_decide_eq_true h2
  rw [m1.1] at h
  rw [m1.1] at h2
  rcases ks_o (p := (ρ.1 s).toInt.toNat) (by omega) with ⟨_, q1, q2⟩ | ⟨_, _, y⟩
  · exact absurd q1 h
  · rcases y with y | y | y | y | y | y | y | y
    · rw [y.1] at h2; exact absurd h2 (by decide)
    · rw [y.1] at h2; exact absurd h2 (by decide)
    · rw [y.1] at h2; exact absurd h2 (by decide)
    · rw [y.1] at h2; exact absurd h2 (by decide)
    · rw [y.1] at h2; exact absurd h2 (by decide)
    · rw [y.1] at h2; exact absurd h2 (by decide)
    · exact y.2.2
    · rw [y.1] at h2; exact absurd h2 (by decide)
theorem ks_m6 {X : pX} {ρ : sR} (k1 : kok X ρ kR) {s : Nat} (hs : s % 2 = 0) (s0 : (0 : Int) ≤ (ρ.1 s).toInt) (s1 : (ρ.1 s).toInt < 156) (h : sc X ρ (0, .op2 .iand (.elem (.arg 106) (.arg s)) (.int 2), .int 0) = false) (h2 : sc X ρ (0, .elem (.arg 104) (.arg s), .int 6) = true) : aks[(ρ.1 s).toInt.toNat]? = some (some (0, 24)) := by
  have m1 := op_tab k1 (p := (ρ.1 s).toInt.toNat) (by omega) hs (by omega)
  have h : ¬ ρ.2.2.1 106 (ρ.1 s).toNatClampNeg &&& 2 = 0 := of_decide_eq_false h
  have h2 : ρ.2.2.1 104 (ρ.1 s).toNatClampNeg = 6 := of_decide_eq_true h2
  rw [m1.2.2.2.2] at h
  rw [m1.2.2.2.1] at h2
  rcases ks_o (p := (ρ.1 s).toInt.toNat) (by omega) with ⟨_, q1, q2⟩ | ⟨_, _, y⟩
  · exact absurd q2 h
  · rcases y with y | y | y | y | y | y | y | y
    · rw [y.2.1] at h2; exact absurd h2 (by decide)
    · rw [y.2.1] at h2; exact absurd h2 (by decide)
    · rw [y.2.1] at h2; exact absurd h2 (by decide)
    · rw [y.2.1] at h2; exact absurd h2 (by decide)
    · rw [y.2.1] at h2; exact absurd h2 (by decide)
    · rw [y.2.1] at h2; exact absurd h2 (by decide)
    · exact y.2.2
    · rw [y.2.1] at h2; exact absurd h2 (by decide)
theorem ks_c7 {X : pX} {ρ : sR} (k1 : kok X ρ kR) {s : Nat} (hs : s % 2 = 0) (s0 : (0 : Int) ≤ (ρ.1 s).toInt) (s1 : (ρ.1 s).toInt < 156) (h : sc X ρ (0, .op2 .iand (.elem (.string "" 1) (.add (.mul (.arg s) (.int 5)) (.int 1))) (.int 64), .int 0) = false) (h2 : sc X ρ (0, .op2 .iand (.elem (.string "" 1) (.add (.mul (.arg s) (.int 5)) (.int 1))) (.int 15), .int 8) = true) : aks[(ρ.1 s).toInt.toNat]? = some (some (0, 144)) := by
  have m1 := op_tab k1 (p := (ρ.1 s).toInt.toNat) (by omega) hs (by omega)
  have h : ¬ (sd X ρ (.elem (.string "" 1) (.add (.mul (.arg s) (.int 5)) (.int 1)))).1 &&& 64 = 0 := of_decide_eq_false h
  have h2 : (sd X ρ (.elem (.string "" 1) (.add (.mul (.arg s) (.int 5)) (.int 1)))).1 &&& 15 = 8 := of_decide_eq_true h2
  rw [m1.1] at h
  rw [m1.1] at h2
  rcases ks_o (p := (ρ.1 s).toInt.toNat) (by omega) with ⟨_, q1, q2⟩ | ⟨_, _, y⟩
  · exact absurd q1 h
  · rcases y with y | y | y | y | y | y | y | y
    · rw [y.1] at h2; exact absurd h2 (by decide)
    · rw [y.1] at h2; exact absurd h2 (by decide)
    · rw [y.1] at h2; exact absurd h2 (by decide)
    · rw [y.1] at h2; exact absurd h2 (by decide)
    · rw [y.1] at h2; exact absurd h2 (by decide)
    · rw [y.1] at h2; exact absurd h2 (by decide)
    · rw [y.1] at h2; exact absurd h2 (by decide)
    · exact y.2.2
theorem ks_m7 {X : pX} {ρ : sR} (k1 : kok X ρ kR) {s : Nat} (hs : s % 2 = 0) (s0 : (0 : Int) ≤ (ρ.1 s).toInt) (s1 : (ρ.1 s).toInt < 156) (h : sc X ρ (0, .op2 .iand (.elem (.arg 106) (.arg s)) (.int 2), .int 0) = false) (h2 : sc X ρ (0, .elem (.arg 104) (.arg s), .int 7) = true) : aks[(ρ.1 s).toInt.toNat]? = some (some (0, 144)) := by
  have m1 := op_tab k1 (p := (ρ.1 s).toInt.toNat) (by omega) hs (by omega)
  have h : ¬ ρ.2.2.1 106 (ρ.1 s).toNatClampNeg &&& 2 = 0 := of_decide_eq_false h
  have h2 : ρ.2.2.1 104 (ρ.1 s).toNatClampNeg = 7 := of_decide_eq_true h2
  rw [m1.2.2.2.2] at h
  rw [m1.2.2.2.1] at h2
  rcases ks_o (p := (ρ.1 s).toInt.toNat) (by omega) with ⟨_, q1, q2⟩ | ⟨_, _, y⟩
  · exact absurd q2 h
  · rcases y with y | y | y | y | y | y | y | y
    · rw [y.2.1] at h2; exact absurd h2 (by decide)
    · rw [y.2.1] at h2; exact absurd h2 (by decide)
    · rw [y.2.1] at h2; exact absurd h2 (by decide)
    · rw [y.2.1] at h2; exact absurd h2 (by decide)
    · rw [y.2.1] at h2; exact absurd h2 (by decide)
    · rw [y.2.1] at h2; exact absurd h2 (by decide)
    · rw [y.2.1] at h2; exact absurd h2 (by decide)
    · exact y.2.2
theorem k114e {X : pX} {ρ : sR} {b s n : Nat} (hs : s % 2 = 0 := by decide) (hn : n % 2 = 0 := by decide) (hb : b % 2 = 0 := by decide) : sc X ρ (114, .add (.arg s) (.elem (.arg b) (.int 0)), .arg n) = true ↔ (ρ.1 s).toInt = (acrc (ρ.2.2.1 b) (ρ.1 n).toInt.toNat).toInt := by
  have e1 : sn X ρ (.arg n) = (ρ.1 n).toInt := by unfold sn; rw [if_neg (show ¬ sk (.arg n) = 1 by show ¬ n % 2 = 1; omega)]; rfl
  have e2 : (if sk (.arg s) = 1 then (sd X ρ (.arg s)).2.toInt else (sd X ρ (.arg s)).1.toInt) = (ρ.1 s).toInt := by rw [if_neg (show ¬ sk (.arg s) = 1 by show ¬ s % 2 = 1; omega)]; rfl
  show apred 114 [(aarr ρ (.arg s), if sk (.arg s) = 1 then (sd X ρ (.arg s)).2.toInt else (sd X ρ (.arg s)).1.toInt), (aarr ρ (.elem (.arg b) (.int 0)), _)] (sn X ρ (.arg n)) = true ↔ _
  rw [aar_b hb, e1, e2]
  exact decide_eq_true_iff
theorem k114 {X : pX} {ρ : sR} {b : Nat} (hb : b % 2 = 0 := by decide) : sc X ρ (114, .add (.arg 60128) (.elem (.arg b) (.int 0)), .arg 60160) = true ↔ (ρ.1 60128).toInt = (acrc (ρ.2.2.1 b) (ρ.1 60160).toInt.toNat).toInt := k114e (by decide) (by decide) hb
theorem by_sm8 {x y : Int32} (hx : 0 ≤ x.toInt ∧ x.toInt ≤ 255) (hy : 0 ≤ y.toInt ∧ y.toInt ≤ 255) : (x + y * 256).toInt = x.toInt + 256 * y.toInt := by
  have := i_of (i_ad (i_s x) (i_ml (i_s y) (show (256 : Int32) = Int32.ofInt 256 from rfl))) (by omega) (by omega)
  omega
/-! ===== the sum of a bank: sumOf, the class alone ===== -/
noncomputable def c_sk0 : sC := ((213, 284, 4), ([tr 77, .arg 60032], [.int 0]), ([77], []), [((2, .arg 60032, .int 0), false), ((2, .int 1022, .arg 60032), false)], ([60128, 60160, 60016], []), (some (.arg 60016), some (.int 0)), [((114, .add (.arg 60016) (.elem (.arg 1380) (.int 0)), .arg 60032), true)], ([], []))
theorem c_sk0_f : cfine zWP 65536 c_sk0 = true := by decide +kernel
noncomputable def zf98zyf_0 : sQ × Bool := ((114, .add (.arg 60128) (.elem (.arg 1380) (.int 0)), .arg 60160), true)
noncomputable def zf98zyf_1 : sQ × Bool := ((2, .arg 60128, .int 0), false)
noncomputable def zf98zyf_2 : sQ × Bool := ((2, .int 65535, .arg 60128), false)
noncomputable def zf98zyf_3 : sQ × Bool := ((2, .arg 60160, .int 0), false)
noncomputable def zf98zyf_4 : sQ × Bool := ((2, .arg 60032, .arg 60160), false)
noncomputable def zf98zyf_5 : sQ × Bool := ((2, .arg 60032, .int 0), false)
noncomputable def zf98zyf_6 : sQ × Bool := ((2, .int 1022, .arg 60032), false)
noncomputable def q_sk0L : sCut := ((fr 0 213 9 [(0, tr 77), (2, .arg 60128), (3, .arg 60032), (4, .arg 60160)] [], [fBot], 3), (fr 0 284 0 [(0, .int 0)] [], [fBot], 3), [zf98zyf_0, zf98zyf_1, zf98zyf_2, zf98zyf_3, zf98zyf_4, zf98zyf_5, zf98zyf_6], [])
noncomputable def zf98zyf_7 : sQ × Bool := ((2, .sub (.arg 60032) (.arg 60160), .arg 64032), true)
noncomputable def q_sk0LL : sCut := ((fr 0 213 9 [(0, tr 77), (2, .arg 60128), (3, .arg 60032), (4, .arg 60160)] [], [fBot], 3), (fr 0 284 0 [(0, .int 0)] [], [fBot], 3), [zf98zyf_7, zf98zyf_0, zf98zyf_1, zf98zyf_2, zf98zyf_3, zf98zyf_4, zf98zyf_5, zf98zyf_6], [])
noncomputable def q_sk0LT : sCut := ((fr 0 213 9 [(0, tr 77), (2, .arg 60128), (3, .arg 60032), (4, .arg 60160)] [], [fBot], 3), (fr 0 284 0 [(0, .int 0)] [], [fBot], 3), [zf98zyf_7, zf98zyf_3, zf98zyf_4, zf98zyf_5, zf98zyf_6], [])
noncomputable def zf98zyf_8 : sQ × Bool := ((0, .sub (.arg 60032) (.arg 60160), .arg 64032), true)
noncomputable def q_sk0LE : sCut := ((fr 0 213 9 [(0, tr 77), (2, .arg 60128), (3, .arg 60032), (4, .arg 60160)] [], [fBot], 3), (fr 0 284 0 [(0, .int 0)] [], [fBot], 3), [zf98zyf_8, zf98zyf_0, zf98zyf_1, zf98zyf_2, zf98zyf_3, zf98zyf_4, zf98zyf_5, zf98zyf_6], [])
noncomputable def zf98zyf_9 : sQ × Bool := ((2, .arg 60160, .arg 60032), false)
noncomputable def q_sk0LEe : sCut := ((fr 0 213 9 [(0, tr 77), (2, .arg 60128), (3, .arg 60032), (4, .arg 60160)] [], [fBot], 3), (fr 0 284 0 [(0, .int 0)] [], [fBot], 3), [zf98zyf_9, ((114, .add (.arg 60128) (.elem (.arg 1380) (.int 0)), .arg 60032), true), zf98zyf_8, zf98zyf_0, zf98zyf_1, zf98zyf_2, zf98zyf_3, zf98zyf_4, zf98zyf_5, zf98zyf_6], [])
theorem k_sk0LEe : cbody kR [] (cpl1 zWP c_sk0 []) (cpl2 zWP c_sk0 []) (cleaf kR zWP c_sk0 []) 150 true true q_sk0LEe.2.2.1 q_sk0LEe.2.2.2 (cst zWP c_sk0.2.2.1.1 q_sk0LEe.1) (cst zWP c_sk0.2.2.1.2 q_sk0LEe.2.1) = true := by decide +kernel
theorem t_sk0LEe {X : pX} {ρ0 : sR} (hv : vok X ρ0) (hk_ : CUTOK X kR zWP c_sk0 3 ρ0 q_sk0LL) : CUTOK X kR zWP c_sk0 3 ρ0 q_sk0LEe := CUT_run kR_x kR_0 (Cs := []) (fun C hC => by cases hC) c_sk0_f (Q := []) hv (fun q hq => by cases hq) 150 (b1 := true) (b2 := true) k_sk0LEe
noncomputable def zf98zyf_10 : sQ × Bool := ((2, .arg 60160, .arg 60032), true)
noncomputable def zf98zyf_11 : sQ × Bool := ((2, .sub (.arg 60032) (.add (.arg 60160) (.int 1)), .arg 64032), true)
noncomputable def zf98zyf_12 : sQ × Bool := ((2, .add (.arg 60160) (.int 1), .int 0), false)
noncomputable def zf98zyf_13 : sQ × Bool := ((2, .arg 60032, .add (.arg 60160) (.int 1)), false)
noncomputable def zf98zyf_14 : sQ × Bool := ((2, .int 1021, .arg 60160), false)
noncomputable def q_sk0LEn : sCut := ((fr 0 213 9 [(0, tr 77), (2, .arg 60128), (3, .arg 60032), (4, .arg 60160)] [], [fBot], 3), (fr 0 284 0 [(0, .int 0)] [], [fBot], 3), [zf98zyf_10, zf98zyf_11, zf98zyf_12, zf98zyf_13, zf98zyf_14, zf98zyf_8, zf98zyf_0, zf98zyf_1, zf98zyf_2, zf98zyf_3, zf98zyf_4, zf98zyf_5, zf98zyf_6], [])
noncomputable def w_sk0LEn : List (sCut × List (Nat × sT) × List (Nat × sT × List (sT × sT))) := [(q_sk0LT, [(60128, .op2 .iand (.op2 .ixor (.op2 .ixor (.op2 .ixor (.op2 .ishl (.arg 60128) (.int 8)) (.op2 .ishl (.op2 .ixor (.op2 .ixor (.op2 .iushr (.arg 60128) (.int 8)) (.elem (.arg 1380) (.arg 60160))) (.op2 .iushr (.op2 .ixor (.op2 .iushr (.arg 60128) (.int 8)) (.elem (.arg 1380) (.arg 60160))) (.int 4))) (.int 12))) (.op2 .ishl (.op2 .ixor (.op2 .ixor (.op2 .iushr (.arg 60128) (.int 8)) (.elem (.arg 1380) (.arg 60160))) (.op2 .iushr (.op2 .ixor (.op2 .iushr (.arg 60128) (.int 8)) (.elem (.arg 1380) (.arg 60160))) (.int 4))) (.int 5))) (.op2 .ixor (.op2 .ixor (.op2 .iushr (.arg 60128) (.int 8)) (.elem (.arg 1380) (.arg 60160))) (.op2 .iushr (.op2 .ixor (.op2 .iushr (.arg 60128) (.int 8)) (.elem (.arg 1380) (.arg 60160))) (.int 4)))) (.int 65535)), (60160, .add (.arg 60160) (.int 1))], [])]
theorem k_sk0LEn : cbody kR [] (cpl1 zWP c_sk0 [q_sk0LT]) (cpl2 zWP c_sk0 [q_sk0LT]) (cleafB kR zWP c_sk0 w_sk0LEn) 150 true false q_sk0LEn.2.2.1 q_sk0LEn.2.2.2 (cst zWP c_sk0.2.2.1.1 q_sk0LEn.1) (cst zWP c_sk0.2.2.1.2 q_sk0LEn.2.1) = true := by decide +kernel
theorem t_sk0LEn {X : pX} {ρ0 : sR} (hv : vok X ρ0) (hk_ : CUTOK X kR zWP c_sk0 3 ρ0 q_sk0LL) : CUTOK X kR zWP c_sk0 3 ρ0 q_sk0LEn := CUTOK_AT (fun ρ k1 hF hI k4 => AT_of (q := q_sk0LEn) rfl rfl (SEM_runB kR_x kR_0 (Cs := []) (fun C hC => by cases hC) c_sk0_f (Q := w_sk0LEn) hv 150 (b1 := true) (b2 := false) k_sk0LEn k1 hF hI k4 (fun p hp ρ3 m1 m2 m3 m4 m5 m6 => by
  rw [List.mem_singleton.mp hp] at m2 m3 m5 m6 ⊢
  have t1 : ρ3.1 60128 = crc (ρ.1 60128) (ρ.2.2.1 1380 (ρ.1 60160).toNatClampNeg) := congrArg Prod.fst (m5 _ (List.mem_cons_self))
  have t2 : ρ3.1 60160 = ρ.1 60160 + 1 := congrArg Prod.fst (m5 _ (List.mem_cons_of_mem _ (List.mem_cons_self)))
  have eB : ρ3.2.2.1 1380 = ρ.2.2.1 1380 := (m4.2 1380 (by decide) (by decide)).1.trans (k4.2 1380 (by decide) (by decide)).1.symm
  have i0 : (0 : Int) ≤ (ρ.1 60160).toInt := ri_lf (x := ρ.1 60160) (y := 0) (hF.2 _ (List.mem_cons_of_mem _ (List.mem_cons_of_mem _ (List.mem_cons_of_mem _ (List.mem_cons_of_mem _ (List.mem_cons_of_mem _ (List.mem_cons_of_mem _ (List.mem_cons_of_mem _ (List.mem_cons_of_mem _ (List.mem_cons_of_mem _ (List.mem_cons_self)))))))))))
  have i1 : (ρ.1 60160).toInt < (ρ.1 60032).toInt := ri_lt (x := ρ.1 60160) (y := ρ.1 60032) (hF.2 _ (List.mem_cons_self))
  have e1 : (ρ.1 60032).toInt ≤ 1022 := ri_lf (x := 1022) (y := ρ.1 60032) (hF.2 _ (List.mem_cons_of_mem _ (List.mem_cons_of_mem _ (List.mem_cons_of_mem _ (List.mem_cons_of_mem _ (List.mem_cons_of_mem _ (List.mem_cons_of_mem _ (List.mem_cons_of_mem _ (List.mem_cons_of_mem _ (List.mem_cons_of_mem _ (List.mem_cons_of_mem _ (List.mem_cons_of_mem _ (List.mem_cons_of_mem _ (List.mem_cons_self))))))))))))))
  have a1 : (0 : Int) ≤ (ρ.1 60128).toInt := ri_lf (x := ρ.1 60128) (y := 0) (hF.2 _ (List.mem_cons_of_mem _ (List.mem_cons_of_mem _ (List.mem_cons_of_mem _ (List.mem_cons_of_mem _ (List.mem_cons_of_mem _ (List.mem_cons_of_mem _ (List.mem_cons_of_mem _ (List.mem_cons_self)))))))))
  have a2 : (ρ.1 60128).toInt ≤ 65535 := ri_lf (x := 65535) (y := ρ.1 60128) (hF.2 _ (List.mem_cons_of_mem _ (List.mem_cons_of_mem _ (List.mem_cons_of_mem _ (List.mem_cons_of_mem _ (List.mem_cons_of_mem _ (List.mem_cons_of_mem _ (List.mem_cons_of_mem _ (List.mem_cons_of_mem _ (List.mem_cons_self))))))))))
  have hb : 0 ≤ (ρ.2.2.1 1380 (ρ.1 60160).toInt.toNat).toInt ∧ (ρ.2.2.1 1380 (ρ.1 60160).toInt.toNat).toInt ≤ 255 := hF.1.2 1380 (.arg 60160) (0, 255) rfl
  have hc : crc (ρ.1 60128) (ρ.2.2.1 1380 (ρ.1 60160).toInt.toNat) = crm (ρ.1 60128) (ρ.2.2.1 1380 (ρ.1 60160).toInt.toNat) := crc_eq (xb_small (k := 16) a1 (by show _ < (65536 : Int); omega)) (xb_small (k := 8) hb.1 (by show _ < (256 : Int); omega))
  have t1 : ρ3.1 60128 = crm (ρ.1 60128) (ρ.2.2.1 1380 (ρ.1 60160).toInt.toNat) := t1.trans hc
  have h4 := Int32.toInt_inj.mp ((k114 (by decide)).mp (hF.2 _ (List.mem_cons_of_mem _ (List.mem_cons_of_mem _ (List.mem_cons_of_mem _ (List.mem_cons_of_mem _ (List.mem_cons_of_mem _ (List.mem_cons_of_mem _ (List.mem_cons_self)))))))))
  have es : (ρ.1 60160 + 1).toInt.toNat = (ρ.1 60160).toInt.toNat + 1 := by
    rw [s_add (y := 1) (by show _ ≤ _ + (1 : Int); omega) (by show _ + (1 : Int) ≤ _; omega)]
    show ((ρ.1 60160).toInt + 1).toNat = _
    omega
  have hl := crm_lt (s := ρ.1 60128) (b := ρ.2.2.1 1380 (ρ.1 60160).toInt.toNat)
  rw [← t1] at hl
  have x4 : sc X ρ3 (114, .add (.arg 60128) (.elem (.arg 1380) (.int 0)), .arg 60160) = true := (k114 (by decide)).mpr (by
    rw [eB, t2, es, t1, h4]
    rfl)
  have x5 : sc X ρ3 (2, .arg 60128, .int 0) = false := di_lf (x := ρ3.1 60128) (y := 0) hl.1
  have x6 : sc X ρ3 (2, .int 65535, .arg 60128) = false := di_lf (x := 65535) (y := ρ3.1 60128) (show _ ≤ (65535 : Int) by omega)
  exact hk_ ρ3 m1 ⟨m2.1, fcn (m2.2 _ (List.mem_cons_self)) (fcn (x4) (fcn (x5) (fcn (x6) (fcn (m2.2 _ (List.mem_cons_of_mem _ (List.mem_cons_self))) (fcn (m2.2 _ (List.mem_cons_of_mem _ (List.mem_cons_of_mem _ (List.mem_cons_self)))) (fcn (m2.2 _ (List.mem_cons_of_mem _ (List.mem_cons_of_mem _ (List.mem_cons_of_mem _ (List.mem_cons_self))))) (fcn (m2.2 _ (List.mem_cons_of_mem _ (List.mem_cons_of_mem _ (List.mem_cons_of_mem _ (List.mem_cons_of_mem _ (List.mem_cons_self)))))) (fun f hf => by cases hf))))))))⟩ m3 m4)))
theorem t_sk0LE {X : pX} {ρ0 : sR} (hv : vok X ρ0) (hk_ : CUTOK X kR zWP c_sk0 3 ρ0 q_sk0LL) : CUTOK X kR zWP c_sk0 3 ρ0 q_sk0LE := fun ρ k1 hF hI k4 => by
  have i0 : (0 : Int) ≤ (ρ.1 60160).toInt := ri_lf (x := ρ.1 60160) (y := 0) (hF.2 _ (List.mem_cons_of_mem _ (List.mem_cons_of_mem _ (List.mem_cons_of_mem _ (List.mem_cons_of_mem _ (List.mem_cons_self))))))
  have i1 : (ρ.1 60160).toInt ≤ (ρ.1 60032).toInt := ri_lf (x := ρ.1 60032) (y := ρ.1 60160) (hF.2 _ (List.mem_cons_of_mem _ (List.mem_cons_of_mem _ (List.mem_cons_of_mem _ (List.mem_cons_of_mem _ (List.mem_cons_of_mem _ (List.mem_cons_self)))))))
  have e1 : (ρ.1 60032).toInt ≤ 1022 := ri_lf (x := 1022) (y := ρ.1 60032) (hF.2 _ (List.mem_cons_of_mem _ (List.mem_cons_of_mem _ (List.mem_cons_of_mem _ (List.mem_cons_of_mem _ (List.mem_cons_of_mem _ (List.mem_cons_of_mem _ (List.mem_cons_of_mem _ (List.mem_cons_self)))))))))
  by_cases hl : (ρ.1 60160).toInt < (ρ.1 60032).toInt
  case neg =>
    have z : ρ.1 60160 = ρ.1 60032 := Int32.toInt_inj.mp (by omega)
    exact t_sk0LEe hv hk_ ρ k1 ⟨hF.1, fcn (di_lf (x := ρ.1 60160) (y := ρ.1 60032) (by omega)) (fcn ((k114e (by decide) (by decide) (by decide)).mpr (by rw [← z]; exact (k114 (by decide)).mp (hF.2 _ (List.mem_cons_of_mem _ (List.mem_cons_self))))) (hF.2))⟩ hI k4
  have es : (ρ.1 60160 + 1).toInt = (ρ.1 60160).toInt + 1 := s_add (y := 1) (by show _ ≤ _ + (1 : Int); omega) (by show _ + (1 : Int) ≤ _; omega)
  have em : (ρ.1 60032 - ρ.1 60160).toInt = (ρ.1 60032).toInt - (ρ.1 60160).toInt := i_of (i_sb (i_s _) (i_s _)) (by omega) (by omega)
  have en : (ρ.1 60032 - (ρ.1 60160 + 1)).toInt = (ρ.1 60032).toInt - (ρ.1 60160 + 1).toInt := i_of (i_sb (i_s _) (i_s _)) (by omega) (by omega)
  have hg : ρ.1 60032 - ρ.1 60160 = ρ.1 64032 := of_decide_eq_true (hF.2 _ (List.mem_cons_self))
  exact t_sk0LEn hv hk_ ρ k1 ⟨hF.1, fcn (di_lt (x := ρ.1 60160) (y := ρ.1 60032) hl) (fcn (di_lt (x := ρ.1 60032 - (ρ.1 60160 + 1)) (y := ρ.1 64032) (by rw [← hg, em, en]; omega)) (fcn (di_lf (x := ρ.1 60160 + 1) (y := 0) (by rw [es]; show (0 : Int) ≤ _; omega)) (fcn (di_lf (x := ρ.1 60032) (y := ρ.1 60160 + 1) (by rw [es]; omega)) (fcn (di_lf (x := 1021) (y := ρ.1 60160) (show _ ≤ (1021 : Int) by omega)) (hF.2)))))⟩ hI k4
theorem t_sk0L {X : pX} {ρ0 : sR} (hv : vok X ρ0) : CUTOK X kR zWP c_sk0 3 ρ0 q_sk0L := CUT_again (g := 64032) (mt := .sub (.arg 60032) (.arg 60160)) kR_x (by decide +kernel) (by decide) (by decide) (by decide) (by decide +kernel) (by decide +kernel) (by decide +kernel) (by decide +kernel) (by decide +kernel) (fun ρ0 hv hk => t_sk0LE hv hk) ρ0 hv
noncomputable def zf98zyf_15 : sQ × Bool := ((0, .arg 60160, .int 0), true)
noncomputable def zf98zyf_16 : sQ × Bool := ((0, .arg 60128, .int 0), true)
noncomputable def q_sk00T : sCut := ((fr 0 213 9 [(0, tr 77), (2, .arg 60128), (3, .arg 60032), (4, .arg 60160)] [], [fBot], 3), (fr 0 284 0 [(0, .int 0)] [], [fBot], 3), [zf98zyf_15, zf98zyf_16, zf98zyf_5, zf98zyf_6], [])
noncomputable def q_sk00 : sCut := ((fr 0 213 0 [(0, tr 77), (1, .arg 60032)] [], [fBot], 3), (fr 0 284 0 [(0, .int 0)] [], [fBot], 3), [zf98zyf_5, zf98zyf_6], [])
noncomputable def w_sk00 : List (sCut × List (Nat × sT) × List (Nat × sT × List (sT × sT))) := [(q_sk00T, [], [])]
theorem k_sk00 : cbody kR [] (cpl1 zWP c_sk0 [q_sk00T]) (cpl2 zWP c_sk0 [q_sk00T]) (cleafB kR zWP c_sk0 w_sk00) 60 true false q_sk00.2.2.1 q_sk00.2.2.2 (cst zWP c_sk0.2.2.1.1 q_sk00.1) (cst zWP c_sk0.2.2.1.2 q_sk00.2.1) = true := by decide +kernel
theorem t_sk00 {X : pX} {ρ0 : sR} (hv : vok X ρ0) : CUTOK X kR zWP c_sk0 3 ρ0 q_sk00 := CUTOK_AT (fun ρ k1 hF hI k4 => AT_of (q := q_sk00) rfl rfl (SEM_runB kR_x kR_0 (Cs := []) (fun C hC => by cases hC) c_sk0_f (Q := w_sk00) hv 60 (b1 := true) (b2 := false) k_sk00 k1 hF hI k4 (fun p hp ρ3 m1 m2 m3 m4 m5 m6 => by
  rw [List.mem_singleton.mp hp] at m2 m3 m5 m6 ⊢
  have z1 : ρ3.1 60160 = 0 := of_decide_eq_true (m2.2 _ (List.mem_cons_self))
  have z2 : ρ3.1 60128 = 0 := of_decide_eq_true (m2.2 _ (List.mem_cons_of_mem _ (List.mem_cons_self)))
  have e0 : (0 : Int) ≤ (ρ3.1 60032).toInt := ri_lf (x := ρ3.1 60032) (y := 0) (m2.2 _ (List.mem_cons_of_mem _ (List.mem_cons_of_mem _ (List.mem_cons_self))))
  have x4 : sc X ρ3 (114, .add (.arg 60128) (.elem (.arg 1380) (.int 0)), .arg 60160) = true := (k114 (by decide)).mpr (by rw [z1, z2]; rfl)
  exact t_sk0L hv ρ3 m1 ⟨m2.1, fcn (x4) (fcn (di_lf (x := ρ3.1 60128) (y := 0) (by rw [z2]; exact Int.le_refl _)) (fcn (di_lf (x := 65535) (y := ρ3.1 60128) (by rw [z2]; decide)) (fcn (di_lf (x := ρ3.1 60160) (y := 0) (by rw [z1]; exact Int.le_refl _)) (fcn (di_lf (x := ρ3.1 60032) (y := ρ3.1 60160) (by rw [z1]; exact e0)) (fcn (m2.2 _ (List.mem_cons_of_mem _ (List.mem_cons_of_mem _ (List.mem_cons_self)))) (fcn (m2.2 _ (List.mem_cons_of_mem _ (List.mem_cons_of_mem _ (List.mem_cons_of_mem _ (List.mem_cons_self))))) (fun f hf => by cases hf)))))))⟩ m3 m4)))
theorem e_sk0 : frun kR [] (cpl1 zWP c_sk0 [q_sk00]) (cpl2 zWP c_sk0 [q_sk00]) (cleaf kR zWP c_sk0 [q_sk00]) 10 65536 (isatP (c_sk0.2.2.2.1) c_sk0.2.2.2.2.2.2.2.1) c_sk0.2.2.2.2.2.2.2.1 (sin0 mt_all c_sk0.1.1 3 c_sk0.2.1.1 (foot zWP c_sk0.2.2.1.1)) (sin0 mt_all c_sk0.1.2.1 3 c_sk0.2.1.2 (foot zWP c_sk0.2.2.1.2)) = true := by decide +kernel
theorem s_sk0 {X : pX} : SREL X pF pdfl mt_all kR zWP c_sk0 := SREL_QC kR_x kR_0 (Cs := []) (fun C hC => by cases hC) (d := 3) rfl c_sk0_f (Q := [q_sk00]) (fun ρ0 hv => fun q hq => by
    simp only [List.mem_cons, List.not_mem_nil, or_false] at hq
    rw [hq]; exact t_sk00 hv) (QC_run 10 e_sk0)
/-! ===== the sum of a bank: sumOf, the class alone ===== -/
noncomputable def c_sk1 : sC := ((213, 284, 4), ([tr 78, .arg 60032], [.int 0]), ([78], []), [((2, .arg 60032, .int 0), false), ((2, .int 1022, .arg 60032), false)], ([60128, 60160, 60016], []), (some (.arg 60016), some (.int 0)), [((114, .add (.arg 60016) (.elem (.arg 1412) (.int 0)), .arg 60032), true)], ([], []))
theorem c_sk1_f : cfine zWP 65536 c_sk1 = true := by decide +kernel
noncomputable def zf98zyf_17 : sQ × Bool := ((114, .add (.arg 60128) (.elem (.arg 1412) (.int 0)), .arg 60160), true)
noncomputable def q_sk1L : sCut := ((fr 0 213 9 [(0, tr 78), (2, .arg 60128), (3, .arg 60032), (4, .arg 60160)] [], [fBot], 3), (fr 0 284 0 [(0, .int 0)] [], [fBot], 3), [zf98zyf_17, zf98zyf_1, zf98zyf_2, zf98zyf_3, zf98zyf_4, zf98zyf_5, zf98zyf_6], [])
noncomputable def q_sk1LL : sCut := ((fr 0 213 9 [(0, tr 78), (2, .arg 60128), (3, .arg 60032), (4, .arg 60160)] [], [fBot], 3), (fr 0 284 0 [(0, .int 0)] [], [fBot], 3), [zf98zyf_7, zf98zyf_17, zf98zyf_1, zf98zyf_2, zf98zyf_3, zf98zyf_4, zf98zyf_5, zf98zyf_6], [])
noncomputable def q_sk1LT : sCut := ((fr 0 213 9 [(0, tr 78), (2, .arg 60128), (3, .arg 60032), (4, .arg 60160)] [], [fBot], 3), (fr 0 284 0 [(0, .int 0)] [], [fBot], 3), [zf98zyf_7, zf98zyf_3, zf98zyf_4, zf98zyf_5, zf98zyf_6], [])
noncomputable def q_sk1LE : sCut := ((fr 0 213 9 [(0, tr 78), (2, .arg 60128), (3, .arg 60032), (4, .arg 60160)] [], [fBot], 3), (fr 0 284 0 [(0, .int 0)] [], [fBot], 3), [zf98zyf_8, zf98zyf_17, zf98zyf_1, zf98zyf_2, zf98zyf_3, zf98zyf_4, zf98zyf_5, zf98zyf_6], [])
noncomputable def q_sk1LEe : sCut := ((fr 0 213 9 [(0, tr 78), (2, .arg 60128), (3, .arg 60032), (4, .arg 60160)] [], [fBot], 3), (fr 0 284 0 [(0, .int 0)] [], [fBot], 3), [zf98zyf_9, ((114, .add (.arg 60128) (.elem (.arg 1412) (.int 0)), .arg 60032), true), zf98zyf_8, zf98zyf_17, zf98zyf_1, zf98zyf_2, zf98zyf_3, zf98zyf_4, zf98zyf_5, zf98zyf_6], [])
theorem k_sk1LEe : cbody kR [] (cpl1 zWP c_sk1 []) (cpl2 zWP c_sk1 []) (cleaf kR zWP c_sk1 []) 150 true true q_sk1LEe.2.2.1 q_sk1LEe.2.2.2 (cst zWP c_sk1.2.2.1.1 q_sk1LEe.1) (cst zWP c_sk1.2.2.1.2 q_sk1LEe.2.1) = true := by decide +kernel
theorem t_sk1LEe {X : pX} {ρ0 : sR} (hv : vok X ρ0) (hk_ : CUTOK X kR zWP c_sk1 3 ρ0 q_sk1LL) : CUTOK X kR zWP c_sk1 3 ρ0 q_sk1LEe := CUT_run kR_x kR_0 (Cs := []) (fun C hC => by cases hC) c_sk1_f (Q := []) hv (fun q hq => by cases hq) 150 (b1 := true) (b2 := true) k_sk1LEe
noncomputable def q_sk1LEn : sCut := ((fr 0 213 9 [(0, tr 78), (2, .arg 60128), (3, .arg 60032), (4, .arg 60160)] [], [fBot], 3), (fr 0 284 0 [(0, .int 0)] [], [fBot], 3), [zf98zyf_10, zf98zyf_11, zf98zyf_12, zf98zyf_13, zf98zyf_14, zf98zyf_8, zf98zyf_17, zf98zyf_1, zf98zyf_2, zf98zyf_3, zf98zyf_4, zf98zyf_5, zf98zyf_6], [])
noncomputable def w_sk1LEn : List (sCut × List (Nat × sT) × List (Nat × sT × List (sT × sT))) := [(q_sk1LT, [(60128, .op2 .iand (.op2 .ixor (.op2 .ixor (.op2 .ixor (.op2 .ishl (.arg 60128) (.int 8)) (.op2 .ishl (.op2 .ixor (.op2 .ixor (.op2 .iushr (.arg 60128) (.int 8)) (.elem (.arg 1412) (.arg 60160))) (.op2 .iushr (.op2 .ixor (.op2 .iushr (.arg 60128) (.int 8)) (.elem (.arg 1412) (.arg 60160))) (.int 4))) (.int 12))) (.op2 .ishl (.op2 .ixor (.op2 .ixor (.op2 .iushr (.arg 60128) (.int 8)) (.elem (.arg 1412) (.arg 60160))) (.op2 .iushr (.op2 .ixor (.op2 .iushr (.arg 60128) (.int 8)) (.elem (.arg 1412) (.arg 60160))) (.int 4))) (.int 5))) (.op2 .ixor (.op2 .ixor (.op2 .iushr (.arg 60128) (.int 8)) (.elem (.arg 1412) (.arg 60160))) (.op2 .iushr (.op2 .ixor (.op2 .iushr (.arg 60128) (.int 8)) (.elem (.arg 1412) (.arg 60160))) (.int 4)))) (.int 65535)), (60160, .add (.arg 60160) (.int 1))], [])]
theorem k_sk1LEn : cbody kR [] (cpl1 zWP c_sk1 [q_sk1LT]) (cpl2 zWP c_sk1 [q_sk1LT]) (cleafB kR zWP c_sk1 w_sk1LEn) 150 true false q_sk1LEn.2.2.1 q_sk1LEn.2.2.2 (cst zWP c_sk1.2.2.1.1 q_sk1LEn.1) (cst zWP c_sk1.2.2.1.2 q_sk1LEn.2.1) = true := by decide +kernel
theorem t_sk1LEn {X : pX} {ρ0 : sR} (hv : vok X ρ0) (hk_ : CUTOK X kR zWP c_sk1 3 ρ0 q_sk1LL) : CUTOK X kR zWP c_sk1 3 ρ0 q_sk1LEn := CUTOK_AT (fun ρ k1 hF hI k4 => AT_of (q := q_sk1LEn) rfl rfl (SEM_runB kR_x kR_0 (Cs := []) (fun C hC => by cases hC) c_sk1_f (Q := w_sk1LEn) hv 150 (b1 := true) (b2 := false) k_sk1LEn k1 hF hI k4 (fun p hp ρ3 m1 m2 m3 m4 m5 m6 => by
  rw [List.mem_singleton.mp hp] at m2 m3 m5 m6 ⊢
  have t1 : ρ3.1 60128 = crc (ρ.1 60128) (ρ.2.2.1 1412 (ρ.1 60160).toNatClampNeg) := congrArg Prod.fst (m5 _ (List.mem_cons_self))
  have t2 : ρ3.1 60160 = ρ.1 60160 + 1 := congrArg Prod.fst (m5 _ (List.mem_cons_of_mem _ (List.mem_cons_self)))
  have eB : ρ3.2.2.1 1412 = ρ.2.2.1 1412 := (m4.2 1412 (by decide) (by decide)).1.trans (k4.2 1412 (by decide) (by decide)).1.symm
  have i0 : (0 : Int) ≤ (ρ.1 60160).toInt := ri_lf (x := ρ.1 60160) (y := 0) (hF.2 _ (List.mem_cons_of_mem _ (List.mem_cons_of_mem _ (List.mem_cons_of_mem _ (List.mem_cons_of_mem _ (List.mem_cons_of_mem _ (List.mem_cons_of_mem _ (List.mem_cons_of_mem _ (List.mem_cons_of_mem _ (List.mem_cons_of_mem _ (List.mem_cons_self)))))))))))
  have i1 : (ρ.1 60160).toInt < (ρ.1 60032).toInt := ri_lt (x := ρ.1 60160) (y := ρ.1 60032) (hF.2 _ (List.mem_cons_self))
  have e1 : (ρ.1 60032).toInt ≤ 1022 := ri_lf (x := 1022) (y := ρ.1 60032) (hF.2 _ (List.mem_cons_of_mem _ (List.mem_cons_of_mem _ (List.mem_cons_of_mem _ (List.mem_cons_of_mem _ (List.mem_cons_of_mem _ (List.mem_cons_of_mem _ (List.mem_cons_of_mem _ (List.mem_cons_of_mem _ (List.mem_cons_of_mem _ (List.mem_cons_of_mem _ (List.mem_cons_of_mem _ (List.mem_cons_of_mem _ (List.mem_cons_self))))))))))))))
  have a1 : (0 : Int) ≤ (ρ.1 60128).toInt := ri_lf (x := ρ.1 60128) (y := 0) (hF.2 _ (List.mem_cons_of_mem _ (List.mem_cons_of_mem _ (List.mem_cons_of_mem _ (List.mem_cons_of_mem _ (List.mem_cons_of_mem _ (List.mem_cons_of_mem _ (List.mem_cons_of_mem _ (List.mem_cons_self)))))))))
  have a2 : (ρ.1 60128).toInt ≤ 65535 := ri_lf (x := 65535) (y := ρ.1 60128) (hF.2 _ (List.mem_cons_of_mem _ (List.mem_cons_of_mem _ (List.mem_cons_of_mem _ (List.mem_cons_of_mem _ (List.mem_cons_of_mem _ (List.mem_cons_of_mem _ (List.mem_cons_of_mem _ (List.mem_cons_of_mem _ (List.mem_cons_self))))))))))
  have hb : 0 ≤ (ρ.2.2.1 1412 (ρ.1 60160).toInt.toNat).toInt ∧ (ρ.2.2.1 1412 (ρ.1 60160).toInt.toNat).toInt ≤ 255 := hF.1.2 1412 (.arg 60160) (0, 255) rfl
  have hc : crc (ρ.1 60128) (ρ.2.2.1 1412 (ρ.1 60160).toInt.toNat) = crm (ρ.1 60128) (ρ.2.2.1 1412 (ρ.1 60160).toInt.toNat) := crc_eq (xb_small (k := 16) a1 (by show _ < (65536 : Int); omega)) (xb_small (k := 8) hb.1 (by show _ < (256 : Int); omega))
  have t1 : ρ3.1 60128 = crm (ρ.1 60128) (ρ.2.2.1 1412 (ρ.1 60160).toInt.toNat) := t1.trans hc
  have h4 := Int32.toInt_inj.mp ((k114 (by decide)).mp (hF.2 _ (List.mem_cons_of_mem _ (List.mem_cons_of_mem _ (List.mem_cons_of_mem _ (List.mem_cons_of_mem _ (List.mem_cons_of_mem _ (List.mem_cons_of_mem _ (List.mem_cons_self)))))))))
  have es : (ρ.1 60160 + 1).toInt.toNat = (ρ.1 60160).toInt.toNat + 1 := by
    rw [s_add (y := 1) (by show _ ≤ _ + (1 : Int); omega) (by show _ + (1 : Int) ≤ _; omega)]
    show ((ρ.1 60160).toInt + 1).toNat = _
    omega
  have hl := crm_lt (s := ρ.1 60128) (b := ρ.2.2.1 1412 (ρ.1 60160).toInt.toNat)
  rw [← t1] at hl
  have x4 : sc X ρ3 (114, .add (.arg 60128) (.elem (.arg 1412) (.int 0)), .arg 60160) = true := (k114 (by decide)).mpr (by
    rw [eB, t2, es, t1, h4]
    rfl)
  have x5 : sc X ρ3 (2, .arg 60128, .int 0) = false := di_lf (x := ρ3.1 60128) (y := 0) hl.1
  have x6 : sc X ρ3 (2, .int 65535, .arg 60128) = false := di_lf (x := 65535) (y := ρ3.1 60128) (show _ ≤ (65535 : Int) by omega)
  exact hk_ ρ3 m1 ⟨m2.1, fcn (m2.2 _ (List.mem_cons_self)) (fcn (x4) (fcn (x5) (fcn (x6) (fcn (m2.2 _ (List.mem_cons_of_mem _ (List.mem_cons_self))) (fcn (m2.2 _ (List.mem_cons_of_mem _ (List.mem_cons_of_mem _ (List.mem_cons_self)))) (fcn (m2.2 _ (List.mem_cons_of_mem _ (List.mem_cons_of_mem _ (List.mem_cons_of_mem _ (List.mem_cons_self))))) (fcn (m2.2 _ (List.mem_cons_of_mem _ (List.mem_cons_of_mem _ (List.mem_cons_of_mem _ (List.mem_cons_of_mem _ (List.mem_cons_self)))))) (fun f hf => by cases hf))))))))⟩ m3 m4)))
theorem t_sk1LE {X : pX} {ρ0 : sR} (hv : vok X ρ0) (hk_ : CUTOK X kR zWP c_sk1 3 ρ0 q_sk1LL) : CUTOK X kR zWP c_sk1 3 ρ0 q_sk1LE := fun ρ k1 hF hI k4 => by
  have i0 : (0 : Int) ≤ (ρ.1 60160).toInt := ri_lf (x := ρ.1 60160) (y := 0) (hF.2 _ (List.mem_cons_of_mem _ (List.mem_cons_of_mem _ (List.mem_cons_of_mem _ (List.mem_cons_of_mem _ (List.mem_cons_self))))))
  have i1 : (ρ.1 60160).toInt ≤ (ρ.1 60032).toInt := ri_lf (x := ρ.1 60032) (y := ρ.1 60160) (hF.2 _ (List.mem_cons_of_mem _ (List.mem_cons_of_mem _ (List.mem_cons_of_mem _ (List.mem_cons_of_mem _ (List.mem_cons_of_mem _ (List.mem_cons_self)))))))
  have e1 : (ρ.1 60032).toInt ≤ 1022 := ri_lf (x := 1022) (y := ρ.1 60032) (hF.2 _ (List.mem_cons_of_mem _ (List.mem_cons_of_mem _ (List.mem_cons_of_mem _ (List.mem_cons_of_mem _ (List.mem_cons_of_mem _ (List.mem_cons_of_mem _ (List.mem_cons_of_mem _ (List.mem_cons_self)))))))))
  by_cases hl : (ρ.1 60160).toInt < (ρ.1 60032).toInt
  case neg =>
    have z : ρ.1 60160 = ρ.1 60032 := Int32.toInt_inj.mp (by omega)
    exact t_sk1LEe hv hk_ ρ k1 ⟨hF.1, fcn (di_lf (x := ρ.1 60160) (y := ρ.1 60032) (by omega)) (fcn ((k114e (by decide) (by decide) (by decide)).mpr (by rw [← z]; exact (k114 (by decide)).mp (hF.2 _ (List.mem_cons_of_mem _ (List.mem_cons_self))))) (hF.2))⟩ hI k4
  have es : (ρ.1 60160 + 1).toInt = (ρ.1 60160).toInt + 1 := s_add (y := 1) (by show _ ≤ _ + (1 : Int); omega) (by show _ + (1 : Int) ≤ _; omega)
  have em : (ρ.1 60032 - ρ.1 60160).toInt = (ρ.1 60032).toInt - (ρ.1 60160).toInt := i_of (i_sb (i_s _) (i_s _)) (by omega) (by omega)
  have en : (ρ.1 60032 - (ρ.1 60160 + 1)).toInt = (ρ.1 60032).toInt - (ρ.1 60160 + 1).toInt := i_of (i_sb (i_s _) (i_s _)) (by omega) (by omega)
  have hg : ρ.1 60032 - ρ.1 60160 = ρ.1 64032 := of_decide_eq_true (hF.2 _ (List.mem_cons_self))
  exact t_sk1LEn hv hk_ ρ k1 ⟨hF.1, fcn (di_lt (x := ρ.1 60160) (y := ρ.1 60032) hl) (fcn (di_lt (x := ρ.1 60032 - (ρ.1 60160 + 1)) (y := ρ.1 64032) (by rw [← hg, em, en]; omega)) (fcn (di_lf (x := ρ.1 60160 + 1) (y := 0) (by rw [es]; show (0 : Int) ≤ _; omega)) (fcn (di_lf (x := ρ.1 60032) (y := ρ.1 60160 + 1) (by rw [es]; omega)) (fcn (di_lf (x := 1021) (y := ρ.1 60160) (show _ ≤ (1021 : Int) by omega)) (hF.2)))))⟩ hI k4
theorem t_sk1L {X : pX} {ρ0 : sR} (hv : vok X ρ0) : CUTOK X kR zWP c_sk1 3 ρ0 q_sk1L := CUT_again (g := 64032) (mt := .sub (.arg 60032) (.arg 60160)) kR_x (by decide +kernel) (by decide) (by decide) (by decide) (by decide +kernel) (by decide +kernel) (by decide +kernel) (by decide +kernel) (by decide +kernel) (fun ρ0 hv hk => t_sk1LE hv hk) ρ0 hv
noncomputable def q_sk10T : sCut := ((fr 0 213 9 [(0, tr 78), (2, .arg 60128), (3, .arg 60032), (4, .arg 60160)] [], [fBot], 3), (fr 0 284 0 [(0, .int 0)] [], [fBot], 3), [zf98zyf_15, zf98zyf_16, zf98zyf_5, zf98zyf_6], [])
noncomputable def q_sk10 : sCut := ((fr 0 213 0 [(0, tr 78), (1, .arg 60032)] [], [fBot], 3), (fr 0 284 0 [(0, .int 0)] [], [fBot], 3), [zf98zyf_5, zf98zyf_6], [])
noncomputable def w_sk10 : List (sCut × List (Nat × sT) × List (Nat × sT × List (sT × sT))) := [(q_sk10T, [], [])]
theorem k_sk10 : cbody kR [] (cpl1 zWP c_sk1 [q_sk10T]) (cpl2 zWP c_sk1 [q_sk10T]) (cleafB kR zWP c_sk1 w_sk10) 60 true false q_sk10.2.2.1 q_sk10.2.2.2 (cst zWP c_sk1.2.2.1.1 q_sk10.1) (cst zWP c_sk1.2.2.1.2 q_sk10.2.1) = true := by decide +kernel
theorem t_sk10 {X : pX} {ρ0 : sR} (hv : vok X ρ0) : CUTOK X kR zWP c_sk1 3 ρ0 q_sk10 := CUTOK_AT (fun ρ k1 hF hI k4 => AT_of (q := q_sk10) rfl rfl (SEM_runB kR_x kR_0 (Cs := []) (fun C hC => by cases hC) c_sk1_f (Q := w_sk10) hv 60 (b1 := true) (b2 := false) k_sk10 k1 hF hI k4 (fun p hp ρ3 m1 m2 m3 m4 m5 m6 => by
  rw [List.mem_singleton.mp hp] at m2 m3 m5 m6 ⊢
  have z1 : ρ3.1 60160 = 0 := of_decide_eq_true (m2.2 _ (List.mem_cons_self))
  have z2 : ρ3.1 60128 = 0 := of_decide_eq_true (m2.2 _ (List.mem_cons_of_mem _ (List.mem_cons_self)))
  have e0 : (0 : Int) ≤ (ρ3.1 60032).toInt := ri_lf (x := ρ3.1 60032) (y := 0) (m2.2 _ (List.mem_cons_of_mem _ (List.mem_cons_of_mem _ (List.mem_cons_self))))
  have x4 : sc X ρ3 (114, .add (.arg 60128) (.elem (.arg 1412) (.int 0)), .arg 60160) = true := (k114 (by decide)).mpr (by rw [z1, z2]; rfl)
  exact t_sk1L hv ρ3 m1 ⟨m2.1, fcn (x4) (fcn (di_lf (x := ρ3.1 60128) (y := 0) (by rw [z2]; exact Int.le_refl _)) (fcn (di_lf (x := 65535) (y := ρ3.1 60128) (by rw [z2]; decide)) (fcn (di_lf (x := ρ3.1 60160) (y := 0) (by rw [z1]; exact Int.le_refl _)) (fcn (di_lf (x := ρ3.1 60032) (y := ρ3.1 60160) (by rw [z1]; exact e0)) (fcn (m2.2 _ (List.mem_cons_of_mem _ (List.mem_cons_of_mem _ (List.mem_cons_self)))) (fcn (m2.2 _ (List.mem_cons_of_mem _ (List.mem_cons_of_mem _ (List.mem_cons_of_mem _ (List.mem_cons_self))))) (fun f hf => by cases hf)))))))⟩ m3 m4)))
theorem e_sk1 : frun kR [] (cpl1 zWP c_sk1 [q_sk10]) (cpl2 zWP c_sk1 [q_sk10]) (cleaf kR zWP c_sk1 [q_sk10]) 10 65536 (isatP (c_sk1.2.2.2.1) c_sk1.2.2.2.2.2.2.2.1) c_sk1.2.2.2.2.2.2.2.1 (sin0 mt_all c_sk1.1.1 3 c_sk1.2.1.1 (foot zWP c_sk1.2.2.1.1)) (sin0 mt_all c_sk1.1.2.1 3 c_sk1.2.1.2 (foot zWP c_sk1.2.2.1.2)) = true := by decide +kernel
theorem s_sk1 {X : pX} : SREL X pF pdfl mt_all kR zWP c_sk1 := SREL_QC kR_x kR_0 (Cs := []) (fun C hC => by cases hC) (d := 3) rfl c_sk1_f (Q := [q_sk10]) (fun ρ0 hv => fun q hq => by
    simp only [List.mem_cons, List.not_mem_nil, or_false] at hq
    rw [hq]; exact t_sk10 hv) (QC_run 10 e_sk1)
