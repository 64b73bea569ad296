set_option maxRecDepth 20000
theorem pi_m {g : Nat → Int64} {s w : Nat → Int32} {k : Nat} {bits wt hs aw ma : Int} (h : apin g s w k false bits wt hs aw ma = true) : amapm g (50 + 5 * k) (4 * k) s w = true := by
  unfold apin at h
  simp only [cond_false, Bool.and_eq_true] at h
  exact h.2.2.2.1
theorem ta_k {X : pX} {ρ : sR} (a1 : sc X ρ (2, .arg 60000, .int 0) = false) (a2 : sc X ρ (2, .int 3, .arg 60000) = false) : 0 ≤ (ρ.1 60000).toInt ∧ (ρ.1 60000).toInt ≤ 3 ∧ (ρ.1 60000 * 5 - (-50)).toInt = (ρ.1 60000).toInt * 5 + 50 ∧ (ρ.1 60000 * 4).toInt = (ρ.1 60000).toInt * 4 := by
  have k0 : (0 : Int) ≤ (ρ.1 60000).toInt := ri_lf (x := ρ.1 60000) (y := 0) a1
  have k3 : (ρ.1 60000).toInt ≤ 3 := ri_lf (x := 3) (y := ρ.1 60000) a2
  refine ⟨k0, k3, ?_, ?_⟩
  · exact i_of (n := (ρ.1 60000).toInt * 5 + 50) (by have := i_sb (i_ml (i_s (ρ.1 60000)) (show (5 : Int32) = Int32.ofInt 5 from rfl)) (show (-50 : Int32) = Int32.ofInt (-50) from rfl); rw [this]; congr 1) (by omega) (by omega)
  · exact i_of (i_ml (i_s _) (show (4 : Int32) = Int32.ofInt 4 from rfl)) (by omega) (by omega)
theorem ta_a {X : pX} {ρ : sR} (a1 : sc X ρ (2, .arg 60000, .int 0) = false) (a2 : sc X ρ (2, .int 3, .arg 60000) = false) (a7 : sc X ρ (137, .add (.elem (.arg 1761) (.int 0)) (.add (.arg 2848) (.add (.elem (.arg 24512) (.int 0)) (.add (.elem (.arg 2404) (.int 0)) (.add (.elem (.arg 24544) (.int 0)) (.add (.elem (.arg 2436) (.int 0)) (.add (.arg 5728) (.add (.arg 5760) (.add (.arg 5792) (.add (.arg 5824) (.add (.arg 5856) (.add (.arg 5888) (.add (.arg 5920) (.add (.arg 5952) (.add (.arg 2082) (.add (.arg 2114) (.add (.arg 2146) (.add (.arg 2178) (.add (.arg 6850) (.add (.arg 6882) (.add (.arg 6914) (.add (.arg 6946) (.add (.arg 2210) (.add (.arg 2242) (.add (.arg 2274) (.add (.arg 2306) (.add (.arg 7362) (.add (.arg 7394) (.add (.arg 7426) (.add (.arg 7458) (.add (.arg 2338) (.add (.arg 2370) (.add (.arg 2402) (.add (.arg 2434) (.add (.arg 7874) (.add (.arg 7906) (.add (.arg 7938) (.add (.arg 7970) (.add (.arg 6240) (.add (.arg 6272) (.add (.arg 6304) (.add (.arg 6336) (.add (.arg 21216) (.add (.arg 21248) (.add (.arg 21280) (.add (.arg 21312) (.add (.arg 1570) (.add (.arg 1602) (.add (.arg 6466) (.arg 6498))))))))))))))))))))))))))))))))))))))))))))))))), .int 0) = true) (an : sc X ρ (0, .arg 2848, .arg 60256) = true) (ab : sc X ρ (0, .op2 .iand (.arg 60256) (.op2 .ishl (.int 256) (.arg 60000)), .int 0) = true) : amapm (ρ.2.2.2.1 1761) (ρ.1 60000 * 5 - (-50)).toInt.toNat (ρ.1 60000 * 4).toInt.toNat (ρ.2.2.1 24512) (ρ.2.2.1 2404) = true := by
  obtain ⟨k0, k3, e5, e4⟩ := ta_k (X := X) a1 a2
  obtain ⟨⟨⟨h0, i0⟩, ⟨h1, i1⟩, ⟨h2, i2⟩, h3, i3⟩, j0, j1⟩ := pd_iff.mp a7
  have ea : ρ.1 2848 = ρ.1 60256 := of_decide_eq_true an
  have eb : ρ.1 60256 &&& (256 <<< (ρ.1 60000 &&& 31)) = 0 := of_decide_eq_true ab
  rw [← ea] at eb
  rcases (show (ρ.1 60000).toInt = 0 ∨ (ρ.1 60000).toInt = 1 ∨ (ρ.1 60000).toInt = 2 ∨ (ρ.1 60000).toInt = 3 by omega) with q | q | q | q
  · have e : ρ.1 60000 = 0 := Int32.toInt_inj.mp q
    rw [e] at eb
    have hb : abit (ρ.1 2848).toInt (8 + 0) = false := ab_z (c := 256 <<< ((0 : Int32) &&& 31)) eb (by decide)
    rw [hb] at h0
    have := pi_m h0
    rw [show (ρ.1 60000 * 5 - (-50)).toInt.toNat = 50 + 5 * 0 by omega, show (ρ.1 60000 * 4).toInt.toNat = 4 * 0 by omega]
    exact this
  · have e : ρ.1 60000 = 1 := Int32.toInt_inj.mp q
    rw [e] at eb
    have hb : abit (ρ.1 2848).toInt (8 + 1) = false := ab_z (c := 256 <<< ((1 : Int32) &&& 31)) eb (by decide)
    rw [hb] at h1
    have := pi_m h1
    rw [show (ρ.1 60000 * 5 - (-50)).toInt.toNat = 50 + 5 * 1 by omega, show (ρ.1 60000 * 4).toInt.toNat = 4 * 1 by omega]
    exact this
  · have e : ρ.1 60000 = 2 := Int32.toInt_inj.mp q
    rw [e] at eb
    have hb : abit (ρ.1 2848).toInt (8 + 2) = false := ab_z (c := 256 <<< ((2 : Int32) &&& 31)) eb (by decide)
    rw [hb] at h2
    have := pi_m h2
    rw [show (ρ.1 60000 * 5 - (-50)).toInt.toNat = 50 + 5 * 2 by omega, show (ρ.1 60000 * 4).toInt.toNat = 4 * 2 by omega]
    exact this
  · have e : ρ.1 60000 = 3 := Int32.toInt_inj.mp q
    rw [e] at eb
    have hb : abit (ρ.1 2848).toInt (8 + 3) = false := ab_z (c := 256 <<< ((3 : Int32) &&& 31)) eb (by decide)
    rw [hb] at h3
    have := pi_m h3
    rw [show (ρ.1 60000 * 5 - (-50)).toInt.toNat = 50 + 5 * 3 by omega, show (ρ.1 60000 * 4).toInt.toNat = 4 * 3 by omega]
    exact this
theorem mr_e1 : ([51, 52, 53, 54, 56, 57, 58, 59, 61, 62, 63, 64, 66, 67, 68, 69] : List Nat).all (fun j => decide (evt[j]? = some (0, 4294967295, 11))) = true := by decide +kernel
theorem mr_11 {g : Nat → Int64} (h : evall g = true) {m : Nat} (hm : m ∈ ([50, 55, 60, 65] : List Nat)) {i : Nat} (hi : i < 4) : mrow g m i ∈ ([0, 327688, 393232, 458784, 1614807056, 1616904200, 1618608160, 1619066912, 1619197984, 1619263520, 1622671376, 1627259168, 1627324448] : List Int) := by
  unfold mrow
  split
  · have hj : m + 1 + i ∈ ([51, 52, 53, 54, 56, 57, 58, 59, 61, 62, 63, 64, 66, 67, 68, 69] : List Nat) := by
      simp only [List.mem_cons, List.not_mem_nil, or_false] at hm ⊢
      omega
    have hl : m + 1 + i < 156 := by
      simp only [List.mem_cons, List.not_mem_nil, or_false] at hm
      omega
    exact List.contains_iff_mem.mp (se_b h (m + 1 + i) (of_decide_eq_true (List.all_eq_true.mp mr_e1 _ hj)) hl).2.2
  · exact List.mem_cons_self
theorem ta_p {g : Nat → Int64} (h : evall g = true) {m : Nat} (hm : m ∈ ([50, 55, 60, 65] : List Nat)) {i : Nat} (hi : i < 4) : mrow g m i % 256 % 8 = 0 ∧ (¬ mrow g m i = 0 → 0 < mrow g m i % 256) := by
  have := mr_11 h hm hi
  simp only [List.mem_cons, List.not_mem_nil, or_false] at this
  rcases this with q | q | q | q | q | q | q | q | q | q | q | q | q <;> rw [q] <;> decide
theorem ta_l {g g' : Nat → Int64} {m a : Nat} {s w : Nat → Int32} (h : evall g = true) (hm : m ∈ ([50, 55, 60, 65] : List Nat)) (am : amapm g m a s w = true) (am' : amapm g' m a s w = true) (c4 : (g m).toInt ≤ 4) (c0 : 0 ≤ (g' m).toInt) : ¬ (g' m).toInt < (g m).toInt := fun q => by
  have hm5 : m ∈ ([50, 55, 60, 65, 90, 95, 100, 105] : List Nat) := by
    simp only [List.mem_cons, List.not_mem_nil, or_false] at hm ⊢
    omega
  have r := am_at am (i := (g' m).toInt.toNat) (by omega)
  have r' := am_at am' (i := (g' m).toInt.toNat) (by omega)
  have z : mrow g' m (g' m).toInt.toNat = 0 := by
    unfold mrow
    rw [if_neg (by omega)]
  have nz := bo_nz h hm5 (i := (g' m).toInt.toNat) (by omega)
  have p := (ta_p h hm (i := (g' m).toInt.toNat) (by omega)).2 nz
  rw [z] at r'
  have e := r.2.symm.trans r'.2
  rw [e] at p
  exact absurd p (by decide)
theorem ta_w {g : Nat → Int64} {m a : Nat} {s w : Nat → Int32} (am : amapm g m a s w = true) {n : Nat} (hn : n ≤ 4) : ((List.range n).map (fun j => mrow g m j % 256)).sum = ((List.range n).map (fun j => (w (a + j)).toInt)).sum := by
  congr 1
  exact List.map_congr_left (fun j hj => ((am_at am (by have := List.mem_range.mp hj; omega)).2).symm)
theorem ta_8 {g : Nat → Int64} (h : evall g = true) {m : Nat} (hm : m ∈ ([50, 55, 60, 65] : List Nat)) {n : Nat} (hn : n ≤ 4) : ((List.range n).map (fun j => mrow g m j % 256)).sum % 8 = 0 ∧ (∀ k, n ≤ k → k ≤ 4 → ((List.range n).map (fun j => mrow g m j % 256)).sum ≤ ((List.range k).map (fun j => mrow g m j % 256)).sum) := by
  constructor
  · induction n with
    | zero => rfl
    | succ n ih =>
      rw [List.range_succ, List.map_append, List.sum_append]
      have i := ih (by omega)
      have p := (ta_p h hm (i := n) (by omega)).1
      simp only [List.map_cons, List.map_nil, List.sum_cons, List.sum_nil]
      omega
  · intro k
    induction k with
    | zero => intro h1 _; rw [Nat.le_zero.mp h1]; exact Int.le_refl _
    | succ k ih =>
      intro h1 h2
      by_cases e : n = k + 1
      · rw [e]; exact Int.le_refl _
      · have i := ih (by omega) (by omega)
        rw [List.range_succ, List.map_append, List.sum_append]
        have p := Int.emod_nonneg (mrow g m k) (show (256 : Int) ≠ 0 by decide)
        simp only [List.map_cons, List.map_nil, List.sum_cons, List.sum_nil]
        omega
theorem ta_n {X : pX} {ρ : sR} : sc X ρ (119, .add (.arg 60224) (.add (.sub (.mul (.arg 60000) (.int 5)) (.int (-50))) (.add (.int 0) (.elem (.arg 1761) (.int 0)))), .int 0) = true ↔ (ρ.1 60224).toInt = (ρ.2.2.2.1 1761 (ρ.1 60000 * 5 - (-50)).toInt.toNat).toInt := by
  show decide ((ρ.1 60224).toInt = (ρ.2.2.2.1 1761 ((ρ.1 60000 * 5 - (-50)).toInt + 5 * (0 : Int32).toInt + (0 : Int32).toInt).toNat).toInt) = true ↔ _
  rw [show (ρ.1 60000 * 5 - (-50)).toInt + 5 * (0 : Int32).toInt + (0 : Int32).toInt = (ρ.1 60000 * 5 - (-50)).toInt by rw [show (0 : Int32).toInt = 0 from rfl]; omega, decide_eq_true_eq]
theorem ta_s {X : pX} {ρ ρ3 : sR} {wi : Int32} (a1 : sc X ρ (2, .arg 60000, .int 0) = false) (a2 : sc X ρ (2, .int 3, .arg 60000) = false) (a6 : sc X ρ (101, .elem (.arg 1761) (.int 0), .int 0) = true) (a7 : sc X ρ (137, .add (.elem (.arg 1761) (.int 0)) (.add (.arg 2848) (.add (.elem (.arg 24512) (.int 0)) (.add (.elem (.arg 2404) (.int 0)) (.add (.elem (.arg 24544) (.int 0)) (.add (.elem (.arg 2436) (.int 0)) (.add (.arg 5728) (.add (.arg 5760) (.add (.arg 5792) (.add (.arg 5824) (.add (.arg 5856) (.add (.arg 5888) (.add (.arg 5920) (.add (.arg 5952) (.add (.arg 2082) (.add (.arg 2114) (.add (.arg 2146) (.add (.arg 2178) (.add (.arg 6850) (.add (.arg 6882) (.add (.arg 6914) (.add (.arg 6946) (.add (.arg 2210) (.add (.arg 2242) (.add (.arg 2274) (.add (.arg 2306) (.add (.arg 7362) (.add (.arg 7394) (.add (.arg 7426) (.add (.arg 7458) (.add (.arg 2338) (.add (.arg 2370) (.add (.arg 2402) (.add (.arg 2434) (.add (.arg 7874) (.add (.arg 7906) (.add (.arg 7938) (.add (.arg 7970) (.add (.arg 6240) (.add (.arg 6272) (.add (.arg 6304) (.add (.arg 6336) (.add (.arg 21216) (.add (.arg 21248) (.add (.arg 21280) (.add (.arg 21312) (.add (.arg 1570) (.add (.arg 1602) (.add (.arg 6466) (.arg 6498))))))))))))))))))))))))))))))))))))))))))))))))), .int 0) = true) (an : sc X ρ (0, .arg 2848, .arg 60256) = true) (ab : sc X ρ (0, .op2 .iand (.arg 60256) (.op2 .ishl (.int 256) (.arg 60000)), .int 0) = true) (a9 : sc X ρ (140, .add (.elem (.arg 1761) (.int 0)) (.add (.sub (.mul (.arg 60000) (.int 5)) (.int (-50))) (.add (.elem (.arg 24512) (.int 0)) (.add (.elem (.arg 2404) (.int 0)) (.add (.mul (.arg 60000) (.int 4)) (.arg 60096))))), .sub (.arg 60064) (.mul (.arg 60000) (.int 4))) = true) (a8 : sc X ρ (119, .add (.arg 60224) (.add (.sub (.mul (.arg 60000) (.int 5)) (.int (-50))) (.add (.int 0) (.elem (.arg 1761) (.int 0)))), .int 0) = true) (a3 : sc X ρ (2, .sub (.arg 60064) (.mul (.arg 60000) (.int 4)), .int 0) = false) (a5 : sc X ρ (2, .arg 60096, .int 0) = false) (hw : ρ.2.2.1 2404 (ρ.1 60064).toNatClampNeg = wi) (jl : (ρ.1 60064 - ρ.1 60000 * 4).toInt < 4) (t1 : ρ3.1 60064 = ρ.1 60064 + 1) (t2 : ρ3.1 60096 = ρ.1 60096 + wi) (t3 : ρ3.1 60224 = ρ.1 60224) (eK : ρ3.1 60000 = ρ.1 60000) (es : ρ3.2.2.1 24512 = ρ.2.2.1 24512) (ew : ρ3.2.2.1 2404 = ρ.2.2.1 2404) (b6 : sc X ρ3 (101, .elem (.arg 1761) (.int 0), .int 0) = true) (b7 : sc X ρ3 (137, .add (.elem (.arg 1761) (.int 0)) (.add (.arg 2848) (.add (.elem (.arg 24512) (.int 0)) (.add (.elem (.arg 2404) (.int 0)) (.add (.elem (.arg 24544) (.int 0)) (.add (.elem (.arg 2436) (.int 0)) (.add (.arg 5728) (.add (.arg 5760) (.add (.arg 5792) (.add (.arg 5824) (.add (.arg 5856) (.add (.arg 5888) (.add (.arg 5920) (.add (.arg 5952) (.add (.arg 2082) (.add (.arg 2114) (.add (.arg 2146) (.add (.arg 2178) (.add (.arg 6850) (.add (.arg 6882) (.add (.arg 6914) (.add (.arg 6946) (.add (.arg 2210) (.add (.arg 2242) (.add (.arg 2274) (.add (.arg 2306) (.add (.arg 7362) (.add (.arg 7394) (.add (.arg 7426) (.add (.arg 7458) (.add (.arg 2338) (.add (.arg 2370) (.add (.arg 2402) (.add (.arg 2434) (.add (.arg 7874) (.add (.arg 7906) (.add (.arg 7938) (.add (.arg 7970) (.add (.arg 6240) (.add (.arg 6272) (.add (.arg 6304) (.add (.arg 6336) (.add (.arg 21216) (.add (.arg 21248) (.add (.arg 21280) (.add (.arg 21312) (.add (.arg 1570) (.add (.arg 1602) (.add (.arg 6466) (.arg 6498))))))))))))))))))))))))))))))))))))))))))))))))), .int 0) = true) (bn : sc X ρ3 (0, .arg 2848, .arg 60256) = true) (bb : sc X ρ3 (0, .op2 .iand (.arg 60256) (.op2 .ishl (.int 256) (.arg 60000)), .int 0) = true) : sc X ρ3 (140, .add (.elem (.arg 1761) (.int 0)) (.add (.sub (.mul (.arg 60000) (.int 5)) (.int (-50))) (.add (.elem (.arg 24512) (.int 0)) (.add (.elem (.arg 2404) (.int 0)) (.add (.mul (.arg 60000) (.int 4)) (.arg 60096))))), .sub (.arg 60064) (.mul (.arg 60000) (.int 4))) = true ∧ sc X ρ3 (119, .add (.arg 60224) (.add (.sub (.mul (.arg 60000) (.int 5)) (.int (-50))) (.add (.int 0) (.elem (.arg 1761) (.int 0)))), .int 0) = true := by
  obtain ⟨k0, k3, e5, e4⟩ := ta_k (X := X) a1 a2
  have j0 : (0 : Int) ≤ (ρ.1 60064 - ρ.1 60000 * 4).toInt := ri_lf (x := ρ.1 60064 - ρ.1 60000 * 4) (y := 0) a3
  have t0 : (0 : Int) ≤ (ρ.1 60096).toInt := ri_lf (x := ρ.1 60096) (y := 0) a5
  have z1 : (1 : Int32).toInt = 1 := rfl
  have eI : (ρ.1 60064).toInt = (ρ.1 60064 - ρ.1 60000 * 4).toInt + (ρ.1 60000).toInt * 4 := by
    have e : ρ.1 60064 = (ρ.1 60064 - ρ.1 60000 * 4) + ρ.1 60000 * 4 := by grind
    have := s_add (x := ρ.1 60064 - ρ.1 60000 * 4) (y := ρ.1 60000 * 4) (by omega) (by omega)
    rw [← e, e4] at this
    exact this
  have en : (ρ.1 60000 * 4).toInt.toNat + (ρ.1 60064 - ρ.1 60000 * 4).toInt.toNat = (ρ.1 60064).toNatClampNeg := by rw [s_nat]; omega
  have ej : (ρ.1 60064 + 1 - ρ.1 60000 * 4).toInt.toNat = (ρ.1 60064 - ρ.1 60000 * 4).toInt.toNat + 1 := by
    have e : ρ.1 60064 + 1 - ρ.1 60000 * 4 = (ρ.1 60064 - ρ.1 60000 * 4) + 1 := by grind
    rw [e, s_add (x := ρ.1 60064 - ρ.1 60000 * 4) (y := 1) (by rw [z1]; omega) (by rw [z1]; omega), z1]
    omega
  have hm : (ρ.1 60000 * 5 - (-50)).toInt.toNat ∈ ([50, 55, 60, 65] : List Nat) := by
    simp only [List.mem_cons, List.not_mem_nil, or_false]
    omega
  have hm8 : (ρ.1 60000 * 5 - (-50)).toInt.toNat ∈ ([50, 55, 60, 65, 90, 95, 100, 105] : List Nat) := by
    simp only [List.mem_cons, List.not_mem_nil, or_false]
    omega
  have am := ta_a (X := X) a1 a2 a7 an ab
  have am' := ta_a (X := X) (ρ := ρ3) (by show decide (ρ3.1 60000 < 0) = false; rw [eK]; exact a1) (by show decide (3 < ρ3.1 60000) = false; rw [eK]; exact a2) b7 bn bb
  rw [eK, es, ew] at am'
  have b6' : evall (ρ3.2.2.2.1 1761) = true := b6
  obtain ⟨c0, c4, c64⟩ := am_64 (g := (ρ.2.2.2.1 1761)) a6 hm8
  obtain ⟨d0, d4, d64⟩ := am_64 (g := ρ3.2.2.2.1 1761) b6' hm8
  have h140 : amapn (ρ.2.2.2.1 1761) (ρ.1 60000 * 5 - (-50)).toInt.toNat (ρ.1 60000 * 4).toInt.toNat (ρ.1 60064 - ρ.1 60000 * 4).toInt.toNat (ρ.2.2.1 24512) (ρ.2.2.1 2404) (ρ.1 60096).toInt = true := a9
  have hT : (ρ.1 60096).toInt = ((List.range (ρ.1 60064 - ρ.1 60000 * 4).toInt.toNat).map (fun j => mrow (ρ.2.2.2.1 1761) (ρ.1 60000 * 5 - (-50)).toInt.toNat j % 256)).sum := by
    unfold amapn at h140
    simp only [Bool.and_eq_true, decide_eq_true_eq] at h140
    exact h140.2
  have hr := am_at am (i := (ρ.1 60064 - ρ.1 60000 * 4).toInt.toNat) (by omega)
  rw [en, hw] at hr
  have w0 := Int.emod_nonneg (mrow (ρ.2.2.2.1 1761) (ρ.1 60000 * 5 - (-50)).toInt.toNat (ρ.1 60064 - ρ.1 60000 * 4).toInt.toNat) (show (256 : Int) ≠ 0 by decide)
  have w1 := Int.emod_lt_of_pos (mrow (ρ.2.2.2.1 1761) (ρ.1 60000 * 5 - (-50)).toInt.toNat (ρ.1 60064 - ρ.1 60000 * 4).toInt.toNat) (show (0 : Int) < 256 by decide)
  have mo := (ta_8 (g := (ρ.2.2.2.1 1761)) a6 hm (n := (ρ.1 60064 - ρ.1 60000 * 4).toInt.toNat) (by omega)).2 4 (by omega) (by omega)
  have s4 : ((List.range 4).map (fun j => mrow (ρ.2.2.2.1 1761) (ρ.1 60000 * 5 - (-50)).toInt.toNat j % 256)).sum = amsum (ρ.2.2.2.1 1761) (ρ.1 60000 * 5 - (-50)).toInt.toNat := rfl
  rw [s4, ← hT] at mo
  refine ⟨?_, ?_⟩
  · show amapn (ρ3.2.2.2.1 1761) (ρ3.1 60000 * 5 - (-50)).toInt.toNat (ρ3.1 60000 * 4).toInt.toNat (ρ3.1 60064 - ρ3.1 60000 * 4).toInt.toNat (ρ3.2.2.1 24512) (ρ3.2.2.1 2404) (ρ3.1 60096).toInt = true
    rw [eK, t1, t2, es, ew, ej]
    unfold amapn
    simp only [Bool.and_eq_true, List.all_eq_true, List.mem_range, decide_eq_true_eq]
    refine ⟨fun j hj => am_at am' (by omega), ?_⟩
    rw [ta_w am' (by omega), s_add (by omega) (by omega), hT, ta_w am (by omega), List.range_succ, List.map_append, List.sum_append]
    simp only [List.map_cons, List.map_nil, List.sum_cons, List.sum_nil]
    rw [en, hw]
    omega
  · refine ta_n.mpr ?_
    have e := ta_n.mp a8
    rw [t3, eK, e]
    have l1 := ta_l (g := (ρ.2.2.2.1 1761)) (g' := ρ3.2.2.2.1 1761) a6 hm am am' c4 d0
    have l2 := ta_l (g := ρ3.2.2.2.1 1761) (g' := (ρ.2.2.2.1 1761)) b6' hm am' am d4 c0
    omega
theorem mi_s115 : mslot 1614807056 = 115 := by decide +kernel
theorem mi_s122 : mslot 1616904200 = 122 := by decide +kernel
theorem mi_s132 : mslot 1618608160 = 132 := by decide +kernel
theorem mi_s138 : mslot 1619066912 = 138 := by decide +kernel
theorem mi_s139 : mslot 1619197984 = 139 := by decide +kernel
theorem mi_s140 : mslot 1619263520 = 140 := by decide +kernel
theorem mi_s147 : mslot 1622671376 = 147 := by decide +kernel
theorem mi_s153 : mslot 1627259168 = 153 := by decide +kernel
theorem mi_s154 : mslot 1627324448 = 154 := by decide +kernel
theorem mi_g8 : mslot 327688 = -1 := by decide +kernel
theorem mi_g16 : mslot 393232 = -1 := by decide +kernel
theorem mi_g32 : mslot 458784 = -1 := by decide +kernel
theorem mi_0 : mslot 0 = -1 := by decide +kernel
