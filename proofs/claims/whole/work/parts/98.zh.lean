set_option maxRecDepth 20000
/-! ===== a number of nobody's is set ===== -/
noncomputable def rs2 (g : Nat) (x : Int32) (y : Int64) (ρ : sR) : sR := (fun i => if i = g then x else ρ.1 i, fun i => if i = g then y else ρ.2.1 i, ρ.2.2)
section SET
variable {X : pX} {K : sK} {ρ0 : sR}
theorem rs2_agr {g : Nat} {x : Int32} {y : Int64} {ρ : sR} : agr g (rs2 g x y ρ) ρ := ⟨fun _ hi => ⟨if_neg (Nat.ne_of_lt hi), if_neg (Nat.ne_of_lt hi)⟩, fun _ _ => ⟨rfl, rfl⟩⟩
theorem rs2_vok {g : Nat} {x : Int32} {y : Int64} {ρ : sR} (hv : vok X ρ) (hn : vrng g = none) : vok X (rs2 g x y ρ) := by
  constructor
  · intro i r hr
    by_cases hi : i = g
    · rw [hi, hn] at hr; cases hr
    · have e : sn X (rs2 g x y ρ) (.arg i) = sn X ρ (.arg i) := by
        show (if i % 2 = 1 then (if i = g then y else ρ.2.1 i).toInt else (if i = g then x else ρ.1 i).toInt) = if i % 2 = 1 then (ρ.2.1 i).toInt else (ρ.1 i).toInt
        rw [if_neg hi, if_neg hi]
      rw [e]
      exact hv.1 i r hr
  · intro a t r hr
    have e : sn X (rs2 g x y ρ) (.elem (.arg a) t) = sn X ρ (.elem (.arg a) (.int (sd X (rs2 g x y ρ) t).1)) := rfl
    rw [e]
    exact hv.2 a _ r hr
theorem RelP_agq {Ft : Nat → Nat → FieldType} {dfl : Nat → Nat × List Value} {Mt : List pM} {n dc dm : Nat} {Zc Zm : sH} {J : sR → List Value → List Value → Prop} {ρ2 ρ : sR} (ag : agr n ρ2 ρ) {s1 s2 : sS} (h1 : (s1.1 :: s1.2.1).all (vltF n) = true) (z1 : hall (vltE n) 9 s1.2.2.2.1.1 = true) (h2 : (s2.1 :: s2.2.1).all (vltF n) = true) (z2 : hall (vltE n) 9 s2.2.2.2.1.1 = true) (h : RelP X Ft dfl Mt dc dm Zc Zm J ρ2 s1 s2) : RelP X Ft dfl Mt dc dm Zc Zm J ρ s1 s2 := by
  obtain ⟨ρ', vc, vm, j, a, b⟩ := h
  exact ⟨ρ', vc, vm, j, GPh_agr ag h1 z1 a, GPh_agr ag h2 z2 b⟩
/-- the cut holds if it holds with a number of nobody's set so -/
theorem CUT_set {Z : sH} {C : sC} {d g : Nat} {c1 c2 : sF × List sF × Nat} {F F' : sFs} {I I' : sI} (hx : K.2.2.2 = false) (hn : vrng g = none) (hm : g ∈ C.2.2.2.2.1.1) (hF : fvlt g F = true) (hI : ivlt g I = true) (h1 : (c1.1 :: c1.2.1).all (vltF g) = true) (h2 : (c2.1 :: c2.2.1).all (vltF g) = true) (hf : cfine Z g C = true) (hq : ∀ ρ : sR, kok X ρ K → fok X ρ F → iok X ρ I → ∃ (x : Int32) (y : Int64), ∀ ρ' : sR, agr g ρ' ρ → ρ'.1 g = x → ρ'.2.1 g = y → fok X ρ' F → iok X ρ' I → fok X ρ' F' ∧ iok X ρ' I') (h : CUTOK X K Z C d ρ0 (c1, c2, F', I')) : CUTOK X K Z C d ρ0 (c1, c2, F, I) := by
  intro ρ1 k1 k2 k3 k4
  obtain ⟨x, y, hq⟩ := hq ρ1 k1 k2 k3
  have ag : agr g (rs2 g x y ρ1) ρ1 := rs2_agr
  have f1 : fok X (rs2 g x y ρ1) F := ⟨rs2_vok k2.1 hn, fall_agr ag hF k2.2⟩
  have i1 : iok X (rs2 g x y ρ1) I := iok_agr ag hI k3
  obtain ⟨f2, i2⟩ := hq _ ag (if_pos rfl) (if_pos rfl) f1 i1
  have k4' : agrM 65536 C.2.2.2.2.1.1 C.2.2.2.2.1.2 (rs2 g x y ρ1) ρ0 := ⟨fun i hi hn => by
    have hne : ¬ i = g := fun e => hn (e ▸ hm)
    exact ⟨(if_neg hne).trans (k4.1 i hi hn).1, (if_neg hne).trans (k4.1 i hi hn).2⟩, k4.2⟩
  have kk : kok X (rs2 g x y ρ1) K := ⟨k1.1, k1.2.1, k1.2.2.1, fun e => by rw [hx] at e; cases e⟩
  have hh := h (rs2 g x y ρ1) kk f2 i2 k4'
  simp only [cfine, Bool.and_eq_true] at hf
  exact RelP_agq (n := g) (ρ2 := rs2 g x y ρ1) (ρ := ρ1) ag h1 hf.1 h2 hf.2.1 hh
end SET
/-! ===== what a map sends, as a number ===== -/
section AOU
variable {l : List (((Nat → Int32) × (Nat → Int64)) × Int)} {m n : Nat}
theorem ao_1 : aoutn l m (n + 1) = ((aoutn l m n).1 + (avo l (mslot (mrow (al_ l 0) m n)) % 2 ^ (mrow (al_ l 0) m n % 256).toNat) * 2 ^ (aoutn l m n).2, (aoutn l m n).2 + (mrow (al_ l 0) m n % 256).toNat) := by
  unfold aoutn
  rw [List.range_succ, List.foldl_append]
  rfl
theorem ao_b : 0 ≤ (aoutn l m n).1 ∧ (aoutn l m n).1 < 2 ^ (aoutn l m n).2 := by
  induction n with
  | zero => exact ⟨Int.le_refl _, show (0 : Int) < 2 ^ 0 by decide⟩
  | succ n ih =>
    rw [ao_1]
    dsimp only
    have p : (0 : Int) < 2 ^ (mrow (al_ l 0) m n % 256).toNat := Int.pow_pos (by decide)
    have q : (0 : Int) < 2 ^ (aoutn l m n).2 := Int.pow_pos (by decide)
    have a := Int.emod_nonneg (avo l (mslot (mrow (al_ l 0) m n))) (Int.ne_of_gt p)
    have b := Int.emod_lt_of_pos (avo l (mslot (mrow (al_ l 0) m n))) p
    rw [Int.pow_add]
    generalize avo l (mslot (mrow (al_ l 0) m n)) % 2 ^ (mrow (al_ l 0) m n % 256).toNat = y at a b ⊢
    generalize (2 : Int) ^ (mrow (al_ l 0) m n % 256).toNat = W at p b ⊢
    generalize (2 : Int) ^ (aoutn l m n).2 = T at q ih ⊢
    have c := Int.mul_le_mul_of_nonneg_right (show y ≤ W - 1 by omega) (Int.le_of_lt q)
    rw [Int.sub_mul, Int.one_mul, Int.mul_comm W T] at c
    have d := Int.mul_nonneg a (Int.le_of_lt q)
    generalize y * T = u at c d ⊢
    generalize T * W = z at c ⊢
    omega
theorem ao_m {k : Nat} (h : n ≤ k) : (aoutn l m n).2 ≤ (aoutn l m k).2 := by
  induction k with
  | zero => rw [Nat.le_zero.mp h]; exact Nat.le_refl _
  | succ k ih =>
    by_cases e : n = k + 1
    · rw [e]; exact Nat.le_refl _
    · rw [ao_1]
      exact Nat.le_trans (ih (by omega)) (Nat.le_add_right _ _)
theorem ao_z (h : mrow (al_ l 0) m n % 256 = 0) : aoutn l m (n + 1) = aoutn l m n := by
  rw [ao_1, h]
  show ((aoutn l m n).1 + avo l (mslot (mrow (al_ l 0) m n)) % 1 * _, (aoutn l m n).2 + 0) = _
  rw [Int.emod_one, Int.zero_mul, Int.add_zero, Nat.add_zero]
theorem ao_4 : ((aoutn l m 4).2 : Int) = amsum (al_ l 0) m := by
  rw [ao_1, ao_1, ao_1, ao_1]
  dsimp only
  unfold amsum
  show _ = (([0, 1, 2, 3] : List Nat).map _).sum
  simp only [List.map_cons, List.map_nil, List.sum_cons, List.sum_nil]
  have e : (aoutn l m 0).2 = 0 := rfl
  have p0 := Int.emod_nonneg (mrow (al_ l 0) m 0) (show (256 : Int) ≠ 0 by decide)
  have p1 := Int.emod_nonneg (mrow (al_ l 0) m 1) (show (256 : Int) ≠ 0 by decide)
  have p2 := Int.emod_nonneg (mrow (al_ l 0) m 2) (show (256 : Int) ≠ 0 by decide)
  have p3 := Int.emod_nonneg (mrow (al_ l 0) m 3) (show (256 : Int) ≠ 0 by decide)
  omega
theorem ao_e {j : Nat} (hj : j ≤ 4) (h : (aoutn l m j).2 = (aoutn l m 4).2) : aoutn l m 4 = aoutn l m j := by
  have key : ∀ k, j ≤ k → k ≤ 4 → aoutn l m k = aoutn l m j := by
    intro k
    induction k with
    | zero => intro h1 _; rw [Nat.le_zero.mp h1]
    | succ k ih =>
      intro h1 h2
      by_cases e : j = k + 1
      · rw [e]
      · have i := ih (by omega) (by omega)
        have a := ao_m (l := l) (m := m) (n := k + 1) (k := 4) h2
        rw [ao_1] at a
        dsimp only at a
        rw [i, h] at a
        have p := Int.emod_nonneg (mrow (al_ l 0) m k) (show (256 : Int) ≠ 0 by decide)
        rw [ao_z (by omega), i]
  exact key 4 hj (Nat.le_refl _)
end AOU
theorem am_64 {g : Nat → Int64} {m : Nat} (h : evall g = true) (hm : m ∈ ([50, 55, 60, 65, 90, 95, 100, 105] : List Nat)) : 0 ≤ (g m).toInt ∧ (g m).toInt ≤ 4 ∧ amsum g m ≤ 64 := by
  have hl : m ≤ 105 := by
    simp only [List.mem_cons, List.not_mem_nil, or_false] at hm
    omega
  have b := se_b h m (of_decide_eq_true (List.all_eq_true.mp et_m m hm)) (by omega)
  simp only [evall, Bool.and_eq_true, List.all_eq_true] at h
  have e := h.2 m hm
  unfold evm at e
  simp only [Bool.and_eq_true, decide_eq_true_eq] at e
  refine ⟨b.1, b.2.1, ?_⟩
  have e := e.2
  unfold amsum mrow
  show (([0, 1, 2, 3] : List Nat).map _).sum ≤ 64
  simp only [List.map_cons, List.map_nil, List.sum_cons, List.sum_nil]
  rcases (show (g m).toInt = 0 ∨ (g m).toInt = 1 ∨ (g m).toInt = 2 ∨ (g m).toInt = 3 ∨ (g m).toInt = 4 by omega) with q | q | q | q | q <;> rw [q] at e ⊢
  · simp
  · have e : (([0] : List Nat).map (fun i => (g (m + 1 + i)).toInt % 256)).sum ≤ 64 := e
    simp only [List.map_cons, List.map_nil, List.sum_cons, List.sum_nil, Nat.add_zero] at e
    simp
    omega
  · have e : (([0, 1] : List Nat).map (fun i => (g (m + 1 + i)).toInt % 256)).sum ≤ 64 := e
    simp only [List.map_cons, List.map_nil, List.sum_cons, List.sum_nil, Nat.add_zero] at e
    simp
    omega
  · have e : (([0, 1, 2] : List Nat).map (fun i => (g (m + 1 + i)).toInt % 256)).sum ≤ 64 := e
    simp only [List.map_cons, List.map_nil, List.sum_cons, List.sum_nil, Nat.add_zero] at e
    simp
    omega
  · have e : (([0, 1, 2, 3] : List Nat).map (fun i => (g (m + 1 + i)).toInt % 256)).sum ≤ 64 := e
    simp only [List.map_cons, List.map_nil, List.sum_cons, List.sum_nil, Nat.add_zero] at e
    simp
    omega
theorem sh_t : (List.range 64).all (fun t => decide (((Int32.ofInt t).toInt64 &&& 63).toBitVec.smod 64 = BitVec.ofNat 64 t)) = true := by decide +kernel
theorem em_8 {x : Int64} : x.toInt % 2 ^ 8 = ((x.toBitVec.toNat % 2 ^ 8 : Nat) : Int) := by
  have b := x.toBitVec.isLt
  show x.toBitVec.toInt % 2 ^ 8 = _
  rw [BitVec.toInt_eq_toNat_cond]
  split <;> omega
theorem em_16 {x : Int64} : x.toInt % 2 ^ 16 = ((x.toBitVec.toNat % 2 ^ 16 : Nat) : Int) := by
  have b := x.toBitVec.isLt
  show x.toBitVec.toInt % 2 ^ 16 = _
  rw [BitVec.toInt_eq_toNat_cond]
  split <;> omega
theorem em_32 {x : Int64} : x.toInt % 2 ^ 32 = ((x.toBitVec.toNat % 2 ^ 32 : Nat) : Int) := by
  have b := x.toBitVec.isLt
  show x.toBitVec.toInt % 2 ^ 32 = _
  rw [BitVec.toInt_eq_toNat_cond]
  split <;> omega
theorem ao_or {a x k : Int64} {tt : Int32} {s : Int} {t w : Nat} (ha : a.toInt = Int.bmod s 18446744073709551616) (h0 : 0 ≤ s) (h1 : s < 2 ^ t) (ht : t + w ≤ 64) (hw : 0 < w) (e : tt.toInt = t) (hk : k.toBitVec.toNat = 2 ^ w - 1) (hx : x.toInt % 2 ^ w = ((x.toBitVec.toNat % 2 ^ w : Nat) : Int)) : (a ||| (s2 .lshl (0, x &&& k) (tt, 0)).2).toInt = Int.bmod (s + x.toInt % 2 ^ w * 2 ^ t) 18446744073709551616 := by
  have p64 : (2 : Nat) ^ t ≤ 2 ^ 64 := Nat.pow_le_pow_right (by decide) (by omega)
  obtain ⟨s', rfl⟩ : ∃ s' : Nat, s = s' := ⟨s.toNat, by omega⟩
  have h1 : s' < 2 ^ t := by exact_mod_cast h1
  have an : a.toBitVec.toNat = s' := by
    have q : a.toBitVec.toInt = Int.bmod s' (2 ^ 64 : Nat) := ha
    have q2 := congrArg (fun z : Int => z % (2 ^ 64 : Nat)) (BitVec.toInt_eq_toNat_bmod a.toBitVec)
    rw [q, Int.bmod_emod, Int.bmod_emod] at q2
    have q3 : s' % 2 ^ 64 = a.toBitVec.toNat % 2 ^ 64 := by exact_mod_cast q2
    rw [Nat.mod_eq_of_lt (by omega), Nat.mod_eq_of_lt a.toBitVec.isLt] at q3
    exact q3.symm
  have tn : tt = Int32.ofInt t := by rw [← e, Int32.ofInt_toInt]
  have sh : (s2 .lshl (0, x &&& k) (tt, 0)).2.toBitVec.toNat = x.toBitVec.toNat % 2 ^ w * 2 ^ t := by
    show ((x &&& k) <<< (tt.toInt64 &&& 63)).toBitVec.toNat = _
    rw [Int64.toBitVec_shiftLeft, tn, of_decide_eq_true (List.all_eq_true.mp sh_t t (List.mem_range.mpr (by omega))), BitVec.shiftLeft_eq', BitVec.toNat_shiftLeft, BitVec.toNat_ofNat, Nat.mod_eq_of_lt (show t < 2 ^ 64 by omega), Int64.toBitVec_and, BitVec.toNat_and, hk, Nat.and_two_pow_sub_one_eq_mod, Nat.shiftLeft_eq]
    apply Nat.mod_eq_of_lt
    have b1 : x.toBitVec.toNat % 2 ^ w < 2 ^ w := Nat.mod_lt _ (Nat.pow_pos (by decide))
    have b2 : x.toBitVec.toNat % 2 ^ w * 2 ^ t < 2 ^ w * 2 ^ t := Nat.mul_lt_mul_of_pos_right b1 (Nat.pow_pos (by decide))
    rw [← Nat.pow_add] at b2
    exact Nat.lt_of_lt_of_le b2 (Nat.pow_le_pow_right (by decide) (by omega))
  have fin : (a ||| (s2 .lshl (0, x &&& k) (tt, 0)).2).toBitVec.toNat = s' + x.toBitVec.toNat % 2 ^ w * 2 ^ t := by
    rw [Int64.toBitVec_or, BitVec.toNat_or, an, sh, Nat.or_comm, Nat.mul_comm _ (2 ^ t), ← Nat.two_pow_add_eq_or_of_lt h1, Nat.add_comm]
  show (a ||| (s2 .lshl (0, x &&& k) (tt, 0)).2).toBitVec.toInt = _
  rw [BitVec.toInt_eq_toNat_bmod, fin, hx]
  congr 1
theorem av_1 {X : pX} {ρ : sR} : avo (aits X ρ (.add (.elem (.arg 1761) (.int 0)) (.add (.arg 2816) (.add (.arg 2784) (.add (.arg 1665) (.add (.arg 1633) (.add (.arg 7073) (.add (.arg 3008) (.add (.arg 2018) (.add (.arg 1954) (.add (.arg 1986) (.add (.arg 1697) (.add (.arg 1729) (.add (.arg 1296) (.add (.arg 1634) (.add (.arg 6625) (.add (.arg 7041) (.add (.arg 7105) (.add (.arg 7137) (.arg 7169)))))))))))))))))))) 1 = (ρ.2.1 6625).toInt := by
  unfold avo
  dsimp only
  rw [if_pos rfl]
  rfl
theorem av_114 {X : pX} {ρ : sR} : avo (aits X ρ (.add (.elem (.arg 1761) (.int 0)) (.add (.arg 2816) (.add (.arg 2784) (.add (.arg 1665) (.add (.arg 1633) (.add (.arg 7073) (.add (.arg 3008) (.add (.arg 2018) (.add (.arg 1954) (.add (.arg 1986) (.add (.arg 1697) (.add (.arg 1729) (.add (.arg 1296) (.add (.arg 1634) (.add (.arg 6625) (.add (.arg 7041) (.add (.arg 7105) (.add (.arg 7137) (.arg 7169)))))))))))))))))))) 114 = (ρ.2.1 7041).toInt := by
  unfold avo
  dsimp only
  rw [if_neg (by decide), if_pos rfl]
  rfl
theorem av_116 {X : pX} {ρ : sR} : avo (aits X ρ (.add (.elem (.arg 1761) (.int 0)) (.add (.arg 2816) (.add (.arg 2784) (.add (.arg 1665) (.add (.arg 1633) (.add (.arg 7073) (.add (.arg 3008) (.add (.arg 2018) (.add (.arg 1954) (.add (.arg 1986) (.add (.arg 1697) (.add (.arg 1729) (.add (.arg 1296) (.add (.arg 1634) (.add (.arg 6625) (.add (.arg 7041) (.add (.arg 7105) (.add (.arg 7137) (.arg 7169)))))))))))))))))))) 116 = astat (aits X ρ (.add (.elem (.arg 1761) (.int 0)) (.add (.arg 2816) (.add (.arg 2784) (.add (.arg 1665) (.add (.arg 1633) (.add (.arg 7073) (.add (.arg 3008) (.add (.arg 2018) (.add (.arg 1954) (.add (.arg 1986) (.add (.arg 1697) (.add (.arg 1729) (.add (.arg 1296) (.add (.arg 1634) (.add (.arg 6625) (.add (.arg 7041) (.add (.arg 7105) (.add (.arg 7137) (.arg 7169)))))))))))))))))))) := by
  unfold avo
  dsimp only
  rw [if_neg (by decide), if_neg (by decide), if_pos rfl]
theorem av_123 {X : pX} {ρ : sR} : avo (aits X ρ (.add (.elem (.arg 1761) (.int 0)) (.add (.arg 2816) (.add (.arg 2784) (.add (.arg 1665) (.add (.arg 1633) (.add (.arg 7073) (.add (.arg 3008) (.add (.arg 2018) (.add (.arg 1954) (.add (.arg 1986) (.add (.arg 1697) (.add (.arg 1729) (.add (.arg 1296) (.add (.arg 1634) (.add (.arg 6625) (.add (.arg 7041) (.add (.arg 7105) (.add (.arg 7137) (.arg 7169)))))))))))))))))))) 123 = (ρ.2.1 7073).toInt := by
  unfold avo
  dsimp only
  rw [if_neg (by decide), if_neg (by decide), if_neg (by decide), if_pos rfl]
  rfl
theorem av_124 {X : pX} {ρ : sR} : avo (aits X ρ (.add (.elem (.arg 1761) (.int 0)) (.add (.arg 2816) (.add (.arg 2784) (.add (.arg 1665) (.add (.arg 1633) (.add (.arg 7073) (.add (.arg 3008) (.add (.arg 2018) (.add (.arg 1954) (.add (.arg 1986) (.add (.arg 1697) (.add (.arg 1729) (.add (.arg 1296) (.add (.arg 1634) (.add (.arg 6625) (.add (.arg 7041) (.add (.arg 7105) (.add (.arg 7137) (.arg 7169)))))))))))))))))))) 124 = Int.bmod ((ρ.2.1 1633).toInt / 1000000) 4294967296 := by
  unfold avo
  dsimp only
  rw [if_neg (by decide), if_neg (by decide), if_neg (by decide), if_neg (by decide), if_pos rfl]
  rfl
theorem av_125 {X : pX} {ρ : sR} : avo (aits X ρ (.add (.elem (.arg 1761) (.int 0)) (.add (.arg 2816) (.add (.arg 2784) (.add (.arg 1665) (.add (.arg 1633) (.add (.arg 7073) (.add (.arg 3008) (.add (.arg 2018) (.add (.arg 1954) (.add (.arg 1986) (.add (.arg 1697) (.add (.arg 1729) (.add (.arg 1296) (.add (.arg 1634) (.add (.arg 6625) (.add (.arg 7041) (.add (.arg 7105) (.add (.arg 7137) (.arg 7169)))))))))))))))))))) 125 = Int.bmod ((ρ.2.1 1697).toInt / 1000000) 4294967296 := by
  unfold avo
  dsimp only
  rw [if_neg (by decide), if_neg (by decide), if_neg (by decide), if_neg (by decide), if_neg (by decide), if_pos rfl]
  rfl
theorem av_130 {X : pX} {ρ : sR} : avo (aits X ρ (.add (.elem (.arg 1761) (.int 0)) (.add (.arg 2816) (.add (.arg 2784) (.add (.arg 1665) (.add (.arg 1633) (.add (.arg 7073) (.add (.arg 3008) (.add (.arg 2018) (.add (.arg 1954) (.add (.arg 1986) (.add (.arg 1697) (.add (.arg 1729) (.add (.arg 1296) (.add (.arg 1634) (.add (.arg 6625) (.add (.arg 7041) (.add (.arg 7105) (.add (.arg 7137) (.arg 7169)))))))))))))))))))) 130 = Int.bmod (Int.tdiv (ρ.2.1 1665).toInt 1000) 4294967296 := by
  unfold avo
  dsimp only
  rw [if_neg (by decide), if_neg (by decide), if_neg (by decide), if_neg (by decide), if_neg (by decide), if_neg (by decide), if_pos rfl]
  rfl
theorem av_131 {X : pX} {ρ : sR} : avo (aits X ρ (.add (.elem (.arg 1761) (.int 0)) (.add (.arg 2816) (.add (.arg 2784) (.add (.arg 1665) (.add (.arg 1633) (.add (.arg 7073) (.add (.arg 3008) (.add (.arg 2018) (.add (.arg 1954) (.add (.arg 1986) (.add (.arg 1697) (.add (.arg 1729) (.add (.arg 1296) (.add (.arg 1634) (.add (.arg 6625) (.add (.arg 7041) (.add (.arg 7105) (.add (.arg 7137) (.arg 7169)))))))))))))))))))) 131 = Int.bmod (Int.tdiv (ρ.2.1 1729).toInt 1000) 4294967296 := by
  unfold avo
  dsimp only
  rw [if_neg (by decide), if_neg (by decide), if_neg (by decide), if_neg (by decide), if_neg (by decide), if_neg (by decide), if_neg (by decide), if_pos rfl]
  rfl
theorem av_148 {X : pX} {ρ : sR} : avo (aits X ρ (.add (.elem (.arg 1761) (.int 0)) (.add (.arg 2816) (.add (.arg 2784) (.add (.arg 1665) (.add (.arg 1633) (.add (.arg 7073) (.add (.arg 3008) (.add (.arg 2018) (.add (.arg 1954) (.add (.arg 1986) (.add (.arg 1697) (.add (.arg 1729) (.add (.arg 1296) (.add (.arg 1634) (.add (.arg 6625) (.add (.arg 7041) (.add (.arg 7105) (.add (.arg 7137) (.arg 7169)))))))))))))))))))) 148 = (ρ.2.1 7105).toInt + (if (ρ.2.1 7105).toInt % 2 = 1 then 0 else (ρ.2.2.2.1 1761 147).toInt % 2) := by
  unfold avo
  dsimp only
  rw [if_neg (by decide), if_neg (by decide), if_neg (by decide), if_neg (by decide), if_neg (by decide), if_neg (by decide), if_neg (by decide), if_neg (by decide), if_pos rfl]
  rfl
theorem av_149 {X : pX} {ρ : sR} : avo (aits X ρ (.add (.elem (.arg 1761) (.int 0)) (.add (.arg 2816) (.add (.arg 2784) (.add (.arg 1665) (.add (.arg 1633) (.add (.arg 7073) (.add (.arg 3008) (.add (.arg 2018) (.add (.arg 1954) (.add (.arg 1986) (.add (.arg 1697) (.add (.arg 1729) (.add (.arg 1296) (.add (.arg 1634) (.add (.arg 6625) (.add (.arg 7041) (.add (.arg 7105) (.add (.arg 7137) (.arg 7169)))))))))))))))))))) 149 = (ρ.2.1 7137).toInt := by
  unfold avo
  dsimp only
  rw [if_neg (by decide), if_neg (by decide), if_neg (by decide), if_neg (by decide), if_neg (by decide), if_neg (by decide), if_neg (by decide), if_neg (by decide), if_neg (by decide), if_pos rfl]
  rfl
theorem av_150 {X : pX} {ρ : sR} : avo (aits X ρ (.add (.elem (.arg 1761) (.int 0)) (.add (.arg 2816) (.add (.arg 2784) (.add (.arg 1665) (.add (.arg 1633) (.add (.arg 7073) (.add (.arg 3008) (.add (.arg 2018) (.add (.arg 1954) (.add (.arg 1986) (.add (.arg 1697) (.add (.arg 1729) (.add (.arg 1296) (.add (.arg 1634) (.add (.arg 6625) (.add (.arg 7041) (.add (.arg 7105) (.add (.arg 7137) (.arg 7169)))))))))))))))))))) 150 = (ρ.2.1 7169).toInt := by
  unfold avo
  dsimp only
  rw [if_neg (by decide), if_neg (by decide), if_neg (by decide), if_neg (by decide), if_neg (by decide), if_neg (by decide), if_neg (by decide), if_neg (by decide), if_neg (by decide), if_neg (by decide), if_pos rfl]
  rfl
theorem av_151 {X : pX} {ρ : sR} : avo (aits X ρ (.add (.elem (.arg 1761) (.int 0)) (.add (.arg 2816) (.add (.arg 2784) (.add (.arg 1665) (.add (.arg 1633) (.add (.arg 7073) (.add (.arg 3008) (.add (.arg 2018) (.add (.arg 1954) (.add (.arg 1986) (.add (.arg 1697) (.add (.arg 1729) (.add (.arg 1296) (.add (.arg 1634) (.add (.arg 6625) (.add (.arg 7041) (.add (.arg 7105) (.add (.arg 7137) (.arg 7169)))))))))))))))))))) 151 = (ρ.1 1296).toInt + 65536 * (ρ.1 1634).toInt := by
  unfold avo
  dsimp only
  rw [if_neg (by decide), if_neg (by decide), if_neg (by decide), if_neg (by decide), if_neg (by decide), if_neg (by decide), if_neg (by decide), if_neg (by decide), if_neg (by decide), if_neg (by decide), if_neg (by decide), if_pos rfl]
  rfl
theorem fd_i {x : Int64} : (fdv x).toInt = x.toInt / 1000000 := by
  have b1 := x.le_toInt
  have b2 := x.toInt_lt
  have z : (1000000 : Int64).toInt = 1000000 := rfl
  have z1 : (1 : Int64).toInt = 1 := rfl
  have td : ∀ y : Int, -9223372036854775808 ≤ y → y < 9223372036854775808 → (0 ≤ y → Int.tdiv y 1000000 = y / 1000000) ∧ (y < 0 → Int.tdiv y 1000000 = -((-y) / 1000000)) := fun y _ _ => ⟨fun h => Int.tdiv_eq_ediv_of_nonneg h, fun h => by
    have e : y = -(-y) := by omega
    rw [e, Int.neg_tdiv, Int.tdiv_eq_ediv_of_nonneg (by omega), Int.neg_neg]⟩
  have t := td x.toInt (by omega) (by omega)
  have hq : (x / 1000000).toInt = Int.tdiv x.toInt 1000000 := by
    rw [Int64.toInt_div, z]
    exact Int.bmod_eq_of_le (by omega) (by omega)
  have hm : (x / 1000000 * 1000000).toInt = Int.tdiv x.toInt 1000000 * 1000000 := by
    rw [Int64.toInt_mul, hq, z]
    exact Int.bmod_eq_of_le (by omega) (by omega)
  by_cases h : x < x / 1000000 * 1000000
  · rw [fdv_gt h, Int64.toInt_sub, hq, z1]
    rw [Int64.lt_iff_toInt_lt, hm] at h
    rw [Int.bmod_eq_of_le (by omega) (by omega)]
    omega
  · rw [fdv_le h, hq]
    rw [Int64.lt_iff_toInt_lt, hm] at h
    omega
theorem fd_s {X : pX} {ρ : sR} {n : Nat} : (sd X ρ (.op1 .i2l (.op1 .l2i (fdT (.arg n))))).2.toInt = Int.bmod ((ρ.2.1 n).toInt / 1000000) 4294967296 := by
  show ((fdv (ρ.2.1 n)).toInt32.toInt64).toInt = _
  rw [Int32.toInt_toInt64, Int64.toInt_toInt32, fd_i]
theorem dv_s {X : pX} {ρ : sR} {n : Nat} : (sd X ρ (.op1 .i2l (.op1 .l2i (.op2 .ldiv (.arg n) (.long 1000))))).2.toInt = Int.bmod (Int.tdiv (ρ.2.1 n).toInt 1000) 4294967296 := by
  show ((ρ.2.1 n / 1000).toInt32.toInt64).toInt = _
  rw [Int32.toInt_toInt64, Int64.toInt_toInt32, Int64.toInt_div]
  exact Int.bmod_bmod_of_dvd (by decide)
theorem or_1 {x y : Int64} : (x ||| (y &&& 1)).toInt = x.toInt + (if x.toInt % 2 = 1 then 0 else y.toInt % 2) := by
  have b := x.toBitVec.isLt
  have c := y.toBitVec.isLt
  have e1 : (x ||| (y &&& 1)).toBitVec.toNat = x.toBitVec.toNat ||| (y.toBitVec.toNat % 2) := by
    rw [Int64.toBitVec_or, Int64.toBitVec_and, BitVec.toNat_or, BitVec.toNat_and]
    congr 1
    exact Nat.and_one_is_mod _
  have e2 : x.toBitVec.toNat ||| (y.toBitVec.toNat % 2) = x.toBitVec.toNat + (if x.toBitVec.toNat % 2 = 1 then 0 else y.toBitVec.toNat % 2) := by
    have d := Nat.two_pow_add_eq_or_of_lt (i := 1) (b := x.toBitVec.toNat % 2) (by omega) (x.toBitVec.toNat / 2)
    have r : x.toBitVec.toNat = 2 ^ 1 * (x.toBitVec.toNat / 2) ||| x.toBitVec.toNat % 2 := by rw [← d]; omega
    rcases (show y.toBitVec.toNat % 2 = 0 ∨ y.toBitVec.toNat % 2 = 1 by omega) with h | h
    · rw [h, Nat.or_zero]
      split <;> omega
    · rw [h]
      rcases (show x.toBitVec.toNat % 2 = 0 ∨ x.toBitVec.toNat % 2 = 1 by omega) with g | g
      · rw [if_neg (by omega)]
        have d := Nat.two_pow_add_eq_or_of_lt (i := 1) (b := 1) (by omega) (x.toBitVec.toNat / 2)
        have r2 : x.toBitVec.toNat = 2 ^ 1 * (x.toBitVec.toNat / 2) := by omega
        rw [← r2] at d
        exact d.symm
      · rw [if_pos g, Nat.add_zero]
        rw [g] at r
        have r3 : x.toBitVec.toNat ||| 1 = (2 ^ 1 * (x.toBitVec.toNat / 2) ||| 1) ||| 1 := by rw [← r]
        rw [r3, Nat.or_assoc, Nat.or_self, ← r]
  have hx : x.toInt = x.toBitVec.toInt := rfl
  have hy : y.toInt = y.toBitVec.toInt := rfl
  have hz : (x ||| (y &&& 1)).toInt = (x ||| (y &&& 1)).toBitVec.toInt := rfl
  rw [hx, hy, hz, BitVec.toInt_eq_toNat_cond, BitVec.toInt_eq_toNat_cond, BitVec.toInt_eq_toNat_cond, e1, e2]
  have f : (if x.toBitVec.toNat % 2 = 1 then 0 else y.toBitVec.toNat % 2) ≤ 1 := by split <;> omega
  split <;> split <;> split <;> (try split) <;> (try split) <;> omega
