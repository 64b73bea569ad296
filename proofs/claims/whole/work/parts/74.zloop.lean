/-! ===== the loop over the states at its head ===== -/
/-- the cases that are done by roads, and where they begin -/
def zJ : List (Nat × Nat) := [(0, 31), (1, 66), (2, 122), (3, 219), (4, 264), (5, 327), (6, 372), (7, 426), (8, 491), (9, 536), (10, 581), (11, 625), (12, 680), (13, 745), (14, 780), (15, 805), (16, 883), (17, 918), (18, 935), (19, 977), (20, 1052), (21, 1097), (22, 1142), (23, 1186)]
/-- at the beginning of a case -/
noncomputable def atZ (F : sFs) (s : sS) : Bool := zJ.any (fun q => Nat.beq (spc (zL q.2)) (spc s) && sinst kE F ([], []) (Fz q.1) (zL q.2) s)
theorem zhead : atHead (zL 19) := ⟨rfl, rfl, rfl⟩
theorem zcI (j : Nat) : cI mo_455 (zL j) := ⟨_, rfl, rfl, j, rfl⟩
section ZLOOP
variable {L : Nat} {xs : Nat → Int32}
theorem rsub_nil (X : pX) (ρ : sR) : rsub X ρ ([], []) = ρ := rfl
/-- what is owed of a case -/
def ZCase (L : Nat) (xs : Nat → Int32) (c j : Nat) : Prop := ∀ ρ : sR, LB L zvI ρ → (ρ.1 zvI).toInt + 6 ≤ L → LHead L xs [] (zL 19) zvI ((ρ.1 zvI).toInt + 6) → kok (pXs L xs) ρ kE → fok (pXs L xs) ρ (Fz c) → GPL L xs ρ (zL j)
theorem zcase_of (hL : L ≤ 3073) {c j : Nat} {qs : List sQ} (h : psp (zrun j) qs (Fz c) = true) : ZCase L xs c j := fun _ hB hi IH hK hF => psp_ok (fun F hF h => runL_ok zhead (zcI j) hL hB hi IH hK hF h) qs (Fz c) hF h
theorem ln_d (ρ : sR) : (sd (pXs L xs) ρ lnN).1 = Int32.ofNat L := rfl
theorem fi_of (hL : L ≤ 3073) {ρ : sR} (hv : vok (pXs L xs) ρ) (hB : LB L zvI ρ) (hi : (ρ.1 zvI).toInt + 6 ≤ L) : fok (pXs L xs) ρ Fi := by
  obtain ⟨b1, b2, -, -⟩ := hB
  have hn : (Int32.ofNat L).toInt = L := Int32.toInt_ofNat_of_lt (by omega)
  have add : ∀ k : Int32, 0 ≤ k.toInt → k.toInt ≤ 5 → decide ((ρ.1 zvI) + k < Int32.ofNat L) = true := fun k h1 h2 => decide_eq_true (Int32.lt_iff_toInt_lt.mpr (by
    rw [s_add (by omega) (by omega), hn]
    omega))
  refine ⟨hv, fun f hf => ?_⟩
  simp only [Fi, List.mem_cons, List.not_mem_nil, or_false] at hf
  rcases hf with rfl | rfl | rfl | rfl | rfl | rfl | rfl | rfl
  · show decide ((ρ.1 zvI) < 1) = false
    exact decide_eq_false (fun h => by have := Int32.lt_iff_toInt_lt.mp h; rw [show (1 : Int32).toInt = 1 from rfl] at this; omega)
  · show decide ((3067 : Int32) < ρ.1 zvI) = false
    exact decide_eq_false (fun h => by have := Int32.lt_iff_toInt_lt.mp h; rw [show (3067 : Int32).toInt = 3067 from rfl] at this; omega)
  · show decide ((ρ.1 zvI) < Int32.ofNat L) = true
    exact decide_eq_true (Int32.lt_iff_toInt_lt.mpr (by rw [hn]; omega))
  · exact add 1 (by decide) (by decide)
  · exact add 2 (by decide) (by decide)
  · exact add 3 (by decide) (by decide)
  · exact add 4 (by decide) (by decide)
  · exact add 5 (by decide) (by decide)
theorem zin (hL : L ≤ 3073) (hd : srun ysN pF pdfl mt_all hlp kE (fun F s => atZ F s || sBack [] (zL 19) zvI F s) 400 (((2, .sub lnN (.int 6), ziT), false) :: Fi) (zL 19) = true) (hc : ∀ q ∈ zJ, ZCase L xs q.1 q.2) : ∀ ρ : sR, LB L zvI ρ → kok (pXs L xs) ρ kE → fok (pXs L xs) ρ [] → (ρ.1 zvI).toInt + 6 ≤ L → LHead L xs [] (zL 19) zvI ((ρ.1 zvI).toInt + 6) → GPL L xs ρ (zL 19) := by
  intro ρ hB hK hF hi IH
  have hFi := fi_of (xs := xs) hL hF.1 hB hi
  have hn : (Int32.ofNat L).toInt = L := Int32.toInt_ofNat_of_lt (by omega)
  refine srunI_ok (C := mo_455) flN (PE_back L xs) hK (leaf := fun F s => atZ F s || sBack [] (zL 19) zvI F s) (fun F s hF hcI h => ?_) 400 _ _ hd ⟨hFi.1, fun f hf => ?_⟩ (zcI 19)
  · simp only [Bool.or_eq_true] at h
    rcases h with h | h
    · unfold atZ at h
      obtain ⟨q, hq, h1⟩ := List.any_eq_true.mp h
      simp only [Bool.and_eq_true] at h1
      exact fun G hR => sinst_ok (PE_mono L xs) h1.2 hK hF hR (fun k1 k2 k3 => hc q hq ρ hB hi IH k1 k2 G k3)
    · exact sBack_ok zhead hcI hL hB hi IH hK hF h
  · rcases List.mem_cons.mp hf with rfl | hf
    · show decide ((Int32.ofNat L) - 6 < ρ.1 zvI) = false
      obtain ⟨b1, b2, -, -⟩ := hB
      exact decide_eq_false (fun h => by
        have := Int32.lt_iff_toInt_lt.mp h
        rw [s_sub (y := 6) (by rw [hn]; show _ ≤ (L : Int) - 6; omega) (by rw [hn]; show (L : Int) - 6 ≤ _; omega), hn] at this
        rw [show (6 : Int32).toInt = 6 from rfl] at this
        omega)
    · exact hFi.2 f hf
theorem zout (hL : L ≤ 3073) (he : srun ysN pF pdfl mt_all hlp kE (fun _ s => sEndL s) 400 [((2, .sub lnN (.int 6), ziT), true)] (zL 19) = true) : ∀ ρ : sR, LB L zvI ρ → kok (pXs L xs) ρ kE → fok (pXs L xs) ρ [] → ¬ (ρ.1 zvI).toInt + 6 ≤ L → GPL L xs ρ (zL 19) := by
  intro ρ hB hK hF hi
  have hn : (Int32.ofNat L).toInt = L := Int32.toInt_ofNat_of_lt (by omega)
  refine srun_ok flN (PE_back L xs) hK (leaf := fun _ s => sEndL s) (fun F s hF h => sEndL_ok hL hB h) 400 _ _ he ⟨hF.1, fun f hf => ?_⟩
  simp only [List.mem_cons, List.not_mem_nil, or_false] at hf
  subst hf
  show decide ((Int32.ofNat L) - 6 < ρ.1 zvI) = true
  exact decide_eq_true (Int32.lt_iff_toInt_lt.mpr (by
    rw [s_sub (y := 6) (by rw [hn]; show _ ≤ (L : Int) - 6; omega) (by rw [hn]; show (L : Int) - 6 ≤ _; omega), hn]
    rw [show (6 : Int32).toInt = 6 from rfl]
    omega))
end ZLOOP
