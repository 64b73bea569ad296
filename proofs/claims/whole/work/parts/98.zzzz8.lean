set_option maxRecDepth 20000
/-! ===== the law's loop: from its head to the cases, and out ===== -/
noncomputable def zJp : List (Nat × Nat) := [(0, 31), (1, 66), (2, 122), (3, 219), (4, 264), (5, 327), (6, 372), (7, 426), (8, 491), (9, 536), (10, 581), (11, 625), (12, 680), (13, 745), (14, 780), (15, 805), (16, 883), (17, 918), (18, 935), (19, 977), (20, 1052), (21, 1097), (22, 1142), (23, 1186)]
noncomputable def atZp (F : sFs) (s : sS) : Bool := zJp.any (fun q => Nat.beq (spc (zLn q.2)) (spc s) && sinstX kR F ([], []) (Fk q.1) (zLn q.2) s)
/-- the law's end, with room for what came in the loop -/
noncomputable def sEndP (s : sS) : Bool := match s with
  | ((k, _, _, _, _, cur, _, st), fs, _, G, sl) => decide (k = 2) && (fs.isEmpty && ((match cur with
    | o :: _ => opeq o (1952, .ireturn, 1, 0, 0, 0)
    | [] => false) && (decide (st = [.int 1]) && (Nat.ble G.2 1000 && Nat.ble sl 200000))))
theorem ze_disp : srun ysN pF pdfl mt_all hlp kR (fun F s => atZp F s || sBkP F s) 400 (((2, .sub lnW (.int 6), kvT), false) :: Fi6) (zLn 19) = true := by decide +kernel
theorem ze_exit : srun ysN pF pdfl mt_all hlp kR (fun _ s => sEndP s) 400 [((2, .sub lnW (.int 6), kvT), true)] (zLn 19) = true := by decide +kernel
section LOOPE
variable {L : Nat} {xs : Nat → Int32}
theorem sEndP_ok {ρ : sR} (hL : L ≤ 3073) (hB : LBP L ρ) {s : sS} (h : sEndP s = true) : GPL L xs ρ s := by
  obtain ⟨⟨k, nL, ret, hs, full, cur, lv, st⟩, fs, d, G, sl⟩ := s
  simp only [sEndP, Bool.and_eq_true, decide_eq_true_eq, Nat.ble_eq] at h
  obtain ⟨h1, h2, h3, h4, h5, h6⟩ := h
  obtain ⟨b1, b2, b3, b4⟩ := hB
  intro H hR
  unfold GG
  dsimp only
  rw [if_pos h1]
  intro _
  cases cur with
  | nil => cases h3
  | cons o t =>
    have ho := opeq_ok h3
    refine ⟨0, fun fuel _ => ⟨0, _, o, t, rfl, rfl, ?_, ?_, ?_, ?_, ?_⟩⟩
    · rw [ho]; exact mem_end
    · rw [ho]
    · show dS (pXs L xs) ρ st = _
      rw [h4]; rfl
    · have := hR.1
      dsimp only at this ⊢
      omega
    · dsimp only
      omega
theorem zinP (hL : L ≤ 3073) (hc : ∀ q ∈ zJp, ZCP L xs q.1 q.2) : ∀ ρ : sR, LBP L ρ → kok (pXs L xs) ρ kR → vok (pXs L xs) ρ → PT (pXs L xs) (40 * (ρ.1 59744).toInt) ρ → (ρ.1 59744).toInt + 6 ≤ L → LHP L xs ((ρ.1 59744).toInt + 6) → GPL L xs ρ (zLn 19) := by
  intro ρ hB hK hv hp hi IH
  have hFi := f6_of (xs := xs) hL hv hB.1 hi
  have hn : (Int32.ofNat L).toInt = L := Int32.toInt_ofNat_of_lt (by omega)
  refine srunI_ok (C := mo_455) flN (PE_back L xs) hK (leaf := fun F s => atZp F s || sBkP F s) (fun F s hF hcI h => ?_) 400 _ _ ze_disp ⟨hFi.1, fcn (decide_eq_false ?_) hFi.2⟩ (zLcI 19)
  · simp only [Bool.or_eq_true] at h
    rcases h with h | h
    · unfold atZp at h
      obtain ⟨q, hq, h1⟩ := List.any_eq_true.mp h
      simp only [Bool.and_eq_true] at h1
      exact fun G hR => sinstX_ok (PE_mono L xs) h1.2 hK hF hR (fun k1 k2 k3 => hc q hq ρ hB hi IH hK k2 hp G k3)
    · exact sBkP_ok hcI hL hB hi IH hK hF (by omega) hp h
  · show ¬ (Int32.ofNat L) - 6 < ρ.1 59744
    intro h
    have := Int32.lt_iff_toInt_lt.mp h
    rw [s_sub (y := 6) (by rw [hn]; show _ ≤ (L : Int) - 6; have := hB.1; omega) (by rw [hn]; show (L : Int) - 6 ≤ _; omega), hn] at this
    rw [show (6 : Int32).toInt = 6 from rfl] at this
    omega
theorem zoutP (hL : L ≤ 3073) : ∀ ρ : sR, LBP L ρ → kok (pXs L xs) ρ kR → vok (pXs L xs) ρ → ¬ (ρ.1 59744).toInt + 6 ≤ L → GPL L xs ρ (zLn 19) := by
  intro ρ hB hK hv hi
  have hn : (Int32.ofNat L).toInt = L := Int32.toInt_ofNat_of_lt (by omega)
  refine srun_ok flN (PE_back L xs) hK (leaf := fun _ s => sEndP s) (fun F s hF h => sEndP_ok hL hB h) 400 _ _ ze_exit ⟨hv, fcn (decide_eq_true ?_) (fun f hf => by cases hf)⟩
  show (Int32.ofNat L) - 6 < ρ.1 59744
  rw [Int32.lt_iff_toInt_lt, s_sub (y := 6) (by rw [hn]; show _ ≤ (L : Int) - 6; omega) (by rw [hn]; show (L : Int) - 6 ≤ _; omega), hn, show (6 : Int32).toInt = 6 from rfl]
  omega
/-- the loop: what it does where there are six ints more, and where not -/
theorem L_loopP (hL : L ≤ 3073) (hc : ∀ q ∈ zJp, ZCP L xs q.1 q.2) : ∀ (m : Nat) (N : Int), L < N + m → LHP L xs N
  | 0, N, hm, ρ, hN, hB, hK, hv, hp => zoutP hL ρ hB hK hv (by omega)
  | m + 1, N, hm, ρ, hN, hB, hK, hv, hp => by
    by_cases h : (ρ.1 59744).toInt + 6 ≤ L
    · exact zinP hL hc ρ hB hK hv hp h (L_loopP hL hc m _ (by omega))
    · exact zoutP hL ρ hB hK hv h
end LOOPE
