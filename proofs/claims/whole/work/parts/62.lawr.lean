/-! ===== the law's own run ===== -/
noncomputable def ysN : Nat × Nat × Nat := (430, 227, 424)
theorem flN : flok mt_all ysN := ⟨⟨_, rfl, rfl, rfl, rfl⟩, ⟨_, 410, rfl, rfl, rfl, rfl⟩, _, rfl, rfl, rfl, rfl⟩
/-- the static tables are known, the script's length is not -/
noncomputable def kN : sK := (fun k => match k with
    | 1 => some 780
    | 2 => some 10
    | 3 => some 6
    | 4 => some 48
    | 5 => some 8
    | _ => none, fun k => match k with
    | 1 => some pt_BOOK
    | 2 => some pt_NAME
    | 3 => some pt_WIDTHS
    | 4 => some pt_CHOICES
    | 5 => some pt_STATUS_BASES
    | _ => none, fun _ => none, true)
/-- the same, where no cell is made but such as nobody looks at -/
noncomputable def kE : sK := (kN.1, kN.2.1, kN.2.2.1, false)
theorem kokE {L : Nat} {xs : Nat → Int32} (hL : L < 2147483648) (ρ : sR) : kok (pXs L xs) ρ kE := by
  refine ⟨fun k n h => ?_, ⟨fun k l h => ?_, L, xs, rfl, hL⟩, fun a l h => (by cases h), fun h => (by cases h)⟩
  · simp only [kE, kN] at h
    split at h <;> first | (cases h; exact ⟨_, rfl⟩) | (cases h; done)
  · simp only [kE, kN] at h
    split at h <;> first | (cases h; exact ⟨_, _, rfl, fun j => rfl⟩) | (cases h; done)
theorem kokN {L : Nat} {xs : Nat → Int32} (hL : L < 2147483648) (ρ : sR) (h0 : rC ρ = 0) (h1 : rS ρ = 0) : kok (pXs L xs) ρ kN := ⟨(kokE hL ρ).1, (kokE hL ρ).2.1, fun a l h => (by cases h), fun _ => ⟨h0, h1⟩⟩
noncomputable def lwN : Nat × List pOp × Nat := (8, mo_455, 20)
/-- the law comes to its end, answers 1, within its room -/
noncomputable def PE (L : Nat) (xs : Nat → Int32) (x : pC) : Prop := ∃ N : Nat, ∀ fuel : Nat, N ≤ fuel → ∃ (n : Nat) (y : pC) (o : pOp) (t : List pOp), pm_iterL (pXs L xs) pF pdfl (pm_callD (pXs L xs) pF pdfl mt_all fuel 20) (hcs (pXs L xs) pF pdfl mt_all hlp fuel 19) 8 mo_455 n x = some y ∧ y.1 = o :: t ∧ o ∈ mo_455 ∧ o.2.1 = .ireturn ∧ y.2.2.1 = [.int 1] ∧ y.2.2.2.1.length ≤ 601024 ∧ y.2.2.2.2 ≤ 7293000
theorem PE_back (L : Nat) (xs : Nat → Int32) : Pback (pXs L xs) pF pdfl mt_all hlp lwN (PE L xs) := by
  intro x x' ⟨N1, h1⟩ ⟨N2, h2⟩
  refine ⟨N1 + N2, fun fuel hf => ?_⟩
  obtain ⟨n, y, o, t, h3, h4⟩ := h2 fuel (by omega)
  refine ⟨n + 1, y, o, t, ?_, h4⟩
  have h5 := h1 fuel (by omega)
  simp only [pm_iterL]
  rw [show pm_stepL (pXs L xs) pF pdfl (pm_callD (pXs L xs) pF pdfl mt_all fuel 20) (hcs (pXs L xs) pF pdfl mt_all hlp fuel 19) 8 mo_455 x = some x' from h5]
  exact h3
theorem PE_mono (L : Nat) (xs : Nat → Int32) : Pmono (PE L xs) := by
  intro cur a b st G sl hl hn ⟨N, h⟩
  refine ⟨N, fun fuel hf => ?_⟩
  obtain ⟨n, y, o, t, h1, h2, h3, h4, h5, h6, h7⟩ := h fuel hf
  obtain ⟨b', h8⟩ := lvm_iterL n _ _ _ _ _ _ _ hl hn h1
  exact ⟨n, _, o, t, h8, h2, h3, h4, h5, h6, h7⟩
/-- the law's end -/
noncomputable def sEnd (s : sS) : Bool := match s with
  | ((k, _, _, _, _, cur, _, st), fs, _, G, sl) => decide (k = 2) && (fs.isEmpty && ((match cur with
    | o :: _ => opeq o (1952, .ireturn, 1, 0, 0, 0)
    | [] => false) && (decide (st = [.int 1]) && (decide (G.2 ≤ 601024) && decide (sl ≤ 7293000)))))
theorem mem_end : (1952, .ireturn, 1, 0, 0, 0) ∈ mo_455 := by
  have h : (mo_455.any (fun o => opeq o (1952, .ireturn, 1, 0, 0, 0))) = true := by decide +kernel
  obtain ⟨o, ho, h1⟩ := List.any_eq_true.mp h
  rw [← opeq_ok h1]
  exact ho
section LAWR
variable {L : Nat} {xs : Nat → Int32}
theorem sEnd_ok {ρ : sR} (hK : kok (pXs L xs) ρ kN) {s : sS} (h : sEnd s = true) : GP (pXs L xs) pF pdfl mt_all lwN (PE L xs) ρ s := by
  obtain ⟨⟨k, nL, ret, hs, full, cur, lv, st⟩, fs, d, G, sl⟩ := s
  simp only [sEnd, Bool.and_eq_true, decide_eq_true_eq] at h
  obtain ⟨h1, h2, h3, h4, h5, h6⟩ := h
  intro H hR
  unfold GG
  dsimp only
  rw [if_pos h1]
  intro _
  cases cur with
  | nil => cases h3
  | cons o t =>
    have ho := opeq_ok h3
    obtain ⟨k0, k1⟩ := hK.2.2.2 rfl
    refine ⟨0, fun fuel _ => ⟨0, _, o, t, rfl, rfl, ?_, ?_, ?_, ?_, by rw [k1]; exact h6⟩⟩
    · rw [ho]; exact mem_end
    · rw [ho]
    · show dS (pXs L xs) ρ st = _
      rw [h4]; rfl
    · have := hR.1
      dsimp only at this ⊢
      omega
abbrev GL (L : Nat) (xs : Nat → Int32) (F : sFs) (s : sS) : Prop := GS (pXs L xs) pF pdfl mt_all lwN (PE L xs) kN F s
noncomputable def lfN (C : List (sFs × sS)) (F : sFs) (s : sS) : Bool := sEnd s || scut kN C F s
noncomputable def runN (C : List (sFs × sS)) (n : Nat) (F : sFs) (s : sS) : Bool := srun ysN pF pdfl mt_all hlp kN (lfN C) n F s
theorem GL_run {C : List (sFs × sS)} (hC : ∀ c ∈ C, GL L xs c.1 c.2) (n : Nat) {F : sFs} {s : sS} (h : runN C n F s = true) : GL L xs F s := fun _ G hK hF hR => srun_ok flN (PE_back L xs) hK (fun F s hF h => by
  simp only [lfN, Bool.or_eq_true] at h
  rcases h with h | h
  · exact sEnd_ok hK h
  · exact scut_ok (PE_mono L xs) hK hC hF h) n F s h hF G hR
end LAWR
/-- frames by their method's number and place; the law's -/
noncomputable def fr (k y j : Nat) (lv : sL) (st : List sT) : sF := match mt_all[y]? with
  | some M => (k, M.2.2.1, M.2.2.2.1, [], M.2.2.2.2, M.2.2.2.2.drop j, lv, st)
  | none => (k, 0, none, [], [], [], lv, st)
noncomputable def frL (j : Nat) (lv : sL) (st : List sT) : sF := (2, 8, some .boolean, [], mo_455, mo_455.drop j, lv, st)
noncomputable def frH (y j : Nat) (lv : sL) (st : List sT) : sF := match mt_all[y]?, hlp y with
  | some M, some h => (1, M.2.2.1, M.2.2.2.1, h.1, M.2.2.2.2, M.2.2.2.2.drop j, lv, st)
  | _, _ => (1, 0, none, [], [], [], lv, st)
