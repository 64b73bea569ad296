set_option maxRecDepth 20000
noncomputable def sinstX (K : sK) (F : sFs) (σ : sM) (F0 : sFs) (s0 s : sS) : Bool := decide (s0.2.2.1 = s.2.2.1) && (decide (s0.2.2.2.2 = s.2.2.2.2) && (sMok K σ && (fhold F σ F0 && (hinstX K F σ s0.2.2.2.1 s.2.2.2.1 && (finstX F σ s0.1 s.1 && finstsX F σ s0.2.1 s.2.1)))))
theorem sinstX_ok {X : pX} {K : sK} {Ft : Nat → Nat → FieldType} {dfl : Nat → Nat × List Value} {Mt : List pM} {lw : Nat × List pOp × Nat} {P : pC → Prop} (hPm : Pmono P) {F F0 : sFs} {σ : sM} {s0 s : sS} (hi : sinstX K F σ F0 s0 s = true) {ρ : sR} {G : pH} (hK : kok X ρ K) (hF : fok X ρ F) (hR : HR X ρ s.2.2.2.1 G) (hg : kok X (rsub X ρ σ) K → fok X (rsub X ρ σ) F0 → HR X (rsub X ρ σ) s0.2.2.2.1 G → GG X Ft dfl Mt lw P (rsub X ρ σ) s0.1 s0.2.1 s0.2.2.1 (s0.2.2.2.2 + rS ρ) G) : GG X Ft dfl Mt lw P ρ s.1 s.2.1 s.2.2.1 (s.2.2.2.2 + rS ρ) G := by
  simp only [sinstX, Bool.and_eq_true, decide_eq_true_eq] at hi
  obtain ⟨e1, e2, e3, e4, e5, e6, e7⟩ := hi
  rw [← e1, ← e2]
  exact GG_le hPm (finstX_ok (K := K) hF e3 e6) (finstsX_ok (K := K) hF e3 e7) (hg (kok_sub hK e3) (fhold_ok hF e3 e4) (HR_subX hF hK e3 e5 hR))
noncomputable def sinstLX (K : sK) (F : sFs) (σ : sM) (F0 : sFs) (s0 s : sS) : Bool := decide (s0.2.2.1 = s.2.2.1) && (decide (s0.2.2.2.2 = s.2.2.2.2) && (sMok K σ && (fhold F σ F0 && (hinstX K F σ s0.2.2.2.1 s.2.2.2.1 && (finstL F σ s0.1 s.1 && (s0.2.1.isEmpty && s.2.1.isEmpty))))))
theorem sinstLX_ok {X : pX} {K : sK} {Ft : Nat → Nat → FieldType} {dfl : Nat → Nat × List Value} {Mt : List pM} {lw : Nat × List pOp × Nat} {P : pC → Prop} {ρ : sR} (hPm : Pmono P) {F F0 : sFs} {σ : sM} {s0 s : sS} (hi : sinstLX K F σ F0 s0 s = true) (h1 : s0.1.2.2.2.2.1 = s.1.2.2.2.2.1) (h2 : s0.1.2.2.2.2.2.1 = s.1.2.2.2.2.2.1) {G : pH} (hK : kok X ρ K) (hF : fok X ρ F) (hR : HR X ρ s.2.2.2.1 G) (hg : kok X (rsub X ρ σ) K → fok X (rsub X ρ σ) F0 → HR X (rsub X ρ σ) s0.2.2.2.1 G → GG X Ft dfl Mt lw P (rsub X ρ σ) s0.1 s0.2.1 s0.2.2.1 (s0.2.2.2.2 + rS ρ) G) : GG X Ft dfl Mt lw P ρ s.1 s.2.1 s.2.2.1 (s.2.2.2.2 + rS ρ) G := by
  simp only [sinstLX, Bool.and_eq_true, decide_eq_true_eq, List.isEmpty_iff] at hi
  obtain ⟨e1, e2, e3, e4, e5, e6, e7, e8⟩ := hi
  rw [← e1, ← e2]
  exact GG_le hPm (finstL_ok hF e3 e6 h1 h2) (by rw [e7, e8]; trivial) (hg (kok_sub hK e3) (fhold_ok hF e3 e4) (HR_subX hF hK e3 e5 hR))
/-! ===== the law's loop: its head, what is kept there, a call by contract ===== -/
noncomputable def kvT : sT := .arg 59744
noncomputable def lnW : sT := .length (.string "" 0)
noncomputable def scT (k : Nat) : sT := .elem (.string "" 0) (.add kvT (.int (Int32.ofNat k)))
noncomputable def cdT : sT := .op2 .iand (.elem (.string "" 0) kvT) (.int 31)
noncomputable def Fi6 : sFs := [((2, kvT, .int 1), false), ((2, .int 3067, kvT), false), ((2, kvT, lnW), true), ((2, .add kvT (.int 1), lnW), true), ((2, .add kvT (.int 2), lnW), true), ((2, .add kvT (.int 3), lnW), true), ((2, .add kvT (.int 4), lnW), true), ((2, .add kvT (.int 5), lnW), true)]
noncomputable def Fk (c : Nat) : sFs := ((0, cdT, .int (Int32.ofNat c)), true) :: Fi6
noncomputable def zLv : sL := [(4, kvT), (3, tr 348), (2, tr 219), (1, tr 0), (0, .string "" 0)]
noncomputable def zLn (j : Nat) : sS := (frL j zLv [], [], 20, zLw, 103275)
theorem zLhead : (zLn 19).1.2.2.2.2.1 = mo_455 ∧ (zLn 19).1.2.2.2.2.2.1 = pm_seek mo_455 33 ∧ spc (zLn 19) = 33 := ⟨rfl, rfl, rfl⟩
theorem zLcI (j : Nat) : cI mo_455 (zLn j) := ⟨_, rfl, rfl, j, rfl⟩
/-- what the law's cell holds -/
noncomputable def sgO (s : sS) : List (Nat × sT) := match hget s.2.2.2.1 348 with
  | some (.inl (_, _, b, u)) => (match selc b 0 u with
    | some t => [(59841, t)]
    | none => [])
  | _ => []
theorem sgO_n {s : sS} : ∀ q ∈ sgO s, q.1 = 59841 := by
  intro q hq
  unfold sgO at hq
  split at hq
  · split at hq
    · rw [List.mem_singleton.mp hq]
    · cases hq
  · cases hq
/-- only the loop's place, what the model has thrown and the law's cell are set -/
noncomputable def sgC (s : sS) : sM := ((smat (zLn 19) s).1.filter (fun q => Nat.beq q.1 59744 || Nat.beq q.1 19232) ++ sgO s, [])
noncomputable def sgM (s : sS) : sM := (sgO s, [])
section SGC
variable {X : pX} {ρ : sR} {s : sS}
theorem sfnd_no {σ : sM} {i : Nat} (h : ∀ q ∈ σ.1, q.1 ≠ i) : (rsub X ρ σ).1 i = ρ.1 i ∧ (rsub X ρ σ).2.1 i = ρ.2.1 i := by
  have e : sfnd σ i = none := by
    rw [sfnd_def]
    have : σ.1.find? (fun q => q.1 == i) = none := List.find?_eq_none.mpr (fun q hq => by have := h q hq; simpa using this)
    rw [this]
  unfold rsub
  dsimp only
  rw [e]
  exact ⟨rfl, rfl⟩
theorem sgC_n {i : Nat} (h1 : i ≠ 59744) (h2 : i ≠ 19232) (h3 : i ≠ 59841) : (rsub X ρ (sgC s)).1 i = ρ.1 i ∧ (rsub X ρ (sgC s)).2.1 i = ρ.2.1 i := sfnd_no (fun q hq => by
  rcases List.mem_append.mp hq with hq | hq
  · have := (List.mem_filter.mp hq).2
    rw [Bool.or_eq_true] at this
    rcases this with t | t
    · have t := Nat.eq_of_beq_eq_true t
      omega
    · have t := Nat.eq_of_beq_eq_true t
      omega
  · have := sgO_n q hq
    omega)
theorem sgC_a {a : Nat} : (rsub X ρ (sgC s)).2.2.1 a = ρ.2.2.1 a ∧ (rsub X ρ (sgC s)).2.2.2.1 a = ρ.2.2.2.1 a := ⟨rfl, rfl⟩
theorem sgM_n {i : Nat} (h3 : i ≠ 59841) : (rsub X ρ (sgM s)).1 i = ρ.1 i ∧ (rsub X ρ (sgM s)).2.1 i = ρ.2.1 i := sfnd_no (fun q hq => by
  have := sgO_n q hq
  omega)
theorem sgM_a {a : Nat} : (rsub X ρ (sgM s)).2.2.1 a = ρ.2.2.1 a ∧ (rsub X ρ (sgM s)).2.2.2.1 a = ρ.2.2.2.1 a := ⟨rfl, rfl⟩
noncomputable def rTH (ρ ρ' : sR) : sR := (fun i => if i = 19232 then ρ.1 i else ρ'.1 i, fun i => if i = 19232 then ρ.2.1 i else ρ'.2.1 i, ρ'.2.2)
theorem PT_sg {t : Int} (p : PT X t ρ) : PT X t (rsub X ρ (sgC s)) := by
  have q : PT X t (rTH ρ (rsub X ρ (sgC s))) := PT_ag (ρ := ρ) ⟨fun i hi => by
    unfold rTH
    dsimp only
    by_cases h : i = 19232
    · rw [if_pos h, if_pos h]; exact ⟨rfl, rfl⟩
    · rw [if_neg h, if_neg h]; exact sgC_n (by omega) h (by omega), fun a ha => (sgC_a (X := X) (ρ := ρ) (s := s) (a := a))⟩ p
  have am : agrM 65536 [19232] [] (rsub X ρ (sgC s)) (rTH ρ (rsub X ρ (sgC s))) := ⟨fun i hi hn => by
    have h : i ≠ 19232 := fun e => hn (List.mem_singleton.mpr e)
    unfold rTH
    dsimp only
    rw [if_neg h, if_neg h]
    exact ⟨rfl, rfl⟩, fun a ha hn => ⟨rfl, rfl⟩⟩
  exact PT_th am q
end SGC
section LOOPP
variable {L : Nat} {xs : Nat → Int32}
abbrev GPL (L : Nat) (xs : Nat → Int32) (ρ : sR) (s : sS) : Prop := GP (pXs L xs) pF pdfl mt_all lwN (PE L xs) ρ s
/-- where the loop stands, and what has come so far -/
noncomputable def LBP (L : Nat) (ρ : sR) : Prop := 1 ≤ (ρ.1 59744).toInt ∧ (ρ.1 59744).toInt ≤ L + 1 ∧ 6 * (rC ρ : Int) + 1 ≤ (ρ.1 59744).toInt ∧ (rS ρ : Int) + 1 ≤ (ρ.1 59744).toInt
noncomputable def LHP (L : Nat) (xs : Nat → Int32) (N : Int) : Prop := ∀ ρ : sR, N ≤ (ρ.1 59744).toInt → LBP L ρ → kok (pXs L xs) ρ kR → vok (pXs L xs) ρ → PT (pXs L xs) (40 * (ρ.1 59744).toInt) ρ → GPL L xs ρ (zLn 19)
theorem f6_of (hL : L ≤ 3073) {ρ : sR} (hv : vok (pXs L xs) ρ) (b1 : 1 ≤ (ρ.1 59744).toInt) (hi : (ρ.1 59744).toInt + 6 ≤ L) : fok (pXs L xs) ρ Fi6 := by
  have hn : (Int32.ofNat L).toInt = L := Int32.toInt_ofNat_of_lt (by omega)
  have add : ∀ k : Int32, 0 ≤ k.toInt → k.toInt ≤ 5 → decide ((ρ.1 59744) + k < Int32.ofNat L) = true := fun k h1 h2 => decide_eq_true (Int32.lt_iff_toInt_lt.mpr (by
    rw [s_add (by omega) (by omega), hn]
    omega))
  refine ⟨hv, fun f hf => ?_⟩
  simp only [Fi6, List.mem_cons, List.not_mem_nil, or_false] at hf
  rcases hf with rfl | rfl | rfl | rfl | rfl | rfl | rfl | rfl
  · show decide ((ρ.1 59744) < 1) = false
    exact decide_eq_false (fun h => by have := Int32.lt_iff_toInt_lt.mp h; rw [show (1 : Int32).toInt = 1 from rfl] at this; omega)
  · show decide ((3067 : Int32) < ρ.1 59744) = false
    exact decide_eq_false (fun h => by have := Int32.lt_iff_toInt_lt.mp h; rw [show (3067 : Int32).toInt = 3067 from rfl] at this; omega)
  · show decide ((ρ.1 59744) < Int32.ofNat L) = true
    exact decide_eq_true (Int32.lt_iff_toInt_lt.mpr (by rw [hn]; omega))
  · exact add 1 (by decide) (by decide)
  · exact add 2 (by decide) (by decide)
  · exact add 3 (by decide) (by decide)
  · exact add 4 (by decide) (by decide)
  · exact add 5 (by decide) (by decide)
/-- back at the head, six ints on -/
noncomputable def sBkP (F : sFs) (s : sS) : Bool := decide (spc (zLn 19) = spc s) && ((Nat.ble 349 s.2.2.2.1.2 && (Nat.ble s.2.2.2.1.2 350 && (Nat.ble 103275 s.2.2.2.2 && Nat.ble s.2.2.2.2 103281))) && (decide (sfnd (sgC (snorm 349 103275 s)) 59744 = some (.add (.arg 59744) (.int 6))) && sinstLX kR F (sgC (snorm 349 103275 s)) [] (zLn 19) (snorm 349 103275 s)))
theorem sBkP_ok {F : sFs} {s : sS} {ρ : sR} (hcI : cI mo_455 s) (hL : L ≤ 3073) (hB : LBP L ρ) (hi : (ρ.1 59744).toInt + 6 ≤ L) (IH : LHP L xs ((ρ.1 59744).toInt + 6)) (hK : kok (pXs L xs) ρ kR) (hF : fok (pXs L xs) ρ F) {t : Int} (ht : t ≤ 40 * (ρ.1 59744).toInt + 240) (hp : PT (pXs L xs) t ρ) (h : sBkP F s = true) : GPL L xs ρ s := by
  simp only [sBkP, Bool.and_eq_true, decide_eq_true_eq, Nat.ble_eq] at h
  obtain ⟨h7, ⟨h1, h2, h3, h4⟩, h5, h6⟩ := h
  have hfs : s.2.1 = [] := by
    have := h6
    simp only [sinstLX, Bool.and_eq_true, List.isEmpty_iff] at this
    exact this.2.2.2.2.2.2.2
  obtain ⟨f, c1, c2, j, c3⟩ := hcI
  rw [hfs] at c1
  cases c1
  have c2 : s.1.2.2.2.2.1 = mo_455 := c2
  have c3 : s.1.2.2.2.2.2.1 = mo_455.drop j := c3
  have hcode : (zLn 19).1.2.2.2.2.2.1 = s.1.2.2.2.2.2.1 := by
    rw [zLhead.2.1]
    rw [zLhead.2.2] at h7
    unfold spc at h7
    split at h7
    · next o t ho =>
      rw [c3] at ho
      rw [c3]
      exact (drop_pc law33 ho h7.symm).symm
    · cases h7
  refine GP_norm (a := s.2.2.2.1.2 - 349) (b := s.2.2.2.2 - 103275) (n := 349) (m := 103275) (by omega) (by omega) (fun G hR => ?_)
  refine sinstLX_ok (K := kR) (F0 := []) (s0 := zLn 19) (PE_mono L xs) h6 (zLhead.1.trans c2.symm) hcode (kok_sh kR_x hK) (fok_sh hF) hR (fun k1 k2 k3 => ?_)
  obtain ⟨b1, b2, b3, b4⟩ := hB
  have e1 : (rsub (pXs L xs) (rsh ρ (s.2.2.2.1.2 - 349) (s.2.2.2.2 - 103275)) (sgC (snorm 349 103275 s))).1 59744 = ρ.1 59744 + 6 := by
    simp only [rsub, h5, sd_sh, sd]
  have e2 : (ρ.1 59744 + 6).toInt = (ρ.1 59744).toInt + 6 := s_add (y := 6) (by show _ ≤ (ρ.1 59744).toInt + 6; omega) (by show (ρ.1 59744).toInt + 6 ≤ _; omega)
  refine IH _ (by rw [e1, e2]; exact Int.le_refl _) ?_ k1 k2.1 (PT_le (t := t) (by rw [e1, e2]; omega) (PT_sg (PT_ag (ρ := ρ) ⟨fun _ _ => ⟨rfl, rfl⟩, fun _ _ => ⟨rfl, rfl⟩⟩ hp))) G k3
  refine ⟨by rw [e1, e2]; omega, by rw [e1, e2]; omega, ?_, ?_⟩
  · rw [e1, e2]
    show 6 * ((rC ρ + (s.2.2.2.1.2 - 349) : Nat) : Int) + 1 ≤ _
    omega
  · rw [e1, e2]
    show ((rS ρ + (s.2.2.2.2 - 103275) : Nat) : Int) + 1 ≤ _
    omega
/-- what is owed of a case -/
noncomputable def ZCP (L : Nat) (xs : Nat → Int32) (c j : Nat) : Prop := ∀ ρ : sR, LBP L ρ → (ρ.1 59744).toInt + 6 ≤ L → LHP L xs ((ρ.1 59744).toInt + 6) → kok (pXs L xs) ρ kR → fok (pXs L xs) ρ (Fk c) → PT (pXs L xs) (40 * (ρ.1 59744).toInt) ρ → GPL L xs ρ (zLn j)
/-- a road without contracts: back at the head -/
noncomputable def lrow (j n : Nat) (F : sFs) : Bool := srun ysN pF pdfl mt_all hlp kR sBkP n F (zLn j)
theorem lrow_ok {j n : Nat} {F : sFs} {ρ : sR} (hL : L ≤ 3073) (hB : LBP L ρ) (hi : (ρ.1 59744).toInt + 6 ≤ L) (IH : LHP L xs ((ρ.1 59744).toInt + 6)) (hK : kok (pXs L xs) ρ kR) (hF : fok (pXs L xs) ρ F) (hp : PT (pXs L xs) (40 * (ρ.1 59744).toInt) ρ) (h : lrow j n F = true) : GPL L xs ρ (zLn j) :=
  srunI_ok (C := mo_455) flN (PE_back L xs) hK (fun F s hF hcI h => sBkP_ok hcI hL hB hi IH hK hF (by omega) hp h) n F (zLn j) h hF (zLcI j)
end LOOPP
