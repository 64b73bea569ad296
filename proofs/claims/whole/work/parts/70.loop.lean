/-! ===== the law's loop: cells that nobody looks at may have come, and slots ===== -/
def rsh (ρ : sR) (a b : Nat) : sR := (ρ.1, ρ.2.1, ρ.2.2.1, ρ.2.2.2.1, rB ρ, rC ρ + a, rS ρ + b)
section SHIFT
variable {X : pX} {Ft : Nat → Nat → FieldType} {dfl : Nat → Nat × List Value} {Mt : List pM} {lw : Nat × List pOp × Nat} {P : pC → Prop} {ρ : sR} {a b : Nat}
theorem sd_sh (t : sT) : sd X (rsh ρ a b) t = sd X ρ t := by
  induction t <;> simp only [sd, rsh] <;> simp_all only [rsh]
theorem sv_sh (t : sT) : sv X (rsh ρ a b) t = sv X ρ t := by
  unfold sv
  split <;> first | rfl | rw [sd_sh]
theorem dL_sh (lv : sL) : dL X (rsh ρ a b) lv = dL X ρ lv := by
  unfold dL
  exact List.map_congr_left (fun q _ => by rw [sv_sh])
theorem dS_sh (st : List sT) : dS X (rsh ρ a b) st = dS X ρ st := by
  unfold dS
  exact List.map_congr_left (fun t _ => sv_sh t)
theorem KK_sh : ∀ (fs : List sF) (d : Nat) (r : pRes), KK X Ft dfl Mt lw P (rsh ρ a b) fs d r = KK X Ft dfl Mt lw P ρ fs d r
  | [], _, _ => rfl
  | f :: fs, d, (.inl v, G, sl) => by
    have ih : KK X Ft dfl Mt lw P (rsh ρ a b) fs (d + 1) = KK X Ft dfl Mt lw P ρ fs (d + 1) := funext (fun r => KK_sh fs (d + 1) r)
    simp only [KK, dL_sh, dS_sh, ih]
  | f :: fs, d, (.inr E, G, sl) => by
    have ih : KK X Ft dfl Mt lw P (rsh ρ a b) fs (d + 1) = KK X Ft dfl Mt lw P ρ fs (d + 1) := funext (fun r => KK_sh fs (d + 1) r)
    simp only [KK, ih]
theorem GG_sh (f : sF) (fs : List sF) (d sl : Nat) (G : pH) : GG X Ft dfl Mt lw P (rsh ρ a b) f fs d sl G = GG X Ft dfl Mt lw P ρ f fs d sl G := by
  have ih : KK X Ft dfl Mt lw P (rsh ρ a b) fs (d + 1) = KK X Ft dfl Mt lw P ρ fs (d + 1) := funext (fun r => KK_sh fs (d + 1) r)
  simp only [GG, dL_sh, dS_sh, ih]
theorem sn_sh (t : sT) : sn X (rsh ρ a b) t = sn X ρ t := by
  unfold sn
  rw [sd_sh]
theorem fok_sh {F : sFs} (h : fok X ρ F) : fok X (rsh ρ a b) F := ⟨⟨fun i r hr => by rw [sn_sh]; exact h.1.1 i r hr, fun c t r hr => by rw [sn_sh]; exact h.1.2 c t r hr⟩, fun f hf => by
  rw [← h.2 f hf]
  simp only [sc, sd_sh]⟩
theorem aden_sh (base : sT) (j : Nat) : ∀ u : List (sT × sT), aden X (rsh ρ a b) base u j = aden X ρ base u j
  | [] => by
    unfold aden bden
    split
    · rfl
    · exact sv_sh _
  | x :: r => by
    unfold aden
    rw [sd_sh, sv_sh, aden_sh base j r]
theorem CR_sh {e : sE} {y : pE} (h : CR X ρ e y) : CR X (rsh ρ a b) e y := by
  cases e with
  | inl x =>
    cases y with
    | inl z =>
      obtain ⟨h1, h2, h3, h4⟩ := h
      exact ⟨h1, h2, fun j hj => by rw [aden_sh]; exact h3 j hj, fun u hu => by rw [sd_sh]; exact h4 u hu⟩
    | inr z => exact h
  | inr x =>
    cases y with
    | inl z => exact h
    | inr z =>
      have h : z = (x.1, x.2.map (sv X ρ)) := h
      show z = (x.1, x.2.map (sv X (rsh ρ a b)))
      rw [h]
      exact congrArg (fun l => (x.1, l)) (List.map_congr_left (fun t _ => (sv_sh t).symm))
theorem kok_sh {K : sK} (hx : K.2.2.2 = false) (h : kok X ρ K) : kok X (rsh ρ a b) K := ⟨h.1, h.2.1, h.2.2.1, fun h9 => by rw [hx] at h9; cases h9⟩
/-- a state whose own cells and slots are so many -/
def snorm (n m : Nat) (s : sS) : sS := (s.1, s.2.1, s.2.2.1, (s.2.2.2.1.1, n), m)
theorem GP_norm {s : sS} {n m : Nat} (h1 : s.2.2.2.1.2 = n + a) (h2 : s.2.2.2.2 = m + b) (hg : GP X Ft dfl Mt lw P (rsh ρ a b) (snorm n m s)) : GP X Ft dfl Mt lw P ρ s := fun G hR => by
  have := hg G ⟨by
      have := hR.1
      show n + (rC ρ + a) = G.length
      omega, fun k e hk => by
      obtain ⟨y, hy, hc⟩ := hR.2.1 k e hk
      exact ⟨y, hy, CR_sh hc⟩, hR.2.2.1, hR.2.2.2⟩
  rw [GG_sh] at this
  rw [show s.2.2.2.2 + rS ρ = m + (rS ρ + b) by omega]
  exact this
end SHIFT
section LOOP
variable {L : Nat} {xs : Nat → Int32}
abbrev GPL (L : Nat) (xs : Nat → Int32) (ρ : sR) (s : sS) : Prop := GP (pXs L xs) pF pdfl mt_all lwN (PE L xs) ρ s
/-- where the loop stands, and what has come so far -/
def LB (L : Nat) (kv : Nat) (ρ : sR) : Prop := 1 ≤ (ρ.1 kv).toInt ∧ (ρ.1 kv).toInt ≤ L + 1 ∧ 6 * (rC ρ : Int) + 1 ≤ (ρ.1 kv).toInt ∧ (rS ρ : Int) + 1 ≤ (ρ.1 kv).toInt
/-- what is owed at the loop's head, from there on -/
def LHead (L : Nat) (xs : Nat → Int32) (F0 : sFs) (s0 : sS) (kv : Nat) (N : Int) : Prop := ∀ ρ : sR, N ≤ (ρ.1 kv).toInt → LB L kv ρ → kok (pXs L xs) ρ kE → fok (pXs L xs) ρ F0 → GPL L xs ρ s0
/-- back at the head, six ints on -/
def sBack (F0 : sFs) (s0 : sS) (kv : Nat) (F : sFs) (s : sS) : Bool := decide (spc s0 = spc s) && (decide (s0.2.2.1 = s.2.2.1) && ((Nat.ble s0.2.2.2.1.2 s.2.2.2.1.2 && (Nat.ble s.2.2.2.1.2 (s0.2.2.2.1.2 + 1) && (Nat.ble s0.2.2.2.2 s.2.2.2.2 && Nat.ble s.2.2.2.2 (s0.2.2.2.2 + 6)))) && (decide (sfnd (smat s0 (snorm s0.2.2.2.1.2 s0.2.2.2.2 s)) kv = some (.add (.arg kv) (.int 6))) && sinst kE F (smat s0 (snorm s0.2.2.2.1.2 s0.2.2.2.2 s)) F0 s0 (snorm s0.2.2.2.1.2 s0.2.2.2.2 s))))
theorem sBack_ok {F0 : sFs} {s0 : sS} {kv : Nat} {F : sFs} {s : sS} {ρ : sR} (hL : L ≤ 3073) (hB : LB L kv ρ) (hi : (ρ.1 kv).toInt + 6 ≤ L) (IH : LHead L xs F0 s0 kv ((ρ.1 kv).toInt + 6)) (hK : kok (pXs L xs) ρ kE) (hF : fok (pXs L xs) ρ F) (h : sBack F0 s0 kv F s = true) : GPL L xs ρ s := by
  simp only [sBack, Bool.and_eq_true, decide_eq_true_eq, Nat.ble_eq] at h
  obtain ⟨-, -, ⟨h1, h2, h3, h4⟩, h5, h6⟩ := h
  refine GP_norm (a := s.2.2.2.1.2 - s0.2.2.2.1.2) (b := s.2.2.2.2 - s0.2.2.2.2) (n := s0.2.2.2.1.2) (m := s0.2.2.2.2) (by omega) (by omega) (fun G hR => ?_)
  refine sinst_ok (PE_mono L xs) h6 (kok_sh rfl hK) (fok_sh hF) hR (fun k1 k2 k3 => ?_)
  obtain ⟨b1, b2, b3, b4⟩ := hB
  have e1 : (rsub (pXs L xs) (rsh ρ (s.2.2.2.1.2 - s0.2.2.2.1.2) (s.2.2.2.2 - s0.2.2.2.2)) (smat s0 (snorm s0.2.2.2.1.2 s0.2.2.2.2 s))).1 kv = ρ.1 kv + 6 := by
    simp only [rsub, h5, sd_sh, sd]
  have e2 : (ρ.1 kv + 6).toInt = (ρ.1 kv).toInt + 6 := s_add (y := 6) (by show _ ≤ (ρ.1 kv).toInt + 6; omega) (by show (ρ.1 kv).toInt + 6 ≤ _; omega)
  refine IH _ (by rw [e1, e2]; exact Int.le_refl _) ?_ k1 k2 G k3
  refine ⟨by rw [e1, e2]; omega, by rw [e1, e2]; omega, ?_, ?_⟩
  · rw [e1, e2]
    show 6 * ((rC ρ + (s.2.2.2.1.2 - s0.2.2.2.1.2) : Nat) : Int) + 1 ≤ _
    omega
  · rw [e1, e2]
    show ((rS ρ + (s.2.2.2.2 - s0.2.2.2.2) : Nat) : Int) + 1 ≤ _
    omega
/-- the law's end, with room for what came in the loop -/
def sEndL (s : sS) : Bool := match s with
  | ((k, _, _, _, _, cur, _, st), fs, _, G, sl) => decide (k = 2) && (fs.isEmpty && ((match cur with
    | o :: _ => opeq o (1952, .ireturn, 1, 0, 0, 0)
    | [] => false) && (decide (st = [.int 1]) && (Nat.ble G.2 1000 && Nat.ble sl 200000))))
theorem sEndL_ok {kv : Nat} {ρ : sR} (hL : L ≤ 3073) (hB : LB L kv ρ) {s : sS} (h : sEndL s = true) : GPL L xs ρ s := by
  obtain ⟨⟨k, nL, ret, hs, full, cur, lv, st⟩, fs, d, G, sl⟩ := s
  simp only [sEndL, Bool.and_eq_true, decide_eq_true_eq, Nat.ble_eq] at h
  obtain ⟨h1, h2, h3, h4, h5, h6⟩ := h
  obtain ⟨b1, b2, b3, b4⟩ := hB
  intro H hR
  unfold GG
  dsimp only
  rw [if_pos h1]
  intro _
  cases cur with
  | nil => cases h3
  | cons o t =>
    have ho := opeq_ok h3
    refine ⟨0, fun fuel _ => ⟨0, _, o, t, rfl, rfl, ?_, ?_, ?_, ?_, ?_⟩⟩
    · rw [ho]; exact mem_end
    · rw [ho]
    · show dS (pXs L xs) ρ st = _
      rw [h4]; rfl
    · have := hR.1
      dsimp only at this ⊢
      omega
    · dsimp only
      omega
/-- a road from a place in the loop: back to the head, or to the law's end -/
def lfL (F0 : sFs) (s0 : sS) (kv : Nat) (F : sFs) (s : sS) : Bool := sEndL s || sBack F0 s0 kv F s
noncomputable def runL (F0 : sFs) (s0 : sS) (kv n : Nat) (F : sFs) (s : sS) : Bool := srun ysN pF pdfl mt_all hlp kE (lfL F0 s0 kv) n F s
theorem runL_ok {F0 : sFs} {s0 : sS} {kv n : Nat} {F : sFs} {s : sS} {ρ : sR} (hL : L ≤ 3073) (hB : LB L kv ρ) (hi : (ρ.1 kv).toInt + 6 ≤ L) (IH : LHead L xs F0 s0 kv ((ρ.1 kv).toInt + 6)) (hK : kok (pXs L xs) ρ kE) (hF : fok (pXs L xs) ρ F) (h : runL F0 s0 kv n F s = true) : GPL L xs ρ s :=
  srun_ok flN (PE_back L xs) hK (fun F s hF h => by
    simp only [lfL, Bool.or_eq_true] at h
    rcases h with h | h
    · exact sEndL_ok hL hB h
    · exact sBack_ok hL hB hi IH hK hF h) n F s h hF
/-- splits ahead of a road -/
def psp (run : sFs → Bool) : List sQ → sFs → Bool
  | [], F => run F
  | c :: cs, F => run ((c, true) :: F) && psp run cs ((c, false) :: F)
theorem psp_ok {ρ : sR} {run : sFs → Bool} {Q : Prop} (hr : ∀ F, fok (pXs L xs) ρ F → run F = true → Q) : ∀ (cs : List sQ) (F : sFs), fok (pXs L xs) ρ F → psp run cs F = true → Q
  | [], F, hF, h => hr F hF h
  | c :: cs, F, hF, h => by
    simp only [psp, Bool.and_eq_true] at h
    cases hc : sc (pXs L xs) ρ c with
    | true => exact hr _ ⟨hF.1, fun f hf => by rcases List.mem_cons.mp hf with e | hf; (· rw [e]; exact hc); exact hF.2 f hf⟩ h.1
    | false => exact psp_ok hr cs _ ⟨hF.1, fun f hf => by rcases List.mem_cons.mp hf with e | hf; (· rw [e]; exact hc); exact hF.2 f hf⟩ h.2
/-- the loop: what it does where there are six ints more, and where not -/
theorem L_loop {F0 : sFs} {s0 : sS} {kv : Nat} (hin : ∀ ρ : sR, LB L kv ρ → kok (pXs L xs) ρ kE → fok (pXs L xs) ρ F0 → (ρ.1 kv).toInt + 6 ≤ L → LHead L xs F0 s0 kv ((ρ.1 kv).toInt + 6) → GPL L xs ρ s0) (hout : ∀ ρ : sR, LB L kv ρ → kok (pXs L xs) ρ kE → fok (pXs L xs) ρ F0 → ¬ (ρ.1 kv).toInt + 6 ≤ L → GPL L xs ρ s0) : ∀ (m : Nat) (N : Int), L < N + m → LHead L xs F0 s0 kv N
  | 0, N, hm, ρ, hN, hB, hK, hF => hout ρ hB hK hF (by omega)
  | m + 1, N, hm, ρ, hN, hB, hK, hF => by
    by_cases h : (ρ.1 kv).toInt + 6 ≤ L
    · exact hin ρ hB hK hF h (L_loop hin hout m _ (by omega))
    · exact hout ρ hB hK hF h
end LOOP
