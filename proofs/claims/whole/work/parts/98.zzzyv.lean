set_option maxRecDepth 20000
/-! ===== a call by contract, in the law's loop ===== -/
noncomputable def lwV (i : Nat) : Bool := Nat.blt i 59000 || Nat.ble 59800 i
noncomputable def lwR (_ : Nat) : Bool := true
theorem KK_one {X : pX} {Ft : Nat → Nat → FieldType} {dfl : Nat → Nat × List Value} {Mt : List pM} {lw : Nat × List pOp × Nat} {P : pC → Prop} {ρ1 ρ : sR} {f : sF} {d : Nat} (h1 : dL X ρ1 f.2.2.2.2.2.2.1 = dL X ρ f.2.2.2.2.2.2.1) (h2 : dS X ρ1 f.2.2.2.2.2.2.2 = dS X ρ f.2.2.2.2.2.2.2) : KK X Ft dfl Mt lw P ρ1 [f] d = KK X Ft dfl Mt lw P ρ [f] d := by
  have e : KK X Ft dfl Mt lw P ρ1 [] (d + 1) = KK X Ft dfl Mt lw P ρ [] (d + 1) := by
    funext r
    simp only [KK]
  funext r
  obtain ⟨v, G, sl⟩ := r
  cases v with
  | inl v => simp only [KK, h1, h2, e]
  | inr E => simp only [KK, e]
theorem nod_dS {X : pX} {V R : Nat → Bool} {ρ1 ρ2 : sR} (h : alk V R ρ1 ρ2) {l : List sT} (hl : l.all (nod V R) = true) : dS X ρ1 l = dS X ρ2 l := by
  unfold dS
  exact List.map_congr_left (fun t ht => nod_v h (List.all_eq_true.mp hl t ht))
theorem nod_dL {X : pX} {V R : Nat → Bool} {ρ1 ρ2 : sR} (h : alk V R ρ1 ρ2) {l : sL} (hl : l.all (fun q => nod V R q.2) = true) : dL X ρ1 l = dL X ρ2 l := by
  unfold dL
  exact List.map_congr_left (fun q hq => by rw [nod_v h (List.all_eq_true.mp hl q hq)])
theorem dS_cat {X : pX} {ρ : sR} {a b : List sT} : dS X ρ (a ++ b) = dS X ρ a ++ dS X ρ b := by
  unfold dS
  exact List.map_append
theorem rIJ_vok {X : pX} {w : Int32} {z : Int64} {ρ' ρ : sR} (h' : vok X ρ') (h : vok X ρ) : vok X (rIJ w z ρ' ρ) := by
  have hm : vok X (rmx 59000 ρ' ρ) := rmx_vok h' h
  constructor
  · intro i r hr
    have e : sn X (rIJ w z ρ' ρ) (.arg i) = sn X (rmx 59000 ρ' ρ) (.arg i) := by
      have h8 : i ≠ 59808 := fun e => by rw [e, show vrng 59808 = none from rfl] at hr; cases hr
      have h9 : i ≠ 59809 := fun e => by rw [e, show vrng 59809 = none from rfl] at hr; cases hr
      show (if i % 2 = 1 then ((rIJ w z ρ' ρ).2.1 i).toInt else ((rIJ w z ρ' ρ).1 i).toInt) = (if i % 2 = 1 then ((rmx 59000 ρ' ρ).2.1 i).toInt else ((rmx 59000 ρ' ρ).1 i).toInt)
      unfold rIJ rmx
      dsimp only
      rw [if_neg h8, if_neg h9]
    rw [e]
    exact hm.1 i r hr
  · intro a t r hr
    have e : sn X (rIJ w z ρ' ρ) (.elem (.arg a) t) = sn X (rmx 59000 ρ' ρ) (.elem (.arg a) (.int (sd X (rIJ w z ρ' ρ) t).1)) := rfl
    rw [e]
    exact hm.2 a _ r hr
theorem z219 : ∃ vs, hget zLw 219 = some (.inr (13, vs)) := by
  have h : (match hget zLw 219 with | some (.inr (c, _)) => Nat.beq c 13 | _ => false) = true := by decide +kernel
  split at h
  · next c vs e => exact ⟨vs, by rw [e, Nat.eq_of_beq_eq_true h]⟩
  · cases h
theorem z000 : ∃ vs, hget zLw 0 = some (.inr (12, vs)) := by
  have h : (match hget zLw 0 with | some (.inr (c, _)) => Nat.beq c 12 | _ => false) = true := by decide +kernel
  split at h
  · next c vs e => exact ⟨vs, by rw [e, Nat.eq_of_beq_eq_true h]⟩
  · cases h
/-- arguments set -/
noncomputable def rset (ps : List (Nat × Int32)) (ρ : sR) : sR := (fun i => match ps.find? (fun p => p.1 == i) with | some p => p.2 | none => ρ.1 i, ρ.2)
theorem rset_no {ps : List (Nat × Int32)} {ρ : sR} {i : Nat} (h : ∀ p ∈ ps, p.1 ≠ i) : (rset ps ρ).1 i = ρ.1 i := by
  have : ps.find? (fun p => p.1 == i) = none := List.find?_eq_none.mpr (fun p hp => by have := h p hp; simpa using this)
  unfold rset
  dsimp only
  rw [this]
theorem rset_agr {n : Nat} {ps : List (Nat × Int32)} {ρ : sR} (h : ∀ p ∈ ps, n ≤ p.1) : agr n (rset ps ρ) ρ := ⟨fun i hi => ⟨rset_no (fun p hp e => by have := h p hp; omega), rfl⟩, fun a ha => ⟨rfl, rfl⟩⟩
theorem rset_vok {X : pX} {ps : List (Nat × Int32)} {ρ : sR} (hn : ∀ p ∈ ps, ∀ r, vrng p.1 = some r → r.1 ≤ p.2.toInt ∧ p.2.toInt ≤ r.2) (he : ∀ p ∈ ps, p.1 % 2 = 0) (hv : vok X ρ) : vok X (rset ps ρ) := by
  constructor
  · intro i r hr
    show r.1 ≤ (if i % 2 = 1 then (ρ.2.1 i).toInt else ((rset ps ρ).1 i).toInt) ∧ (if i % 2 = 1 then (ρ.2.1 i).toInt else ((rset ps ρ).1 i).toInt) ≤ r.2
    have h0 : r.1 ≤ (if i % 2 = 1 then (ρ.2.1 i).toInt else (ρ.1 i).toInt) ∧ (if i % 2 = 1 then (ρ.2.1 i).toInt else (ρ.1 i).toInt) ≤ r.2 := hv.1 i r hr
    cases hf : ps.find? (fun p => p.1 == i) with
    | none =>
      have e : (rset ps ρ).1 i = ρ.1 i := by unfold rset; dsimp only; rw [hf]
      rw [e]
      exact h0
    | some p =>
      have e : (rset ps ρ).1 i = p.2 := by unfold rset; dsimp only; rw [hf]
      have hp := List.mem_of_find?_eq_some hf
      have hi : p.1 = i := by have := List.find?_some hf; simpa using this
      have h2 := he p hp
      rw [if_neg (by omega), e]
      exact hn p hp r (by rw [hi]; exact hr)
  · intro a t r hr
    have e : sn X (rset ps ρ) (.elem (.arg a) t) = sn X ρ (.elem (.arg a) (.int (sd X (rset ps ρ) t).1)) := rfl
    rw [e]
    exact hv.2 a _ r hr
theorem rset_kok {X : pX} {ps : List (Nat × Int32)} {ρ : sR} (hk : kok X ρ kR) : kok X (rset ps ρ) kR := ⟨hk.1, hk.2.1, hk.2.2.1, fun e => by rw [kR_x] at e; cases e⟩
/-- a road to a call -/
noncomputable def crow (j n : Nat) (F : sFs) (sA : sS) : Bool := srun ysN pF pdfl mt_all hlp kR (fun F s => sinstX kR F ([], []) [] sA s) n F (zLn j)
theorem crow_ok {L : Nat} {xs : Nat → Int32} {j n : Nat} {F : sFs} {sA : sS} {ρ : sR} (hK : kok (pXs L xs) ρ kR) (hF : fok (pXs L xs) ρ F) (h : crow j n F sA = true) (hg : GPL L xs ρ sA) : GPL L xs ρ (zLn j) :=
  srun_ok flN (PE_back L xs) hK (leaf := fun F s => sinstX kR F ([], []) [] sA s) (fun F s hF h => fun G hR => sinstX_ok (PE_mono L xs) h hK hF hR (fun k1 k2 k3 => hg G k3)) n F _ h hF
section LCALL
variable {L : Nat} {xs : Nat → Int32}
theorem lgood {C : sC} {t tq : Int} {Q : sR → sR → Option Value → Option Value → Prop} {vt : List sT} (hC : SRELP (pXs L xs) kR zT C 19 20 (PT (pXs L xs) t) Q) (h1 : C.2.2.1 = (fT1, fT2))
    (hvt : vt.all (nod (fun i => Nat.beq i 59841) lwR) = true)
    (hQ : ∀ (ρ ρ' : sR) (v1 v2 : Option Value), Q ρ ρ' v1 v2 → ∃ (w : Int32) (z : Int64), (∀ ρ0 : sR, dS (pXs L xs) (rIJ w z ρ' ρ0) vt = v1.toList) ∧ v2 = v1 ∧ kok (pXs L xs) ρ' kR ∧ vok (pXs L xs) ρ' ∧ ρ'.1 19232 = 0 ∧ PT (pXs L xs) tq ρ')
    {fA : sF} {nA : Nat} {rA : Option FieldType} {hA : pHd} {uA tA curA : List pOp} {pA lA kA iA : Nat} {lvA : sL} {stA asA restA : List sT}
    (efA : fA = (1, nA, rA, hA, uA, (pA, .invokevirtual iA, lA, C.1.1, kA, 12) :: tA, lvA, stA))
    (saA : sargs kA stA = some (tr 0 :: asA, restA)) (toA : pm_to uA tA pA lA none = some curA)
    {cL : List pOp} {lvL : sL} {stL : List sT}
    (noA : (lvA.all (fun q => nod lwV lwR q.2) && (restA.all (nod lwV lwR) && (lvL.all (fun q => nod lwV lwR q.2) && stL.all (nod lwV lwR)))) = true)
    {cM tM curM : List pOp} {pM lM kM iM : Nat} {lvM : sL} {stM asM restM : List sT}
    (ecM : cM = (pM, .invokevirtual iM, lM, C.1.2.1, kM, 13) :: tM) (saM : sargs kM stM = some (tr 219 :: asM, restM)) (toM : pm_to mo_455 tM pM lM none = some curM)
    (noM : (lvM.all (fun q => nod lwV lwR q.2) && (restM.all (nod lwV lwR) && (tr 219 :: asM).all (nod lwV lwR))) = true)
    (cIM : ∃ j, curM = mo_455.drop j)
    {FZ : sFs} (nz : nodF lwV lwR FZ = true) {nB nC : Nat} (rows : ∀ (w : Int32) (z : Int64), ∃ FX FM : sFs, (∀ ρ1 : sR, ρ1.1 59808 = w → ρ1.2.1 59809 = z → fall (pXs L xs) ρ1 FX) ∧ srun ysN pF pdfl mt_all hlp kR (fun F s => sinstX kR F (sgM s) FM ((2, 8, some .boolean, [], mo_455, cM, lvM, stM), [], 20, foot zLw fL8, 0) s) nB (FX ++ (FZ ++ Fi6)) ((1, nA, rA, hA, uA, curA, lvA, vt ++ restA), [(2, 8, some .boolean, [], mo_455, cL, lvL, stL)], 19, foot zLw fL8, 0) = true ∧ srun ysN pF pdfl mt_all hlp kR sBkP nC (((0, .arg 19232, .int 0), true) :: (FM ++ Fi6)) ((2, 8, some .boolean, [], mo_455, curM, lvM, vt ++ restM), [], 20, zLw, 103275) = true)
    {ρ ρA : sR} (hL : L ≤ 3073) (hB : LBP L ρ) (hi : (ρ.1 59744).toInt + 6 ≤ L) (IH : LHP L xs ((ρ.1 59744).toInt + 6)) (hv : vok (pXs L xs) ρ) (hz : fall (pXs L xs) ρ FZ) (htq : tq ≤ 40 * (ρ.1 59744).toInt + 240)
    (ag : agr 59000 ρA ρ) (kA' : kok (pXs L xs) ρA kR) (fA' : fok (pXs L xs) ρA C.2.2.2.1) (iA' : iok (pXs L xs) ρA C.2.2.2.2.2.2.2.1) (pA' : PT (pXs L xs) t ρA) (dA : dS (pXs L xs) ρA C.2.1.1 = dS (pXs L xs) ρ (tr 0 :: asA)) (dM : dS (pXs L xs) ρA C.2.1.2 = dS (pXs L xs) ρ (tr 219 :: asM)) :
    GPL L xs ρ (fA, [(2, 8, some .boolean, [], mo_455, cL, lvL, stL)], 19, zLw, 103275) := by
  intro G hR
  simp only [Bool.and_eq_true] at noA noM
  obtain ⟨ρ', v1, v2, q, hH⟩ := LAW_H hC h1 ag kA' fA' iA' pA'
  obtain ⟨w, z, dv, ev, k', v', th, pt⟩ := hQ _ _ _ _ q
  subst ev
  obtain ⟨G1, c1, l1, g348, gm, hM⟩ := hH G (103275 + rS ρ) hR
  obtain ⟨FX, FM, hFX, rowB, rowC⟩ := rows w z
  have hG : 349 + rC ρ = G.length := hR.1
  obtain ⟨ρ1, e1⟩ : ∃ r, r = rwB (rIJ w z ρ' ρ) (G1, G1.length, 103275 + rS ρ) := ⟨_, rfl⟩
  have a1 : alk lwV lwR ρ1 ρ := by
    rw [e1]
    refine ⟨fun i h => ?_, fun a h => by cases h⟩
    simp only [lwV, Bool.or_eq_false_iff] at h
    have h2 : ¬ i < 59000 := fun q => by rw [Nat.blt_eq.mpr q] at h; cases h.1
    have h3 : ¬ 59800 ≤ i := fun q => by rw [Nat.ble_eq_true_of_le q] at h; cases h.2
    show ((if i < 59000 then ρ'.1 i else if i = 59808 then w else ρ.1 i) = ρ.1 i) ∧ ((if i < 59000 then ρ'.2.1 i else if i = 59809 then z else ρ.2.1 i) = ρ.2.1 i)
    rw [if_neg h2, if_neg h2, if_neg (by omega), if_neg (by omega)]
    exact ⟨rfl, rfl⟩
  have kv1 : ρ1.1 59744 = ρ.1 59744 := (a1.1 59744 rfl).1
  have s1 : rS ρ1 = 103275 + rS ρ := by rw [e1]; rfl
  have g1 : agr 59000 ρ1 ρ' := by rw [e1]; exact ⟨fun i hi => (rIJ_agr (w := w) (z := z) (ρ' := ρ') (ρ := ρ)).1 i hi, fun a ha => (rIJ_agr (w := w) (z := z) (ρ' := ρ') (ρ := ρ)).2 a ha⟩
  have K1 : kok (pXs L xs) ρ1 kR := by
    rw [e1]
    refine kok_B _ kR_x ⟨k'.1, k'.2.1, fun a l h => ?_, fun h => by rw [kR_x] at h; cases h⟩
    have ha : a < 59000 := Nat.lt_trans (kR_0 a l h) (by decide)
    have := k'.2.2.1 a l h
    have e5 := (rIJ_agr (w := w) (z := z) (ρ' := ρ') (ρ := ρ)).2 a ha
    rw [← e5.1, ← e5.2] at this
    exact this
  have V1 : vok (pXs L xs) ρ1 := by rw [e1]; exact vok_B _ (rIJ_vok v' hv)
  have f1 : fok (pXs L xs) ρ1 (FX ++ (FZ ++ Fi6)) := ⟨V1, fall_app (hFX ρ1 (by rw [e1]; rfl) (by rw [e1]; rfl)) (fall_app (nod_fall a1 nz hz) (f6_of hL V1 (by rw [kv1]; exact hB.1) (by rw [kv1]; exact hi)).2)⟩
  have dv1 : dS (pXs L xs) ρ1 vt = v2.toList := by rw [e1, dS_B]; exact dv ρ
  obtain ⟨us, z00⟩ := z000
  obtain ⟨y0, hy0, hc0⟩ := hR.2.1 0 _ z00
  have recv0 : pm_recv (12 : Int).toNat G (dS (pXs L xs) ρ (tr 0 :: asA)) = true := by
    have e : dS (pXs L xs) ρ (tr 0 :: asA) = .ref 0 :: dS (pXs L xs) ρ asA := rfl
    rw [e]
    unfold pm_recv
    dsimp only
    rw [hy0]
    cases y0 with
    | inl _ => exact hc0.elim
    | inr o =>
      have hc0 : o = (12, us.map (sv (pXs L xs) ρ)) := hc0
      rw [hc0]
      rfl
  have ask : pm_ask (.invokevirtual iA) kA 12 (dS (pXs L xs) ρ stA) G = some (dS (pXs L xs) ρ (tr 0 :: asA), dS (pXs L xs) ρ restA) := by
    simp only [pm_ask, sargs_ok saA]
    rw [if_pos recv0]
  subst efA
  refine GG_call (ρ1 := ρ1) (v := v2) (by decide) rfl ask (Or.inr (Or.inr ⟨iA, rfl⟩)) toA (by rw [← dA]; exact c1) (KK_one (nod_dL a1 noA.2.2.1) (nod_dS a1 noA.2.2.2)) (nod_dL a1 noA.1) (st1 := vt ++ restA) (by rw [dS_cat, dv1, nod_dS a1 noA.2.1]) ?_
  have r8 : HR (pXs L xs) ρ1 (foot zLw fL8) G1 := by
    rw [e1]
    refine ⟨by show 0 + G1.length = G1.length; omega, fun k e hk => ?_, Nat.le_refl _, fun k _ _ => rfl⟩
    rw [foot_get] at hk
    split at hk
    · next hm =>
      have hm := List.mem_singleton.mp hm
      subst hm
      rw [zLw_get, if_pos rfl] at hk
      cases hk
      obtain ⟨y, hy, hc⟩ := hR.2.1 348 z348 (by show hget zLw 348 = _; rw [zLw_get, if_pos rfl])
      refine ⟨y, g348.trans hy, nod_CR (V := fun i => Nat.blt i 59000 || (Nat.beq i 59808 || Nat.beq i 59809)) (R := fun _ => true) ⟨fun i h => ?_, fun a h => by cases h⟩ (by decide +kernel) hc⟩
      simp only [Bool.or_eq_false_iff] at h
      have h2 : ¬ i < 59000 := fun q => by rw [Nat.blt_eq.mpr q] at h; cases h.1
      have h3 : ¬ i = 59808 := fun q => by rw [q] at h; cases h.2.1
      have h4 : ¬ i = 59809 := fun q => by rw [q] at h; cases h.2.2
      show (ρ.1 i = if i < 59000 then ρ'.1 i else if i = 59808 then w else ρ.1 i) ∧ (ρ.2.1 i = if i < 59000 then ρ'.2.1 i else if i = 59809 then z else ρ.2.1 i)
      rw [if_neg h2, if_neg h2, if_neg h3, if_neg h4]
      exact ⟨rfl, rfl⟩
    · cases hk
  have gB := srun_ok flN (PE_back L xs) K1 (fun F s hF hleaf => (show GPL L xs ρ1 s from fun G2 hR2 => sinstX_ok (PE_mono L xs) hleaf K1 hF hR2 (fun k2 f2 h2 => ?_))) nB (FX ++ (FZ ++ Fi6)) _ rowB f1
  · have := gB G1 r8
    rw [show (0 : Nat) + rS ρ1 = 103275 + rS ρ by rw [s1]; omega] at this
    exact this
  · obtain ⟨ρ2, e2⟩ : ∃ r, r = rsub (pXs L xs) ρ1 (sgM s) := ⟨_, rfl⟩
    rw [← e2] at k2 f2 h2 ⊢
    have n2 : ∀ i, i ≠ 59841 → ρ2.1 i = ρ1.1 i ∧ ρ2.2.1 i = ρ1.2.1 i := fun i hi => by rw [e2]; exact sgM_n hi
    have m2 : ∀ a, ρ2.2.2.1 a = ρ1.2.2.1 a ∧ ρ2.2.2.2.1 a = ρ1.2.2.2.1 a := fun a => by rw [e2]; exact sgM_a
    have b2 : ρ2.2.2.2.2 = ρ1.2.2.2.2 := by rw [e2]; rfl
    have B2 : rB ρ2 = G1 := by show ρ2.2.2.2.2.1 = _; rw [b2, e1]; rfl
    have C2 : rC ρ2 = G1.length := by show ρ2.2.2.2.2.2.1 = _; rw [b2, e1]; rfl
    have l2 : G2.length = G.length := by have this : 0 + rC ρ2 = G2.length := h2.1; rw [C2] at this; omega
    have q2 : ∀ k, k ≠ 348 → k < G.length → G2[k]? = G1[k]? := fun k hk hl => by
      have := h2.2.2.2 k (by show hget (foot zLw fL8) k = none; rw [foot_get, if_neg (show ¬ k ∈ fL8 from fun q => hk (List.mem_singleton.mp q))]) (by rw [B2]; omega)
      rw [B2] at this
      exact this
    obtain ⟨G3, c3, hZ⟩ := hM G2 (0 + rS ρ1) l2 q2
    obtain ⟨ρ3, e3⟩ : ∃ r, r = rwB ρ2 ρ.2.2.2.2 := ⟨_, rfl⟩
    have a2 : alk lwV lwR ρ2 ρ := ⟨fun i h => by
      have hi : i ≠ 59841 := fun e => by rw [e] at h; cases h
      exact ⟨(n2 i hi).1.trans (a1.1 i h).1, (n2 i hi).2.trans (a1.1 i h).2⟩, fun a h => by cases h⟩
    have a3 : alk (fun i => Nat.beq i 59841) lwR ρ3 ρ1 := by
      rw [e3]
      refine ⟨fun i h => n2 i (fun e => ?_), fun a h => by cases h⟩
      rw [e] at h
      cases h
    have a32 : alk lwV lwR ρ3 ρ2 := by rw [e3]; exact ⟨fun i _ => ⟨rfl, rfl⟩, fun a h => by cases h⟩
    have kv3 : ρ3.1 59744 = ρ.1 59744 := (a3.1 59744 rfl).1.trans kv1
    obtain ⟨vs, z19⟩ := z219
    obtain ⟨y, hy, hc⟩ := hR.2.1 219 _ z19
    have hy2 : G2[219]? = some (some y) := (q2 219 (by decide) (by omega)).trans ((gm 219 (by decide +kernel) (by omega)).trans hy)
    have recv : pm_recv (13 : Int).toNat G2 (dS (pXs L xs) ρ2 (tr 219 :: asM)) = true := by
      have e : dS (pXs L xs) ρ2 (tr 219 :: asM) = .ref 219 :: dS (pXs L xs) ρ2 asM := rfl
      rw [e]
      unfold pm_recv
      dsimp only
      rw [hy2]
      cases y with
      | inl _ => exact hc.elim
      | inr o =>
        have hc : o = (13, vs.map (sv (pXs L xs) ρ)) := hc
        rw [hc]
        rfl
    have hask : pm_ask (.invokevirtual iM) kM 13 (dS (pXs L xs) ρ2 stM) G2 = some (dS (pXs L xs) ρ2 (tr 219 :: asM), dS (pXs L xs) ρ2 restM) := by
      simp only [pm_ask, sargs_ok saM]
      rw [if_pos recv]
    have hM' : dS (pXs L xs) ρA C.2.1.2 = dS (pXs L xs) ρ2 (tr 219 :: asM) := dM.trans (nod_dS a2 noM.2.2).symm
    have s2 : (0 : Nat) + rS ρ1 = 103275 + rS ρ3 := by rw [s1, e3]; show 0 + (103275 + rS ρ) = 103275 + rS ρ; omega
    have g3 : agr 59000 ρ3 ρ' := by
      rw [e3]
      exact ⟨fun i hi => ⟨(n2 i (by omega)).1.trans (g1.1 i hi).1, (n2 i (by omega)).2.trans (g1.1 i hi).2⟩, fun a ha => ⟨(m2 a).1.trans (g1.2 a ha).1, (m2 a).2.trans (g1.2 a ha).2⟩⟩
    have K3 : kok (pXs L xs) ρ3 kR := by rw [e3]; exact kok_B _ kR_x k2
    have V3 : vok (pXs L xs) ρ3 := by rw [e3]; exact vok_B _ f2.1
    have th3 : ρ3.1 19232 = 0 := (g3.1 19232 (by decide)).1.trans th
    have f3 : fok (pXs L xs) ρ3 (((0, .arg 19232, .int 0), true) :: (FM ++ Fi6)) := ⟨V3, fcn (decide_eq_true th3) (fall_app (by rw [e3]; exact (fok_B _ f2).2) (f6_of hL V3 (by rw [kv3]; exact hB.1) (by rw [kv3]; exact hi)).2)⟩
    have r3 : HR (pXs L xs) ρ3 zLw G3 := hZ ρ3 g3 (by rw [e3]; rfl) (by rw [e3]; rfl) (by
      obtain ⟨y, hy, hc⟩ := h2.2.1 348 z348 (by rw [foot_get, if_pos (by decide), zLw_get, if_pos rfl])
      exact ⟨y, hy, by rw [e3]; exact CR_B (B := ρ2.2.2.2.2) hc⟩)
    have B3 : LBP L ρ3 := by
      have : rC ρ3 = rC ρ ∧ rS ρ3 = rS ρ := by rw [e3]; exact ⟨rfl, rfl⟩
      unfold LBP
      rw [kv3, this.1, this.2]
      exact hB
    subst ecM
    refine GGL_call (PE_back L xs) (ρ1 := ρ3) (v := v2) (st1 := vt ++ restM) hask ⟨iM, rfl⟩ toM (by rw [← hM']; exact c3) (nod_dL a32 noM.1) (by rw [dS_cat, nod_dS a3 hvt, dv1, nod_dS a32 noM.2.1]) ?_
    rw [s2]
    obtain ⟨j, hj⟩ := cIM
    exact srunI_ok (C := mo_455) flN (PE_back L xs) K3 (fun F s hF hcI h => sBkP_ok hcI hL B3 (by rw [kv3]; exact hi) (by rw [kv3]; exact IH) K3 hF (by rw [kv3]; exact htq) (PT_ag g3 pt) h) nC _ _ rowC f3 ⟨_, rfl, rfl, j, hj⟩ G3 r3
end LCALL
