set_option maxRecDepth 20000
/-! ===== the law: cases by contracts ===== -/
section LCALL2
variable {L : Nat} {xs : Nat → Int32}
theorem lgood2 {C : sC} {t tq : Int} {Q : sR → sR → Option Value → Option Value → Prop} {vt : List sT} (hC : SRELP (pXs L xs) kR zT C 19 20 (PT (pXs L xs) t) Q) (h1 : C.2.2.1 = (fT1, fT2))
    (hvt : vt.all (nod (fun i => Nat.beq i 59841) lwR) = true)
    (hQ : ∀ (ρ ρ' : sR) (v1 v2 : Option Value), Q ρ ρ' v1 v2 → ∃ (w : Int32) (z : Int64), (∀ ρ0 : sR, dS (pXs L xs) (rIJ w z ρ' ρ0) vt = v1.toList) ∧ v2 = v1 ∧ kok (pXs L xs) ρ' kR ∧ vok (pXs L xs) ρ' ∧ ρ'.1 19232 = 0 ∧ PT (pXs L xs) tq ρ')
    {cA tA curA : List pOp} {pA lA kA iA : Nat} {lvA : sL} {stA asA restA : List sT}
    (ecA : cA = (pA, .invokevirtual iA, lA, C.1.1, kA, 12) :: tA)
    (saA : sargs kA stA = some (tr 0 :: asA, restA)) (toA : pm_to mo_455 tA pA lA none = some curA)
    (noA : (lvA.all (fun q => nod lwV lwR q.2) && restA.all (nod lwV lwR)) = true)
    {cM tM curM : List pOp} {pM lM kM iM : Nat} {lvM : sL} {stM asM restM : List sT}
    (ecM : cM = (pM, .invokevirtual iM, lM, C.1.2.1, kM, 13) :: tM) (saM : sargs kM stM = some (tr 219 :: asM, restM)) (toM : pm_to mo_455 tM pM lM none = some curM)
    (noM : (lvM.all (fun q => nod lwV lwR q.2) && (restM.all (nod (fun _ => false) lwR) && (tr 219 :: asM).all (nod lwV lwR))) = true)
    (cIM : ∃ j, curM = mo_455.drop j)
    {FZ : sFs} (nz : nodF lwV lwR FZ = true) {nB nC : Nat} (rows : ∀ (w : Int32) (z : Int64), ∃ FX FM : sFs, (∀ ρ1 : sR, ρ1.1 59808 = w → ρ1.2.1 59809 = z → fall (pXs L xs) ρ1 FX) ∧ srun ysN pF pdfl mt_all hlp kR (fun F s => sinstX kR F (sgM s) FM ((2, 8, some .boolean, [], mo_455, cM, lvM, stM), [], 20, foot zLw fL8, 0) s) nB (FX ++ (FZ ++ Fi6)) ((2, 8, some .boolean, [], mo_455, curA, lvA, vt ++ restA), [], 20, foot zLw fL8, 0) = true ∧ srun ysN pF pdfl mt_all hlp kR sBkP nC (((0, .arg 19232, .int 0), true) :: (FM ++ Fi6)) ((2, 8, some .boolean, [], mo_455, curM, lvM, vt ++ restM), [], 20, zLw, 103275) = true)
    {ρ ρA : sR} (hL : L ≤ 3073) (hB : LBP L ρ) (hi : (ρ.1 59744).toInt + 6 ≤ L) (IH : LHP L xs ((ρ.1 59744).toInt + 6)) (hv : vok (pXs L xs) ρ) (hz : fall (pXs L xs) ρ FZ) (htq : tq ≤ 40 * (ρ.1 59744).toInt + 240)
    (ag : agr 59000 ρA ρ) (kA' : kok (pXs L xs) ρA kR) (fA' : fok (pXs L xs) ρA C.2.2.2.1) (iA' : iok (pXs L xs) ρA C.2.2.2.2.2.2.2.1) (pA' : PT (pXs L xs) t ρA) (dA : dS (pXs L xs) ρA C.2.1.1 = dS (pXs L xs) ρ (tr 0 :: asA)) (dM : dS (pXs L xs) ρA C.2.1.2 = dS (pXs L xs) ρ (tr 219 :: asM)) :
    GPL L xs ρ ((2, 8, some .boolean, [], mo_455, cA, lvA, stA), [], 20, zLw, 103275) := by
  intro G hR
  simp only [Bool.and_eq_true] at noA noM
  obtain ⟨ρ', v1, v2, q, hH⟩ := LAW_H hC h1 ag kA' fA' iA' pA'
  obtain ⟨w, z, dv, ev, k', v', th, pt⟩ := hQ _ _ _ _ q
  subst ev
  obtain ⟨G1, c1, l1, g348, gm, hM⟩ := hH G (103275 + rS ρ) hR
  obtain ⟨FX, FM, hFX, rowB, rowC⟩ := rows w z
  have hG : 349 + rC ρ = G.length := hR.1
  obtain ⟨ρ1, e1⟩ : ∃ r, r = rwB (rIJ w z ρ' ρ) (G1, G1.length, 103275 + rS ρ) := ⟨_, rfl⟩
  have a1 : alk lwV lwR ρ1 ρ := by
    rw [e1]
    refine ⟨fun i h => ?_, fun a h => by cases h⟩
    simp only [lwV, Bool.or_eq_false_iff] at h
    have h2 : ¬ i < 59000 := fun q => by rw [Nat.blt_eq.mpr q] at h; cases h.1
    have h3 : ¬ 59800 ≤ i := fun q => by rw [Nat.ble_eq_true_of_le q] at h; cases h.2
    show ((if i < 59000 then ρ'.1 i else if i = 59808 then w else ρ.1 i) = ρ.1 i) ∧ ((if i < 59000 then ρ'.2.1 i else if i = 59809 then z else ρ.2.1 i) = ρ.2.1 i)
    rw [if_neg h2, if_neg h2, if_neg (by omega), if_neg (by omega)]
    exact ⟨rfl, rfl⟩
  have kv1 : ρ1.1 59744 = ρ.1 59744 := (a1.1 59744 rfl).1
  have s1 : rS ρ1 = 103275 + rS ρ := by rw [e1]; rfl
  have g1 : agr 59000 ρ1 ρ' := by rw [e1]; exact ⟨fun i hi => (rIJ_agr (w := w) (z := z) (ρ' := ρ') (ρ := ρ)).1 i hi, fun a ha => (rIJ_agr (w := w) (z := z) (ρ' := ρ') (ρ := ρ)).2 a ha⟩
  have K1 : kok (pXs L xs) ρ1 kR := by
    rw [e1]
    refine kok_B _ kR_x ⟨k'.1, k'.2.1, fun a l h => ?_, fun h => by rw [kR_x] at h; cases h⟩
    have ha : a < 59000 := Nat.lt_trans (kR_0 a l h) (by decide)
    have := k'.2.2.1 a l h
    have e5 := (rIJ_agr (w := w) (z := z) (ρ' := ρ') (ρ := ρ)).2 a ha
    rw [← e5.1, ← e5.2] at this
    exact this
  have V1 : vok (pXs L xs) ρ1 := by rw [e1]; exact vok_B _ (rIJ_vok v' hv)
  have f1 : fok (pXs L xs) ρ1 (FX ++ (FZ ++ Fi6)) := ⟨V1, fall_app (hFX ρ1 (by rw [e1]; rfl) (by rw [e1]; rfl)) (fall_app (nod_fall a1 nz hz) (f6_of hL V1 (by rw [kv1]; exact hB.1) (by rw [kv1]; exact hi)).2)⟩
  have dv1 : dS (pXs L xs) ρ1 vt = v2.toList := by rw [e1, dS_B]; exact dv ρ
  obtain ⟨us, z00⟩ := z000
  obtain ⟨y0, hy0, hc0⟩ := hR.2.1 0 _ z00
  have recv0 : pm_recv (12 : Int).toNat G (dS (pXs L xs) ρ (tr 0 :: asA)) = true := by
    have e : dS (pXs L xs) ρ (tr 0 :: asA) = .ref 0 :: dS (pXs L xs) ρ asA := rfl
    rw [e]
    unfold pm_recv
    dsimp only
    rw [hy0]
    cases y0 with
    | inl _ => exact hc0.elim
    | inr o =>
      have hc0 : o = (12, us.map (sv (pXs L xs) ρ)) := hc0
      rw [hc0]
      rfl
  have ask : pm_ask (.invokevirtual iA) kA 12 (dS (pXs L xs) ρ stA) G = some (dS (pXs L xs) ρ (tr 0 :: asA), dS (pXs L xs) ρ restA) := by
    simp only [pm_ask, sargs_ok saA]
    rw [if_pos recv0]
  subst ecA
  refine GGL_call (PE_back L xs) (ρ1 := ρ1) (v := v2) (st1 := vt ++ restA) ask ⟨iA, rfl⟩ toA (by rw [← dA]; exact CALL_up (show 19 ≤ 20 by decide) c1) (nod_dL a1 noA.1) (by rw [dS_cat, dv1, nod_dS a1 noA.2]) ?_
  have r8 : HR (pXs L xs) ρ1 (foot zLw fL8) G1 := by
    rw [e1]
    refine ⟨by show 0 + G1.length = G1.length; omega, fun k e hk => ?_, Nat.le_refl _, fun k _ _ => rfl⟩
    rw [foot_get] at hk
    split at hk
    · next hm =>
      have hm := List.mem_singleton.mp hm
      subst hm
      rw [zLw_get, if_pos rfl] at hk
      cases hk
      obtain ⟨y, hy, hc⟩ := hR.2.1 348 z348 (by show hget zLw 348 = _; rw [zLw_get, if_pos rfl])
      refine ⟨y, g348.trans hy, nod_CR (V := fun i => Nat.blt i 59000 || (Nat.beq i 59808 || Nat.beq i 59809)) (R := fun _ => true) ⟨fun i h => ?_, fun a h => by cases h⟩ (by decide +kernel) hc⟩
      simp only [Bool.or_eq_false_iff] at h
      have h2 : ¬ i < 59000 := fun q => by rw [Nat.blt_eq.mpr q] at h; cases h.1
      have h3 : ¬ i = 59808 := fun q => by rw [q] at h; cases h.2.1
      have h4 : ¬ i = 59809 := fun q => by rw [q] at h; cases h.2.2
      show (ρ.1 i = if i < 59000 then ρ'.1 i else if i = 59808 then w else ρ.1 i) ∧ (ρ.2.1 i = if i < 59000 then ρ'.2.1 i else if i = 59809 then z else ρ.2.1 i)
      rw [if_neg h2, if_neg h2, if_neg h3, if_neg h4]
      exact ⟨rfl, rfl⟩
    · cases hk
  have gB := srun_ok flN (PE_back L xs) K1 (fun F s hF hleaf => (show GPL L xs ρ1 s from fun G2 hR2 => sinstX_ok (PE_mono L xs) hleaf K1 hF hR2 (fun k2 f2 h2 => ?_))) nB (FX ++ (FZ ++ Fi6)) _ rowB f1
  · have := gB G1 r8
    rw [show (0 : Nat) + rS ρ1 = 103275 + rS ρ by rw [s1]; omega] at this
    exact this
  · obtain ⟨ρ2, e2⟩ : ∃ r, r = rsub (pXs L xs) ρ1 (sgM s) := ⟨_, rfl⟩
    rw [← e2] at k2 f2 h2 ⊢
    have n2 : ∀ i, i ≠ 59841 → ρ2.1 i = ρ1.1 i ∧ ρ2.2.1 i = ρ1.2.1 i := fun i hi => by rw [e2]; exact sgM_n hi
    have m2 : ∀ a, ρ2.2.2.1 a = ρ1.2.2.1 a ∧ ρ2.2.2.2.1 a = ρ1.2.2.2.1 a := fun a => by rw [e2]; exact sgM_a
    have b2 : ρ2.2.2.2.2 = ρ1.2.2.2.2 := by rw [e2]; rfl
    have B2 : rB ρ2 = G1 := by show ρ2.2.2.2.2.1 = _; rw [b2, e1]; rfl
    have C2 : rC ρ2 = G1.length := by show ρ2.2.2.2.2.2.1 = _; rw [b2, e1]; rfl
    have l2 : G2.length = G.length := by have this : 0 + rC ρ2 = G2.length := h2.1; rw [C2] at this; omega
    have q2 : ∀ k, k ≠ 348 → k < G.length → G2[k]? = G1[k]? := fun k hk hl => by
      have := h2.2.2.2 k (by show hget (foot zLw fL8) k = none; rw [foot_get, if_neg (show ¬ k ∈ fL8 from fun q => hk (List.mem_singleton.mp q))]) (by rw [B2]; omega)
      rw [B2] at this
      exact this
    obtain ⟨G3, c3, hZ⟩ := hM G2 (0 + rS ρ1) l2 q2
    obtain ⟨ρ3, e3⟩ : ∃ r, r = rwB ρ2 ρ.2.2.2.2 := ⟨_, rfl⟩
    have a2 : alk lwV lwR ρ2 ρ := ⟨fun i h => by
      have hi : i ≠ 59841 := fun e => by rw [e] at h; cases h
      exact ⟨(n2 i hi).1.trans (a1.1 i h).1, (n2 i hi).2.trans (a1.1 i h).2⟩, fun a h => by cases h⟩
    have a3 : alk (fun i => Nat.beq i 59841) lwR ρ3 ρ1 := by
      rw [e3]
      refine ⟨fun i h => n2 i (fun e => ?_), fun a h => by cases h⟩
      rw [e] at h
      cases h
    have a32 : alk lwV lwR ρ3 ρ2 := by rw [e3]; exact ⟨fun i _ => ⟨rfl, rfl⟩, fun a h => by cases h⟩
    have a33 : alk (fun _ => false) lwR ρ3 ρ2 := by rw [e3]; exact ⟨fun i _ => ⟨rfl, rfl⟩, fun a h => by cases h⟩
    have kv3 : ρ3.1 59744 = ρ.1 59744 := (a3.1 59744 rfl).1.trans kv1
    obtain ⟨vs, z19⟩ := z219
    obtain ⟨y, hy, hc⟩ := hR.2.1 219 _ z19
    have hy2 : G2[219]? = some (some y) := (q2 219 (by decide) (by omega)).trans ((gm 219 (by decide +kernel) (by omega)).trans hy)
    have recv : pm_recv (13 : Int).toNat G2 (dS (pXs L xs) ρ2 (tr 219 :: asM)) = true := by
      have e : dS (pXs L xs) ρ2 (tr 219 :: asM) = .ref 219 :: dS (pXs L xs) ρ2 asM := rfl
      rw [e]
      unfold pm_recv
      dsimp only
      rw [hy2]
      cases y with
      | inl _ => exact hc.elim
      | inr o =>
        have hc : o = (13, vs.map (sv (pXs L xs) ρ)) := hc
        rw [hc]
        rfl
    have hask : pm_ask (.invokevirtual iM) kM 13 (dS (pXs L xs) ρ2 stM) G2 = some (dS (pXs L xs) ρ2 (tr 219 :: asM), dS (pXs L xs) ρ2 restM) := by
      simp only [pm_ask, sargs_ok saM]
      rw [if_pos recv]
    have hM' : dS (pXs L xs) ρA C.2.1.2 = dS (pXs L xs) ρ2 (tr 219 :: asM) := dM.trans (nod_dS a2 noM.2.2).symm
    have s2 : (0 : Nat) + rS ρ1 = 103275 + rS ρ3 := by rw [s1, e3]; show 0 + (103275 + rS ρ) = 103275 + rS ρ; omega
    have g3 : agr 59000 ρ3 ρ' := by
      rw [e3]
      exact ⟨fun i hi => ⟨(n2 i (by omega)).1.trans (g1.1 i hi).1, (n2 i (by omega)).2.trans (g1.1 i hi).2⟩, fun a ha => ⟨(m2 a).1.trans (g1.2 a ha).1, (m2 a).2.trans (g1.2 a ha).2⟩⟩
    have K3 : kok (pXs L xs) ρ3 kR := by rw [e3]; exact kok_B _ kR_x k2
    have V3 : vok (pXs L xs) ρ3 := by rw [e3]; exact vok_B _ f2.1
    have th3 : ρ3.1 19232 = 0 := (g3.1 19232 (by decide)).1.trans th
    have f3 : fok (pXs L xs) ρ3 (((0, .arg 19232, .int 0), true) :: (FM ++ Fi6)) := ⟨V3, fcn (decide_eq_true th3) (fall_app (by rw [e3]; exact (fok_B _ f2).2) (f6_of hL V3 (by rw [kv3]; exact hB.1) (by rw [kv3]; exact hi)).2)⟩
    have r3 : HR (pXs L xs) ρ3 zLw G3 := hZ ρ3 g3 (by rw [e3]; rfl) (by rw [e3]; rfl) (by
      obtain ⟨y, hy, hc⟩ := h2.2.1 348 z348 (by rw [foot_get, if_pos (by decide), zLw_get, if_pos rfl])
      exact ⟨y, hy, by rw [e3]; exact CR_B (B := ρ2.2.2.2.2) hc⟩)
    have B3 : LBP L ρ3 := by
      have : rC ρ3 = rC ρ ∧ rS ρ3 = rS ρ := by rw [e3]; exact ⟨rfl, rfl⟩
      unfold LBP
      rw [kv3, this.1, this.2]
      exact hB
    subst ecM
    refine GGL_call (PE_back L xs) (ρ1 := ρ3) (v := v2) (st1 := vt ++ restM) hask ⟨iM, rfl⟩ toM (by rw [← hM']; exact c3) (nod_dL a32 noM.1) (by rw [dS_cat, nod_dS a3 hvt, dv1, nod_dS a33 noM.2.1]) ?_
    rw [s2]
    obtain ⟨j, hj⟩ := cIM
    exact srunI_ok (C := mo_455) flN (PE_back L xs) K3 (fun F s hF hcI h => sBkP_ok hcI hL B3 (by rw [kv3]; exact hi) (by rw [kv3]; exact IH) K3 hF (by rw [kv3]; exact htq) (PT_ag g3 pt) h) nC _ _ rowC f3 ⟨_, rfl, rfl, j, hj⟩ G3 r3
end LCALL2
theorem wk_c_bufc : wok c_bufc = true := by decide +kernel
theorem kp_c_bufc {X : pX} {t : Int} : KP X c_bufc t := KP_of (by decide +kernel)
noncomputable def sA_w17 : sS := (frL 924 zLv [scT 1, tr 0], [], 20, zLw, 103275)
theorem ka_w17 : crow 918 300 (Fk 17) sA_w17 = true := by decide +kernel
noncomputable def sM_w17 : sS := (frL 931 zLv [scT 1, tr 219, .arg 59808], [], 20, foot zLw fL8, 0)
theorem kb_w17 : srun ysN pF pdfl mt_all hlp kR (fun F s => sinstX kR F (sgM s) [] sM_w17 s) 300 ([] ++ ([] ++ Fi6)) (frL 925 zLv ([.arg 59808] ++ []), [], 20, foot zLw fL8, 0) = true := by decide +kernel
theorem kc_w17 : srun ysN pF pdfl mt_all hlp kR sBkP 300 (((0, .arg 19232, .int 0), true) :: ([] ++ Fi6)) (frL 932 zLv ([.arg 59808] ++ [.arg 59808]), [], 20, zLw, 103275) = true := by decide +kernel
theorem zcp_17 {L : Nat} {xs : Nat → Int32} (hL : L ≤ 3073) : ZCP L xs 17 918 := by
  intro ρ hB hi IH hK hF hp
  have b1 := hB.1
  have b2 := hB.2.1
  refine crow_ok hK hF ka_w17 ?_
  have ag : agr 59000 (rset [(60032, (sd (pXs L xs) ρ (scT 1)).1)] ρ) ρ := rset_agr (fun p hp => by rw [List.mem_singleton.mp hp]; show 59000 ≤ 60032; decide)
  have av : vok (pXs L xs) (rset [(60032, (sd (pXs L xs) ρ (scT 1)).1)] ρ) := rset_vok (fun p hp r hr => by rw [List.mem_singleton.mp hp, show vrng 60032 = none from rfl] at hr; cases hr) (fun p hp => by rw [List.mem_singleton.mp hp]; show (60032 : Nat) % 2 = 0; decide) hF.1
  refine lgood2 (C := wideC c_bufc) (t := 40 * (ρ.1 59744).toInt) (tq := 40 * (ρ.1 59744).toInt) (vt := [.arg 59808]) (FZ := []) (nB := 300) (nC := 300) (SREL_w1 sT_bufc wk_c_bufc) rfl (by decide +kernel) (hQ_I rfl rfl (by decide +kernel) kp_c_bufc) rfl rfl rfl (by decide +kernel) rfl rfl rfl (by decide +kernel) ⟨932, rfl⟩ rfl (fun w z => ⟨[], [], fun _ _ _ f hf => (by cases hf), kb_w17, kc_w17⟩) hL hB hi IH hF.1 (fun f hf => by cases hf) (by omega) ag (rset_kok hK) ⟨av, fun f hf => by cases hf⟩ (fun c hc => by cases hc) (PT_ag ag hp) ?_ ?_
  · show [Value.ref 0, Value.int _] = [Value.ref 0, sv (pXs L xs) ρ (scT 1)]
    rw [sv_int (t := scT 1) rfl]
    rfl
  · show [Value.ref 219, Value.int _] = [Value.ref 219, sv (pXs L xs) ρ (scT 1)]
    rw [sv_int (t := scT 1) rfl]
    rfl
