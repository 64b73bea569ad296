/-! ===== a contract that is a case of another ===== -/
noncomputable def rlfS (K : sK) (Z : sH) (C : sC) (F : sFs) (I : sI) (a1 : List sT) (G1 : sH) (a2 : List sT) (G2 : sH) (σ : sM) : Bool := sMok K σ && (hinstL K F σ Z C.2.2.1.1 G1 && (hinstL K F σ Z C.2.2.1.2 G2 && (fholdE F σ C.2.2.2.2.2.2.1 && (ihold F I σ C.2.2.2.2.2.2.2.2 && (teqsX F (C.2.2.2.2.2.1.1.toList.map (ssub σ)) a1 && (teqsX F (C.2.2.2.2.2.1.2.toList.map (ssub σ)) a2 && (σ.1.all (fun q => C.2.2.2.2.1.1.any (fun i => Nat.beq q.1 i)) && (σ.2.all (fun q => C.2.2.2.2.1.2.any (fun i => Nat.beq q.1 i))))))))))
noncomputable def rlf (K : sK) (Z : sH) (C : sC) (F : sFs) (I : sI) (a1 : List sT) (G1 : sH) (a2 : List sT) (G2 : sH) : Bool := rlfS K Z C F I a1 G1 a2 G2 (smK Z G2 (smK Z G1 (smL (smL ([], []) C.2.2.2.2.2.1.1.toList a1) C.2.2.2.2.2.1.2.toList a2) C.2.2.1.1) C.2.2.1.2)
noncomputable def ruseS (off : Nat) (K : sK) (Z : sH) (C : sC) (Z' : sH) (C' : sC) (F : sFs) (I : sI) (σ σ2 : sM) : Bool := (Nat.beq C'.1.1 C.1.1 && (Nat.beq C'.1.2.1 C.1.2.1 && Nat.ble C.1.2.2 C'.1.2.2)) && (sMok K σ && (fholdE F σ C.2.2.2.1 && ((teqsX F (C.2.1.1.map (ssub σ)) C'.2.1.1 && (teqsX F (C.2.1.2.map (ssub σ)) C'.2.1.2 && (C.2.1.1.all scl && C.2.1.2.all scl))) && (fpok K F σ Z (foot Z' C'.2.2.1.1) C.2.2.1.1 && (fpok K F σ Z (foot Z' C'.2.2.1.2) C.2.2.1.2 && (ihold F I σ C.2.2.2.2.2.2.2.1 && (vltM off σ && (fvlt off F && (ivlt off I && (fpnew off F σ2 Z C.2.2.1.1 && (fpnew off F σ2 Z C.2.2.1.2 && (C.2.2.2.2.2.1.1.all (fun t => scl t && vlt off t) && (C.2.2.2.2.2.1.2.all (fun t => scl t && vlt off t) && ((fgd σ2 off C.2.2.2.2.2.2.1 && igd σ2 off C.2.2.2.2.2.2.2.2) && (rlf K Z' C' (isatP (fsubs σ2 C.2.2.2.2.2.2.1 ++ F) (isubs σ2 C.2.2.2.2.2.2.2.2 ++ I)) (isubs σ2 C.2.2.2.2.2.2.2.2 ++ I) (C.2.2.2.2.2.1.1.map (ssub σ2)).toList (hupd F σ2 Z (foot Z' C'.2.2.1.1) C.2.2.1.1) (C.2.2.2.2.2.1.2.map (ssub σ2)).toList (hupd F σ2 Z (foot Z' C'.2.2.1.2) C.2.2.1.2))))))))))))))))
noncomputable def ruse (K : sK) (Z : sH) (C : sC) (Z' : sH) (C' : sC) : Bool := ruseS 65536 K Z C Z' C' (isatP C'.2.2.2.1 C'.2.2.2.2.2.2.2.1) C'.2.2.2.2.2.2.2.1 (rsig Z C C'.2.1.1 C'.2.1.2 (foot Z' C'.2.2.1.1) (foot Z' C'.2.2.1.2)) (sig2 65536 C.2.2.2.2.1.1 C.2.2.2.2.1.2 (rsig Z C C'.2.1.1 C'.2.1.2 (foot Z' C'.2.2.1.1) (foot Z' C'.2.2.1.2)))
noncomputable def ruseT (off : Nat) (K : sK) (Z : sH) (C : sC) (Z' : sH) (C' : sC) (F : sFs) (I : sI) (σ σ2 σ3 : sM) : Bool := (Nat.beq C'.1.1 C.1.1 && (Nat.beq C'.1.2.1 C.1.2.1 && Nat.ble C.1.2.2 C'.1.2.2)) && (sMok K σ && (fholdE F σ C.2.2.2.1 && ((teqsX F (C.2.1.1.map (ssub σ)) C'.2.1.1 && (teqsX F (C.2.1.2.map (ssub σ)) C'.2.1.2 && (C.2.1.1.all scl && C.2.1.2.all scl))) && (fpok K F σ Z (foot Z' C'.2.2.1.1) C.2.2.1.1 && (fpok K F σ Z (foot Z' C'.2.2.1.2) C.2.2.1.2 && (ihold F I σ C.2.2.2.2.2.2.2.1 && (vltM off σ && (fvlt off F && (ivlt off I && (fpnew off F σ2 Z C.2.2.1.1 && (fpnew off F σ2 Z C.2.2.1.2 && (C.2.2.2.2.2.1.1.all (fun t => scl t && vlt off t) && (C.2.2.2.2.2.1.2.all (fun t => scl t && vlt off t) && ((fgd σ2 off C.2.2.2.2.2.2.1 && igd σ2 off C.2.2.2.2.2.2.2.2) && (rlfS K Z' C' (isatP (fsubs σ2 C.2.2.2.2.2.2.1 ++ F) (isubs σ2 C.2.2.2.2.2.2.2.2 ++ I)) (isubs σ2 C.2.2.2.2.2.2.2.2 ++ I) (C.2.2.2.2.2.1.1.map (ssub σ2)).toList (hupd F σ2 Z (foot Z' C'.2.2.1.1) C.2.2.1.1) (C.2.2.2.2.2.1.2.map (ssub σ2)).toList (hupd F σ2 Z (foot Z' C'.2.2.1.2) C.2.2.1.2) σ3)))))))))))))))
section USE
variable {X : pX} {K : sK}
theorem rend_okS {σ : sM} {ρ ρ0 : sR} (hx : K.2.2.2 = false) {Z : sH} {C : sC} {n : Nat} (hfine : cfine Z n C = true) (hK : kok X ρ K) {F : sFs} {I : sI} (hF : fok X ρ F) (hI : iok X ρ I) (hv0 : vok X ρ0) (hag : agrM n C.2.2.2.2.1.1 C.2.2.2.2.1.2 ρ ρ0) {t1 t2 : List sT} {G1 G2 : sH} (hd1 : kdom (foot Z C.2.2.1.1) G1) (hd2 : kdom (foot Z C.2.2.1.2) G2) (h : rlfS K Z C F I t1 G1 t2 G2 σ = true) : ∃ ρ' : sR, cJ X C ρ0 ρ' (dS X ρ t1) (dS X ρ t2) ∧ (∀ (B : pB) (G : pH), HR X (rwB ρ B) G1 G → HR X (rwB ρ' B) (foot Z C.2.2.1.1) G) ∧ ∀ (B : pB) (G : pH), HR X (rwB ρ B) G2 G → HR X (rwB ρ' B) (foot Z C.2.2.1.2) G := by
  simp only [rlfS, Bool.and_eq_true] at h
  obtain ⟨c1, c2, c3, c4, c5, c6, c7, c8, c9⟩ := h
  simp only [cfine, Bool.and_eq_true] at hfine
  obtain ⟨g1, g2, g4, g6, g7, g8, -⟩ := hfine
  have hpost := fholdE_ok hF c1 c4
  have hag2 : agr n (rmix n (rsub X ρ σ) ρ0) (rsub X ρ σ) := rmix_agr
  have hret : ∀ (v0 : Option sT) (st : List sT), v0.toList.all (fun t => scl t && vlt n t) = true → teqsX F (v0.toList.map (ssub σ)) st = true → dS X ρ st = (v0.map (sv X (rmix n (rsub X ρ σ) ρ0))).toList := by
    intro v0 st h1 h2
    have e1 := teqsX_ok (X := X) (ρ := ρ) hF h2
    unfold dS
    rw [← e1]
    cases v0 with
    | none => rfl
    | some t =>
      simp only [Option.toList_some, List.all_cons, List.all_nil, Bool.and_true, Bool.and_eq_true] at h1
      show [sv X ρ (ssub σ t)] = [sv X (rmix n (rsub X ρ σ) ρ0) t]
      rw [ssub_v c1 t h1.1, vlt_v hag2 h1.2]
  refine ⟨rmix n (rsub X ρ σ) ρ0, ⟨⟨fun i hi => ?_, fun a ha j => ?_⟩, ⟨rmix_vok hpost.1 hv0, fall_agr hag2 g4 hpost.2⟩, iok_agr hag2 g6 (ihold_ok hF hI c1 c5), hret _ _ g7 c6, hret _ _ g8 c7⟩, fun B G hR => ?_, fun B G hR => ?_⟩
  · have hf : sfnd σ i = none := by
      rw [sfnd_def]
      split
      · next q hq =>
        exfalso
        have h1 := List.all_eq_true.mp c8 q (List.mem_of_find?_eq_some hq)
        obtain ⟨k, hk, h2⟩ := List.any_eq_true.mp h1
        have h3 := Nat.eq_of_beq_eq_true h2
        have h4 : q.1 = i := by simpa using List.find?_some hq
        exact hi (by rw [← h4, h3]; exact hk)
      · rfl
    by_cases hl : i < n
    · have e := hag.1 i hl hi
      simp only [rmix, if_pos hl, rsub, hf]
      exact e
    · simp only [rmix, if_neg hl, and_self]
  · have hf : afnd σ a = none := by
      rw [afnd_def]
      split
      · next q hq =>
        exfalso
        have h1 := List.all_eq_true.mp c9 q (List.mem_of_find?_eq_some hq)
        obtain ⟨k, hk, h2⟩ := List.any_eq_true.mp h1
        have h3 := Nat.eq_of_beq_eq_true h2
        have h4 : q.1 = a := by simpa using List.find?_some hq
        exact ha (by rw [← h4, h3]; exact hk)
      · rfl
    by_cases hl : a < n
    · have e := hag.2 a hl ha
      simp only [bden, rmix, if_pos hl, rsub, hf, e.1, e.2]
    · simp only [bden, rmix, if_neg hl]
  · have := HR_subL (fok_B B hF) (kok_B B hx hK) c1 hd1 c2 hR
    rw [rsub_B] at this
    exact HR_agr (agr_symm hag2) g1 this
  · have := HR_subL (fok_B B hF) (kok_B B hx hK) c1 hd2 c3 hR
    rw [rsub_B] at this
    exact HR_agr (agr_symm hag2) g2 this
theorem rend_ok {ρ ρ0 : sR} (hx : K.2.2.2 = false) {Z : sH} {C : sC} {n : Nat} (hfine : cfine Z n C = true) (hK : kok X ρ K) {F : sFs} {I : sI} (hF : fok X ρ F) (hI : iok X ρ I) (hv0 : vok X ρ0) (hag : agrM n C.2.2.2.2.1.1 C.2.2.2.2.1.2 ρ ρ0) {t1 t2 : List sT} {G1 G2 : sH} (hd1 : kdom (foot Z C.2.2.1.1) G1) (hd2 : kdom (foot Z C.2.2.1.2) G2) (h : rlf K Z C F I t1 G1 t2 G2 = true) : ∃ ρ' : sR, cJ X C ρ0 ρ' (dS X ρ t1) (dS X ρ t2) ∧ (∀ (B : pB) (G : pH), HR X (rwB ρ B) G1 G → HR X (rwB ρ' B) (foot Z C.2.2.1.1) G) ∧ ∀ (B : pB) (G : pH), HR X (rwB ρ B) G2 G → HR X (rwB ρ' B) (foot Z C.2.2.1.2) G := rend_okS hx hfine hK hF hI hv0 hag hd1 hd2 h
theorem hall_foot {off : Nat} {Z : sH} {C : sC} (h : cfine Z off C = true) : hall (vltE off) 9 (foot Z C.2.2.1.1).1 = true ∧ hall (vltE off) 9 (foot Z C.2.2.1.2).1 = true := by
  simp only [cfine, Bool.and_eq_true] at h
  exact ⟨h.1, h.2.1⟩
theorem SREL_useS {Ft : Nat → Nat → FieldType} {dfl : Nat → Nat × List Value} {Mt : List pM} {off : Nat} (hx : K.2.2.2 = false) (hk0 : ∀ a l, K.2.2.1 a = some l → a < 1000) {Z Z' : sH} {C C' : sC} (hC : SREL X Ft dfl Mt K Z C) {σ : sM} (hgood : cgood off C = true) (hfine : cfine Z' off C' = true) (h : ruseS off K Z C Z' C' (isatP C'.2.2.2.1 C'.2.2.2.2.2.2.2.1) C'.2.2.2.2.2.2.2.1 σ (sig2 off C.2.2.2.2.1.1 C.2.2.2.2.1.2 σ) = true) : SREL X Ft dfl Mt K Z' C' := by
  intro ρ hK hF0 hI
  have hF := isatP_ok hF0 hI
  generalize isatP C'.2.2.2.1 C'.2.2.2.2.2.2.2.1 = F at h hF
  unfold ruseS at h
  simp only [Bool.and_eq_true] at h
  obtain ⟨⟨m1, m2, m3⟩, c1, c2, ⟨c3, c4, c5, c6⟩, c7, c8, c9, c12, c13, c14, c19, c20, c21, c22, ⟨c25, c26⟩, hl⟩ := h
  simp only [cgood, Bool.and_eq_true] at hgood
  obtain ⟨g1, g2, g3⟩ := hgood
  have h32 : off % 32 = 0 := Nat.eq_of_beq_eq_true g1
  have h2 : off % 2 = 0 := by omega
  obtain ⟨c17, c18⟩ := hall_foot hfine
  have hpre := fholdE_ok hF c1 c2
  obtain ⟨ρ', ⟨f1, f2⟩, hpost, hiv', hc1, hc2⟩ := hC (rsub X ρ σ) (kok_sub hK c1) hpre (ihold_ok hF hI c1 c9)
  have hag : agr off (rnew off ρ ρ') ρ := rnew_agr
  have hrep : REP X off ρ' (rnew off ρ ρ') (sig2 off C.2.2.2.2.1.1 C.2.2.2.2.1.2 σ) := REP_new h2 g2 g3 c1 c12 f1 f2
  have hkind := sfnd_kind (σ := σ) (mods := C.2.2.2.2.1.1) (moda := C.2.2.2.2.1.2) h2 c1
  have hF'' : fok X (rnew off ρ ρ') F := ⟨rnew_vok h32 hF.1 hpost.1, fall_agr hag c13 hF.2⟩
  have hFn : fok X (rnew off ρ ρ') (fsubs (sig2 off C.2.2.2.2.1.1 C.2.2.2.2.1.2 σ) C.2.2.2.2.2.2.1 ++ F) := ⟨hF''.1, fun f hf => by
    rcases List.mem_append.mp hf with q | q
    · exact (REP_f hrep hkind c25).mpr hpost.2 f q
    · exact hF''.2 f q⟩
  have hIn : iok X (rnew off ρ ρ') (isubs (sig2 off C.2.2.2.2.1.1 C.2.2.2.2.1.2 σ) C.2.2.2.2.2.2.2.2 ++ C'.2.2.2.2.2.2.2.1) := fun c hc => by
    rcases List.mem_append.mp hc with q | q
    · exact REP_i hrep hkind c26 hiv' c q
    · exact iok_agr hag c14 hI c q
  have hKn : kok X (rnew off ρ ρ') K := ⟨hK.1, hK.2.1, fun a l hl j => (by
    have h9 : ¬ off + 1000 ≤ a := by have := hk0 a l hl; omega
    have e1 : (rnew off ρ ρ').2.2.1 a = ρ.2.2.1 a := by simp only [rnew, if_neg h9]
    have e2 : (rnew off ρ ρ').2.2.2.1 a = ρ.2.2.2.1 a := by simp only [rnew, if_neg h9]
    rw [e1, e2]
    exact hK.2.2.1 a l hl j), fun h9 => (by rw [hx] at h9; cases h9)⟩
  obtain ⟨ρ3, ⟨j1, j2, j3, j4, j5⟩, k1, k2⟩ := rend_ok (ρ0 := ρ) hx hfine hKn (isatP_ok hFn hIn) hIn hF0.1 (agrM_new (Nat.le_refl _) hag ⟨fun i _ _ => ⟨rfl, rfl⟩, fun a _ _ => ⟨rfl, rfl⟩⟩) (kdom_upd (kdom_foot _ _) c7) (kdom_upd (kdom_foot _ _) c8) hl
  have hret : ∀ (v0 : Option sT), v0.all (fun t => scl t && vlt off t) = true → ∀ w : Option sT, dS X (rnew off ρ ρ') ((v0.map (ssub (sig2 off C.2.2.2.2.1.1 C.2.2.2.2.1.2 σ))).toList) = (w.map (sv X ρ3)).toList → v0.map (sv X ρ') = w.map (sv X ρ3) := by
    intro v0 hv0 w he
    cases v0 with
    | none =>
      cases w with
      | none => rfl
      | some t => cases he
    | some t =>
      simp only [Option.all_some, Bool.and_eq_true] at hv0
      cases w with
      | none => cases he
      | some u =>
        have he : [sv X (rnew off ρ ρ') (ssub (sig2 off C.2.2.2.2.1.1 C.2.2.2.2.1.2 σ) t)] = [sv X ρ3 u] := he
        rw [REP_v hrep hkind hv0.2 hv0.1] at he
        exact congrArg some (List.cons.inj he).1
  have hargs : ∀ a0 a1 : List sT, teqsX F (a0.map (ssub σ)) a1 = true → a0.all scl = true → dS X ρ a1 = dS X (rsub X ρ σ) a0 := by
    intro a0 a1 h1 h2
    have e1 := teqsX_ok (X := X) (ρ := ρ) hF h1
    have e2 := slsub_v (X := X) (ρ := ρ) c1 h2
    unfold dS slsub at e2
    unfold dS
    rw [← e1]
    exact e2
  have m1 := Nat.eq_of_beq_eq_true m1
  have m2 := Nat.eq_of_beq_eq_true m2
  have m3 := Nat.le_of_ble_eq_true m3
  refine ⟨ρ3, j1, j2, j3, fun B G hR => ?_, fun B G hR => ?_⟩
  · obtain ⟨G', hcl, hN⟩ := hc1 (G, G.length, B.2.2) G (HR_fp hF hK c1 c7 hR _)
    refine ⟨G', ?_, k1 B G' (HR_new hF'' hag hrep hkind c19 c17 hR hN)⟩
    rw [m1, hargs _ _ c3 c5, ← hret _ c21 _ j4]
    exact CALL_up m3 hcl
  · obtain ⟨G', hcl, hN⟩ := hc2 (G, G.length, B.2.2) G (HR_fp hF hK c1 c8 hR _)
    refine ⟨G', ?_, k2 B G' (HR_new hF'' hag hrep hkind c20 c18 hR hN)⟩
    rw [m2, hargs _ _ c4 c6, ← hret _ c22 _ j5]
    exact CALL_up m3 hcl
theorem SREL_useT {Ft : Nat → Nat → FieldType} {dfl : Nat → Nat × List Value} {Mt : List pM} {off : Nat} (hx : K.2.2.2 = false) (hk0 : ∀ a l, K.2.2.1 a = some l → a < 1000) {Z Z' : sH} {C C' : sC} (hC : SREL X Ft dfl Mt K Z C) {σ σ3 : sM} (hgood : cgood off C = true) (hfine : cfine Z' off C' = true) (h : ruseT off K Z C Z' C' (isatP C'.2.2.2.1 C'.2.2.2.2.2.2.2.1) C'.2.2.2.2.2.2.2.1 σ (sig2 off C.2.2.2.2.1.1 C.2.2.2.2.1.2 σ) σ3 = true) : SREL X Ft dfl Mt K Z' C' := by
  intro ρ hK hF0 hI
  have hF := isatP_ok hF0 hI
  generalize isatP C'.2.2.2.1 C'.2.2.2.2.2.2.2.1 = F at h hF
  unfold ruseT at h
  simp only [Bool.and_eq_true] at h
  obtain ⟨⟨m1, m2, m3⟩, c1, c2, ⟨c3, c4, c5, c6⟩, c7, c8, c9, c12, c13, c14, c19, c20, c21, c22, ⟨c25, c26⟩, hl⟩ := h
  simp only [cgood, Bool.and_eq_true] at hgood
  obtain ⟨g1, g2, g3⟩ := hgood
  have h32 : off % 32 = 0 := Nat.eq_of_beq_eq_true g1
  have h2 : off % 2 = 0 := by omega
  obtain ⟨c17, c18⟩ := hall_foot hfine
  have hpre := fholdE_ok hF c1 c2
  obtain ⟨ρ', ⟨f1, f2⟩, hpost, hiv', hc1, hc2⟩ := hC (rsub X ρ σ) (kok_sub hK c1) hpre (ihold_ok hF hI c1 c9)
  have hag : agr off (rnew off ρ ρ') ρ := rnew_agr
  have hrep : REP X off ρ' (rnew off ρ ρ') (sig2 off C.2.2.2.2.1.1 C.2.2.2.2.1.2 σ) := REP_new h2 g2 g3 c1 c12 f1 f2
  have hkind := sfnd_kind (σ := σ) (mods := C.2.2.2.2.1.1) (moda := C.2.2.2.2.1.2) h2 c1
  have hF'' : fok X (rnew off ρ ρ') F := ⟨rnew_vok h32 hF.1 hpost.1, fall_agr hag c13 hF.2⟩
  have hFn : fok X (rnew off ρ ρ') (fsubs (sig2 off C.2.2.2.2.1.1 C.2.2.2.2.1.2 σ) C.2.2.2.2.2.2.1 ++ F) := ⟨hF''.1, fun f hf => by
    rcases List.mem_append.mp hf with q | q
    · exact (REP_f hrep hkind c25).mpr hpost.2 f q
    · exact hF''.2 f q⟩
  have hIn : iok X (rnew off ρ ρ') (isubs (sig2 off C.2.2.2.2.1.1 C.2.2.2.2.1.2 σ) C.2.2.2.2.2.2.2.2 ++ C'.2.2.2.2.2.2.2.1) := fun c hc => by
    rcases List.mem_append.mp hc with q | q
    · exact REP_i hrep hkind c26 hiv' c q
    · exact iok_agr hag c14 hI c q
  have hKn : kok X (rnew off ρ ρ') K := ⟨hK.1, hK.2.1, fun a l hl j => (by
    have h9 : ¬ off + 1000 ≤ a := by have := hk0 a l hl; omega
    have e1 : (rnew off ρ ρ').2.2.1 a = ρ.2.2.1 a := by simp only [rnew, if_neg h9]
    have e2 : (rnew off ρ ρ').2.2.2.1 a = ρ.2.2.2.1 a := by simp only [rnew, if_neg h9]
    rw [e1, e2]
    exact hK.2.2.1 a l hl j), fun h9 => (by rw [hx] at h9; cases h9)⟩
  obtain ⟨ρ3, ⟨j1, j2, j3, j4, j5⟩, k1, k2⟩ := rend_okS (ρ0 := ρ) hx hfine hKn (isatP_ok hFn hIn) hIn hF0.1 (agrM_new (Nat.le_refl _) hag ⟨fun i _ _ => ⟨rfl, rfl⟩, fun a _ _ => ⟨rfl, rfl⟩⟩) (kdom_upd (kdom_foot _ _) c7) (kdom_upd (kdom_foot _ _) c8) hl
  have hret : ∀ (v0 : Option sT), v0.all (fun t => scl t && vlt off t) = true → ∀ w : Option sT, dS X (rnew off ρ ρ') ((v0.map (ssub (sig2 off C.2.2.2.2.1.1 C.2.2.2.2.1.2 σ))).toList) = (w.map (sv X ρ3)).toList → v0.map (sv X ρ') = w.map (sv X ρ3) := by
    intro v0 hv0 w he
    cases v0 with
    | none =>
      cases w with
      | none => rfl
      | some t => cases he
    | some t =>
      simp only [Option.all_some, Bool.and_eq_true] at hv0
      cases w with
      | none => cases he
      | some u =>
        have he : [sv X (rnew off ρ ρ') (ssub (sig2 off C.2.2.2.2.1.1 C.2.2.2.2.1.2 σ) t)] = [sv X ρ3 u] := he
        rw [REP_v hrep hkind hv0.2 hv0.1] at he
        exact congrArg some (List.cons.inj he).1
  have hargs : ∀ a0 a1 : List sT, teqsX F (a0.map (ssub σ)) a1 = true → a0.all scl = true → dS X ρ a1 = dS X (rsub X ρ σ) a0 := by
    intro a0 a1 h1 h2
    have e1 := teqsX_ok (X := X) (ρ := ρ) hF h1
    have e2 := slsub_v (X := X) (ρ := ρ) c1 h2
    unfold dS slsub at e2
    unfold dS
    rw [← e1]
    exact e2
  have m1 := Nat.eq_of_beq_eq_true m1
  have m2 := Nat.eq_of_beq_eq_true m2
  have m3 := Nat.le_of_ble_eq_true m3
  refine ⟨ρ3, j1, j2, j3, fun B G hR => ?_, fun B G hR => ?_⟩
  · obtain ⟨G', hcl, hN⟩ := hc1 (G, G.length, B.2.2) G (HR_fp hF hK c1 c7 hR _)
    refine ⟨G', ?_, k1 B G' (HR_new hF'' hag hrep hkind c19 c17 hR hN)⟩
    rw [m1, hargs _ _ c3 c5, ← hret _ c21 _ j4]
    exact CALL_up m3 hcl
  · obtain ⟨G', hcl, hN⟩ := hc2 (G, G.length, B.2.2) G (HR_fp hF hK c1 c8 hR _)
    refine ⟨G', ?_, k2 B G' (HR_new hF'' hag hrep hkind c20 c18 hR hN)⟩
    rw [m2, hargs _ _ c4 c6, ← hret _ c22 _ j5]
    exact CALL_up m3 hcl
theorem SREL_use (hx : K.2.2.2 = false) (hk0 : ∀ a l, K.2.2.1 a = some l → a < 1000) {Z Z' : sH} {C C' : sC} (hC : SREL X pF pdfl mt_all K Z C) (hgood : cgood 65536 C = true) (hfine : cfine Z' 65536 C' = true) (h : ruse K Z C Z' C' = true) : SREL X pF pdfl mt_all K Z' C' := SREL_useS hx hk0 hC hgood hfine h
/-- other words for the arguments -/
theorem SREL_args {Ft : Nat → Nat → FieldType} {dfl : Nat → Nat × List Value} {Mt : List pM} {Z : sH} {C : sC} {a1 a2 : List sT} (h : ∀ ρ : sR, fok X ρ C.2.2.2.1 → dS X ρ a1 = dS X ρ C.2.1.1 ∧ dS X ρ a2 = dS X ρ C.2.1.2) (hS : SREL X Ft dfl Mt K Z C) : SREL X Ft dfl Mt K Z (C.1, (a1, a2), C.2.2) := by
  intro ρ hK hF hI
  obtain ⟨ρ', h1, h2, h3, h4, h5⟩ := hS ρ hK hF hI
  refine ⟨ρ', h1, h2, h3, fun B G hR => ?_, fun B G hR => ?_⟩
  · show ∃ G' : pH, CALL X Ft dfl Mt C.1.2.2 C.1.1 (dS X ρ a1) G B.2.2 _ ∧ _
    rw [(h ρ hF).1]
    exact h4 B G hR
  · show ∃ G' : pH, CALL X Ft dfl Mt C.1.2.2 C.1.2.1 (dS X ρ a2) G B.2.2 _ ∧ _
    rw [(h ρ hF).2]
    exact h5 B G hR
end USE
