/-! ===== a contract whose two sides are used one behind the other: the model's now, the class's later ===== -/
noncomputable def sg6 (C : sC) : sM := sig2 65536 C.2.2.2.2.1.1 C.2.2.2.2.1.2 ([], [])
/-- the model's half; every variable stands for itself -/
noncomputable def rasy (K : sK) (Z : sH) (C : sC) (F : sFs) (I : sI) (s s1 : sS) : Option (sFs × sI × sS) := match sat1 C.1.2.1 s with
  | some q => if fholdE F ([], []) C.2.2.2.1 && ((teqsX F C.2.1.2 q.1 && C.2.1.2.all scl) && (fpok K F ([], []) Z s.2.2.2.1 C.2.2.1.2 && (ihold F I ([], []) C.2.2.2.2.2.2.2.1 && (Nat.ble C.1.2.2 s.2.2.1 && (fvlt 65536 F && (ivlt 65536 I && ((s.1 :: s.2.1).all (vltF 65536) && ((s1.1 :: s1.2.1).all (vltF 65536) && (hall (vltE 65536) 9 s.2.2.2.1.1 && (hall (vltE 65536) 9 s1.2.2.2.1.1 && (fpnew 65536 F (sg6 C) Z C.2.2.1.2 && (C.2.2.2.2.2.1.2.all (fun t => scl t && vlt 65536 t) && (q.2.1.all (vlt 65536) && (fgd (sg6 C) 65536 C.2.2.2.2.2.2.1 && igd (sg6 C) 65536 C.2.2.2.2.2.2.2.2)))))))))))))) then
      some (fsubs (sg6 C) C.2.2.2.2.2.2.1 ++ F, isubs (sg6 C) C.2.2.2.2.2.2.2.2 ++ I, sback s q (C.2.2.2.2.2.1.2.map (ssub (sg6 C))) (hupd F (sg6 C) Z s.2.2.2.1 C.2.2.1.2)) else none
  | none => none
/-- the class's half -/
noncomputable def rpend (K : sK) (Z : sH) (C : sC) (F : sFs) (s : sS) : Option sS := match sat1 C.1.1 s with
  | some q => if (teqsX F C.2.1.1 q.1 && C.2.1.1.all scl) && (fpok K F ([], []) Z s.2.2.2.1 C.2.2.1.1 && (Nat.ble C.1.2.2 s.2.2.1 && ((s.1 :: s.2.1).all (vltF 3276800) && (hall (vltE 3276800) 9 s.2.2.2.1.1 && (fpnew 3276800 F (sg6 C) Z C.2.2.1.1 && (C.2.2.2.2.2.1.1.all (fun t => scl t && vlt 3276800 t) && q.2.1.all (vlt 3276800))))))) then
      some (sback s q (C.2.2.2.2.2.1.1.map (ssub (sg6 C))) (hupd F (sg6 C) Z s.2.2.2.1 C.2.2.1.1)) else none
  | none => none
/-- what is asked of the contract once and for all -/
noncomputable def casy (Z : sH) (C : sC) : Bool := cgood 65536 C && (C.2.2.2.2.1.1.all (fun i => Nat.blt i 65536) && (C.2.2.2.2.1.2.all (fun i => Nat.blt i 65536) && (hall (vltE 65536) 9 (foot Z C.2.2.1.1).1 && (C.2.1.1.all (fun t => vlt 65536 t) && C.2.2.2.2.2.1.1.all (fun t => vlt 65536 t)))))
/-- the class's half is to come -/
noncomputable def PEND (X : pX) (Z : sH) (C : sC) (ρ : sR) : Prop := ∃ ρp : sR, (∀ i, i < 65536 → (i ∈ C.2.2.2.2.1.1 → ρ.1 (i + 65536) = ρp.1 i ∧ ρ.2.1 (i + 65536) = ρp.2.1 i) ∧ (i ∉ C.2.2.2.2.1.1 → ρ.1 i = ρp.1 i ∧ ρ.2.1 i = ρp.2.1 i)) ∧ (∀ a, a < 65536 → (a ∈ C.2.2.2.2.1.2 → ρ.2.2.1 (a + 65536) = ρp.2.2.1 a ∧ ρ.2.2.2.1 (a + 65536) = ρp.2.2.2.1 a) ∧ (a ∉ C.2.2.2.2.1.2 → ∀ j, bden X ρ (.arg a) j = bden X ρp (.arg a) j)) ∧ ∀ (B : pB) (G : pH), HR X (rwB ρ B) (foot Z C.2.2.1.1) G → ∃ G' : pH, CALL X pF pdfl mt_all C.1.2.2 C.1.1 (dS X ρ C.2.1.1) G B.2.2 (.inl (C.2.2.2.2.2.1.1.map (sv X ρp)), G', B.2.2) ∧ HR X (rwB ρp B) (foot Z C.2.2.1.1) G'
section ASY
variable {X : pX} {K : sK} {ρ : sR}
theorem rsub_id : rsub X ρ ([], []) = ρ := rfl
theorem sMok_id : sMok K ([], []) = true := rfl
theorem agr_rfl {n : Nat} : agr n ρ ρ := ⟨fun _ _ => ⟨rfl, rfl⟩, fun _ _ => ⟨rfl, rfl⟩⟩
theorem agr_le {n m : Nat} {ρ1 ρ2 : sR} (h : m ≤ n) (ha : agr n ρ1 ρ2) : agr m ρ1 ρ2 := ⟨fun i hi => ha.1 i (by omega), fun a hi => ha.2 a (by omega)⟩
theorem dS_vlt {n : Nat} {ρ1 ρ2 : sR} (ha : agr n ρ1 ρ2) {l : List sT} (h : l.all (fun t => vlt n t) = true) : dS X ρ1 l = dS X ρ2 l := by
  unfold dS
  exact List.map_congr_left (fun t ht => vlt_v ha (List.all_eq_true.mp h t ht))
theorem bden_agr {n a : Nat} {ρ1 ρ2 : sR} (ha : agr n ρ1 ρ2) (h : a < n) (j : Nat) : bden X ρ1 (.arg a) j = bden X ρ2 (.arg a) j := by
  obtain ⟨e1, e2⟩ := ha.2 a h
  simp only [bden, e1, e2]
theorem PEND_agr {Z : sH} {C : sC} (hc : casy Z C = true) {n : Nat} (hn : 131072 ≤ n) {ρ2 : sR} (ha : agr n ρ2 ρ) (h : PEND X Z C ρ) : PEND X Z C ρ2 := by
  simp only [casy, Bool.and_eq_true] at hc
  obtain ⟨-, -, -, c4, c5, -⟩ := hc
  obtain ⟨ρp, h1, h2, h3⟩ := h
  refine ⟨ρp, fun i hi => ⟨fun hm => ?_, fun hm => ?_⟩, fun a hi => ⟨fun hm => ?_, fun hm j => ?_⟩, fun B G hR => ?_⟩
  · obtain ⟨e1, e2⟩ := ha.1 (i + 65536) (by omega)
    rw [e1, e2]
    exact (h1 i hi).1 hm
  · obtain ⟨e1, e2⟩ := ha.1 i (by omega)
    rw [e1, e2]
    exact (h1 i hi).2 hm
  · obtain ⟨e1, e2⟩ := ha.2 (a + 65536) (by omega)
    rw [e1, e2]
    exact (h2 a hi).1 hm
  · rw [bden_agr ha (by omega) j]
    exact (h2 a hi).2 hm j
  · have a6 : agr 65536 ρ2 ρ := agr_le (by omega) ha
    obtain ⟨G', g1, g2⟩ := h3 B G (HR_agr a6 c4 hR)
    refine ⟨G', ?_, g2⟩
    rw [dS_vlt a6 c5]
    exact g1
theorem sg6_kind {C : sC} : ∀ i u, sfnd (sg6 C) i = some u → sk u = i % 2 := sfnd_kind (K := kR) (σ := ([], [])) (off := 65536) (by decide) rfl
/-- the model's half -/
theorem rasy_ok (hx : K.2.2.2 = false) (hk0 : ∀ a l, K.2.2.1 a = some l → a < 1000) {Z : sH} {C : sC} (hC : SREL X pF pdfl mt_all K Z C) (hcs : casy Z C = true) (hK : kok X ρ K) {F F' : sFs} {I I' : sI} (hF : fok X ρ F) (hI : iok X ρ I) {s s' s1 : sS} (h : rasy K Z C F I s s1 = some (F', I', s')) : ∃ ρ'' : sR, agr 65536 ρ'' ρ ∧ kok X ρ'' K ∧ fok X ρ'' F' ∧ iok X ρ'' I' ∧ PEND X Z C ρ'' ∧ (∀ (d : Nat) (Q : pB → List Value → pH → Nat → Prop), GPh X pF pdfl mt_all d Q ρ'' s' → GPh X pF pdfl mt_all d Q ρ s) ∧ ∀ (d : Nat) (Q : pB → List Value → pH → Nat → Prop), GPh X pF pdfl mt_all d Q ρ'' s1 → GPh X pF pdfl mt_all d Q ρ s1 := by
  have hcs' := hcs
  simp only [casy, Bool.and_eq_true] at hcs'
  obtain ⟨hgood, m1, m2, m3, m4, m5⟩ := hcs'
  unfold rasy at h
  split at h
  · next qc hqc =>
    split at h
    · next hc =>
      cases h
      simp only [Bool.and_eq_true] at hc
      obtain ⟨c2, ⟨c3, c5⟩, c7, c9, c10, c13, c14, c15, c16, c17, c18, c19, c21, c23, c25, c26⟩ := hc
      simp only [cgood, Bool.and_eq_true] at hgood
      obtain ⟨-, g2, g3⟩ := hgood
      have hpre : fok X ρ C.2.2.2.1 := by
        have := fholdE_ok (K := K) (σ := ([], [])) hF sMok_id c2
        exact this
      have hpi : iok X ρ C.2.2.2.2.2.2.2.1 := by
        have := ihold_ok (K := K) (σ := ([], [])) hF hI sMok_id c9
        exact this
      obtain ⟨ρ', ⟨f1, f2⟩, hpost, hiv', hc1, hc2⟩ := hC ρ hK hpre hpi
      have hag : agr 65536 (rnew 65536 ρ ρ') ρ := rnew_agr
      have hrep : REP X 65536 ρ' (rnew 65536 ρ ρ') (sg6 C) := REP_new (K := K) (σ := ([], [])) (by decide) g2 g3 sMok_id rfl f1 f2
      have hF'' : fok X (rnew 65536 ρ ρ') F := ⟨rnew_vok (by decide) hF.1 hpost.1, fall_agr hag c13 hF.2⟩
      have hFn : fok X (rnew 65536 ρ ρ') (fsubs (sg6 C) C.2.2.2.2.2.2.1 ++ F) := ⟨hF''.1, fun f hf => by
        rcases List.mem_append.mp hf with q | q
        · exact (REP_f hrep sg6_kind c25).mpr hpost.2 f q
        · exact hF''.2 f q⟩
      have hIn : iok X (rnew 65536 ρ ρ') (isubs (sg6 C) C.2.2.2.2.2.2.2.2 ++ I) := fun c hc => by
        rcases List.mem_append.mp hc with q | q
        · exact REP_i hrep sg6_kind c26 hiv' c q
        · exact iok_agr hag c14 hI c q
      have hKn : kok X (rnew 65536 ρ ρ') K := ⟨hK.1, hK.2.1, fun a l hl j => (by
        have h9 : ¬ 65536 + 1000 ≤ a := by have := hk0 a l hl; omega
        have e1 : (rnew 65536 ρ ρ').2.2.1 a = ρ.2.2.1 a := by simp only [rnew, if_neg h9]
        have e2 : (rnew 65536 ρ ρ').2.2.2.1 a = ρ.2.2.2.1 a := by simp only [rnew, if_neg h9]
        rw [e1, e2]
        exact hK.2.2.1 a l hl j), fun h9 => (by rw [hx] at h9; cases h9)⟩
      refine ⟨_, hag, hKn, hFn, hIn, ⟨ρ', fun i hi => ⟨fun hm => ?_, fun hm => ?_⟩, fun a hi => ⟨fun hm => ?_, fun hm j => ?_⟩, fun B G hR => ?_⟩, fun d Q j2 => ?_, fun d Q j3 => GPh_agr hag c16 c18 j3⟩
      · have h1 : 1000 ≤ i := Nat.le_of_ble_eq_true (List.all_eq_true.mp g2 i hm)
        have h3 : 65536 + 1000 ≤ i + 65536 := by omega
        simp only [rnew, if_pos h3, Nat.add_sub_cancel, and_self]
      · obtain ⟨e1, e2⟩ := hag.1 i hi
        rw [e1, e2]
        exact ⟨(f1 i hm).1.symm, (f1 i hm).2.symm⟩
      · have h1 : 1000 ≤ a := Nat.le_of_ble_eq_true (List.all_eq_true.mp g3 a hm)
        have h3 : 65536 + 1000 ≤ a + 65536 := by omega
        simp only [rnew, if_pos h3, Nat.add_sub_cancel, and_self]
      · rw [bden_agr hag hi j]
        exact (f2 a hm j).symm
      · obtain ⟨G', q1, q2⟩ := hc1 B G (HR_agr hag m3 hR)
        refine ⟨G', ?_, q2⟩
        rw [dS_vlt hag m4]
        exact q1
      · refine rhalf (σ := ([], [])) (a0 := C.2.1.2) hqc hF'' hag hrep sg6_kind c15 c23 c17 c19 (Nat.le_of_ble_eq_true c10) c21 (fun B G hR => HR_fp hF hK sMok_id c7 hR _) ?_ hc2 j2
        unfold dS
        exact (teqsX_ok (X := X) (ρ := ρ) hF c3).symm
    · cases h
  · cases h
theorem rasy_dom {Z : sH} {C : sC} {F F' : sFs} {I I' : sI} {s s' s1 : sS} (h : rasy K Z C F I s s1 = some (F', I', s')) {l1 : sH} (h1 : kdom l1 s.2.2.2.1) : kdom l1 s'.2.2.2.1 := by
  unfold rasy at h
  split at h
  · next qc hqc =>
    split at h
    · next hc =>
      cases h
      simp only [Bool.and_eq_true] at hc
      obtain ⟨-, -, c7, -⟩ := hc
      exact kdom_upd h1 c7
    · cases h
  · cases h
/-- the class's half -/
theorem rpend_ok {Z : sH} {C : sC} (hcs : casy Z C = true) (hP : PEND X Z C ρ) (hK : kok X ρ K) {F : sFs} (hF : fok X ρ F) {s s' : sS} (h : rpend K Z C F s = some s') {d : Nat} {Q : pB → List Value → pH → Nat → Prop} (hg : GPh X pF pdfl mt_all d Q ρ s') : GPh X pF pdfl mt_all d Q ρ s := by
  simp only [casy, Bool.and_eq_true] at hcs
  obtain ⟨hgood, m1, m2, m3, m4, m5⟩ := hcs
  obtain ⟨ρp, h1, h2, h3⟩ := hP
  unfold rpend at h
  split at h
  · next qc hqc =>
    split at h
    · next hc =>
      cases h
      simp only [Bool.and_eq_true] at hc
      obtain ⟨⟨c3, c5⟩, c7, c10, c15, c17, c19, c21, c23⟩ := hc
      have ha : agr 65536 (rmix 65536 ρp ρ) ρp := rmix_agr
      have lm : ∀ i, i ∈ C.2.2.2.2.1.1 → i < 65536 := fun i hi => Nat.blt_eq.mp (List.all_eq_true.mp m1 i hi)
      have la : ∀ i, i ∈ C.2.2.2.2.1.2 → i < 65536 := fun i hi => Nat.blt_eq.mp (List.all_eq_true.mp m2 i hi)
      have hrep : REP X 3276800 (rmix 65536 ρp ρ) ρ (sg6 C) := by
        constructor
        · intro i hi
          show sd X ρ (match sfnd (sg6 C) i with
            | some u => u
            | none => .arg i) = _
          unfold sg6
          rw [sfnd_sig2]
          by_cases hm : i ∈ C.2.2.2.2.1.1
          · rw [if_pos hm]
            obtain ⟨e1, e2⟩ := (h1 i (lm i hm)).1 hm
            show (ρ.1 (i + 65536), ρ.2.1 (i + 65536)) = _
            rw [e1, e2]
            simp only [rmix, if_pos (lm i hm)]
          · rw [if_neg hm]
            show (ρ.1 i, ρ.2.1 i) = _
            by_cases h6 : i < 65536
            · obtain ⟨e1, e2⟩ := (h1 i h6).2 hm
              rw [e1, e2]
              simp only [rmix, if_pos h6]
            · simp only [rmix, if_neg h6]
        · intro a hl j
          unfold aval sg6
          rw [afnd_sig2]
          by_cases hm : a ∈ C.2.2.2.2.1.2
          · rw [if_pos hm]
            obtain ⟨e1, e2⟩ := (h2 a (la a hm)).1 hm
            have h5 : (a + 65536) % 2 = a % 2 := by omega
            simp only [aden, bden, rmix, if_pos (la a hm), h5, e1, e2]
          · rw [if_neg hm]
            show bden X ρ (.arg a) j = _
            by_cases h6 : a < 65536
            · rw [(h2 a h6).2 hm j]
              simp only [bden, rmix, if_pos h6]
            · simp only [bden, rmix, if_neg h6]
      refine rhalf (σ := ([], [])) (a0 := C.2.1.1) hqc hF agr_rfl hrep sg6_kind c15 c23 c17 c19 (Nat.le_of_ble_eq_true c10) c21 (fun B G hR => HR_fp hF hK sMok_id c7 hR _) ?_ (fun B G hR => ?_) hg
      · unfold dS
        exact (teqsX_ok (X := X) (ρ := ρ) hF c3).symm
      · obtain ⟨G', q1, q2⟩ := h3 B G hR
        refine ⟨G', ?_, HR_agr (agr_symm ha) m3 q2⟩
        have e : C.2.2.2.2.2.1.1.map (sv X (rmix 65536 ρp ρ)) = C.2.2.2.2.2.1.1.map (sv X ρp) := by
          cases hv : C.2.2.2.2.2.1.1 with
          | none => rfl
          | some t =>
            rw [hv] at m5
            show some _ = some _
            rw [vlt_v ha m5]
        rw [e]
        exact q1
    · cases h
  · cases h
theorem rpend_dom {Z : sH} {C : sC} {F : sFs} {s s' : sS} (h : rpend K Z C F s = some s') {l1 : sH} (h1 : kdom l1 s.2.2.2.1) : kdom l1 s'.2.2.2.1 := by
  unfold rpend at h
  split at h
  · next qc hqc =>
    split at h
    · next hc =>
      cases h
      simp only [Bool.and_eq_true] at hc
      exact kdom_upd h1 hc.2.1
    · cases h
  · cases h
/-- a run in which the model's half comes first; where the class stands at its call (and the model at st2), the class's half, and on -/
noncomputable def aleaf (K : sK) (Zb : sH) (Cb : sC) (Cs : List (sH × sC)) (st1 st2 : List (Nat × Nat)) (leaf : sFs → sI → sS → sS → Bool) (n : Nat) (F : sFs) (I : sI) (s1 s2 : sS) : Bool := match rpend K Zb Cb F s1 with
  | some s' => frun K Cs st1 st2 leaf n 3276800 F I s' s2
  | none => false
noncomputable def abody (K : sK) (Zb : sH) (Cb : sC) (Cs Cs2 : List (sH × sC)) (st1 st2 st1' st2' : List (Nat × Nat)) (leaf : sFs → sI → sS → sS → Bool) (n n2 : Nat) (F0 : sFs) (iv0 : sI) (p1 p2 : sS) : Bool := match rasy K Zb Cb (isatP F0 iv0) iv0 p2 p1 with
  | some r => frun K Cs st1 st2 (aleaf K Zb Cb Cs2 st1' st2' leaf n2) n 131072 (isatP r.1 r.2.1) r.2.1 p1 r.2.2
  | none => false
theorem CUT_async (hx : K.2.2.2 = false) (hk0 : ∀ a l, K.2.2.1 a = some l → a < 1000) {Z Zb : sH} {Cb : sC} (hCb : SREL X pF pdfl mt_all K Zb Cb) (hcs : casy Zb Cb = true) {Cs Cs2 : List (sH × sC)} (hCs : ∀ C ∈ Cs, SREL X pF pdfl mt_all K C.1 C.2) (hCs2 : ∀ C ∈ Cs2, SREL X pF pdfl mt_all K C.1 C.2) {C : sC} {d : Nat} (hfine : cfine Z 65536 C = true) {Q : List sCut} {ρ0 : sR} (hv0 : vok X ρ0) (hQ : ∀ q ∈ Q, CUTOK X K Z C d ρ0 q) {st1 st2 : List (Nat × Nat)} (n n2 : Nat) {q : sCut} (h : abody K Zb Cb Cs Cs2 st1 st2 (cpl1 Z C Q) (cpl2 Z C Q) (cleaf K Z C Q) n n2 q.2.2.1 q.2.2.2 (cst Z C.2.2.1.1 q.1) (cst Z C.2.2.1.2 q.2.1) = true) : CUTOK X K Z C d ρ0 q := by
  intro ρ1 k1 k2 k3 k4
  unfold abody at h
  split at h
  · next r hr =>
    obtain ⟨F', I', s2'⟩ := r
    obtain ⟨ρ2, a1, a2, a3, a4, a5, a6, a7⟩ := rasy_ok hx hk0 hCb hcs k1 (isatP_ok k2 k3) k3 hr
    have hr2 : RelP X pF pdfl mt_all (d + 1) (d + 1) (foot Z C.2.2.1.1) (foot Z C.2.2.1.2) (cJ X C ρ0) ρ2 (cst Z C.2.2.1.1 q.1) s2' := frun_ok (n0 := 131072) (l1 := foot Z C.2.2.1.1) (l2 := foot Z C.2.2.1.2) (A := fun ρ3 => agrM 65536 C.2.2.2.2.1.1 C.2.2.2.2.1.2 ρ3 ρ0 ∧ PEND X Zb Cb ρ3) hx hk0 hCs (fun off ρ3 ρ4 h1 h2 h3 => ⟨agrM_new (by omega) h2 h3.1, PEND_agr hcs h1 h2 h3.2⟩) (fun ρ3 F I s1 s2 q1 q2 q3 q4 g1 g2 q5 => by
      unfold aleaf at q5
      split at q5
      · next s' hs =>
        have hr3 : RelP X pF pdfl mt_all (d + 1) (d + 1) (foot Z C.2.2.1.1) (foot Z C.2.2.1.2) (cJ X C ρ0) ρ3 s' s2 := frun_ok (n0 := 3276800) (l1 := foot Z C.2.2.1.1) (l2 := foot Z C.2.2.1.2) (A := fun ρ5 => agrM 65536 C.2.2.2.2.1.1 C.2.2.2.2.1.2 ρ5 ρ0) hx hk0 hCs2 (fun off ρ5 ρ6 h1 h2 h3 => agrM_new (by omega) h2 h3) (fun ρ5 F I s1 s2 r1 r2 r3 r4 e1 e2 r5 => cleaf_ok hx hfine hv0 hQ r1 r2 r3 r4 e1 e2 r5) n2 3276800 F I s' s2 ρ3 (Nat.le_refl _) q5 q1 q2 q3 q4.1 (rpend_dom hs g1) g2
        obtain ⟨ρe, vc, vm, j1, j2, j3⟩ := hr3
        exact ⟨ρe, vc, vm, j1, rpend_ok hcs q4.2 q1 q2 hs j2, j3⟩
      · cases q5) n 131072 _ I' _ s2' ρ2 (Nat.le_refl _) h a2 (isatP_ok a3 a4) a4 ⟨agrM_new (Nat.le_refl _) a1 k4, a5⟩ (kdom_foot _ _) (rasy_dom hr (kdom_foot _ _))
    obtain ⟨ρe, vc, vm, j1, j2, j3⟩ := hr2
    exact ⟨ρe, vc, vm, j1, a7 _ _ j2, a6 _ _ j3⟩
  · cases h
end ASY
