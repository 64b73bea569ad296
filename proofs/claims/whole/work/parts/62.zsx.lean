/-! ===== contracts of one side alone ===== -/
/-- 1: of the class alone (the other side is isFault(0)); 2: of the model alone (the other side is abs(0)) -/
noncomputable def isone (C : sC) : Nat := bif Nat.beq C.1.2.1 284 && (C.2.2.1.2.isEmpty && (match C.2.1.2 with
  | [.int 0] => true
  | _ => false)) then 1 else bif Nat.beq C.1.1 425 && (C.2.2.1.1.isEmpty && (match C.2.1.1 with
  | [.long 0] => true
  | _ => false)) then 2 else 0
/-- a number that a register's condition speaks of is looked up -/
noncomputable def slogN (F F0 : sFs) (σ : sM) : sM := F0.foldl (fun σ f => match f with
  | ((104, .add (.arg v) y, z), true) => bif Nat.ble 60000 v && (Nat.blt v 65536 && (sfnd σ v).isNone) then (match F.find? (fun g => g.2 && (Nat.beq g.1.1 104 && (tqe g.1.2.2 (ssubE σ z) && (match g.1.2.1 with
      | .add _ w => tqe w (ssubE σ y)
      | _ => false)))) with
    | some ((_, .add x _, _), _) => ((v, x) :: σ.1, σ.2)
    | _ => σ) else σ
  | ((k, x, .arg v), true) => bif Nat.ble 105 k && (Nat.ble 60000 v && (Nat.blt v 65536 && (sfnd σ v).isNone)) then (match F.find? (fun g => g.2 && (Nat.beq g.1.1 k && tqe g.1.2.1 (ssubE σ x))) with
    | some g => ((v, g.1.2.2) :: σ.1, σ.2)
    | none => σ) else σ
  | _ => σ) σ
/-- such a contract used; s2 is the other side -/
noncomputable def rcore (K : sK) (Z : sH) (C : sC) (off : Nat) (F : sFs) (I : sI) (y : Nat) (as : List sT) (l : List Nat) (v : Option sT) (s s2 : sS) : Option (sFs × sI × sS) := match sat1 y s with
  | some q => (
    let σ := slogN F C.2.2.2.1 (slog C.2.2.2.1 (smK Z s.2.2.2.1 (smL ([], []) as q.1) l))
    let σ2 := sig2 off C.2.2.2.2.1.1 C.2.2.2.2.1.2 σ
    if sMok K σ && (fholdE F σ C.2.2.2.1 && ((teqsX F (as.map (ssub σ)) q.1 && as.all scl) && (fpok K F σ Z s.2.2.2.1 l && (ihold F I σ C.2.2.2.2.2.2.2.1 && (Nat.ble C.1.2.2 s.2.2.1 && (vltM off σ && (fvlt off F && (ivlt off I && ((s.1 :: s.2.1).all (vltF off) && ((s2.1 :: s2.2.1).all (vltF off) && (hall (vltE off) 9 s.2.2.2.1.1 && (hall (vltE off) 9 s2.2.2.2.1.1 && (fpnew off F σ2 Z l && (v.all (fun t => scl t && vlt off t) && (q.2.1.all (vlt off) && (fgd σ2 off C.2.2.2.2.2.2.1 && igd σ2 off C.2.2.2.2.2.2.2.2)))))))))))))))) then
      some (fsubs σ2 C.2.2.2.2.2.2.1 ++ F, isubs σ2 C.2.2.2.2.2.2.2.2 ++ I, sback s q (v.map (ssub σ2)) (hupd F σ2 Z s.2.2.2.1 l))
    else none)
  | none => none
noncomputable def rone (K : sK) (off : Nat) (F : sFs) (I : sI) (s1 s2 : sS) : List (sH × sC) → Option (sFs × sI × sS × sS)
  | [] => none
  | C :: Cs => match (bif Nat.beq (isone C.2) 1 && cstop [C.2.1.1] s1 then (if cgood off C.2 then (match rcore K C.1 C.2 off F I C.2.1.1 C.2.2.1.1 C.2.2.2.1.1 C.2.2.2.2.2.2.1.1 s1 s2 with
      | some r => some (r.1, r.2.1, r.2.2, s2)
      | none => none) else none)
    else bif Nat.beq (isone C.2) 2 && cstop [C.2.1.2.1] s2 then (if cgood off C.2 then (match rcore K C.1 C.2 off F I C.2.1.2.1 C.2.2.1.2 C.2.2.2.1.2 C.2.2.2.2.2.2.1.2 s2 s1 with
      | some r => some (r.1, r.2.1, s1, r.2.2)
      | none => none) else none) else none) with
    | some r => some r
    | none => rone K off F I s1 s2 Cs
section ONE
variable {X : pX} {Ft : Nat → Nat → FieldType} {dfl : Nat → Nat × List Value} {Mt : List pM} {K : sK} {ρ : sR} {off : Nat}
theorem GPh_agr {ρ'' : sR} (hag : agr off ρ'' ρ) {s : sS} (hfr : (s.1 :: s.2.1).all (vltF off) = true) (hh : hall (vltE off) 9 s.2.2.2.1.1 = true) {d : Nat} {Q : pB → List Value → pH → Nat → Prop} (hg : GPh X Ft dfl Mt d Q ρ'' s) : GPh X Ft dfl Mt d Q ρ s := by
  intro B G hR
  have hR'' := HR_agr (X := X) (agr_symm hag) hh hR
  have hgg := hg B G hR''
  simp only [List.all_cons, Bool.and_eq_true] at hfr
  have e := KK_agr (X := X) (Ft := Ft) (dfl := dfl) (Mt := Mt) (P := PQ (Q B)) (lw := (0, [], d)) (n := off) (ρ1 := rwB ρ'' B) (ρ2 := rwB ρ B) hag s.2.1 (s.2.2.1 + 1) hfr.2
  obtain ⟨e1, e2⟩ := vltF_d (X := X) hag hfr.1
  unfold GG at hgg ⊢
  rw [dL_B, dS_B] at hgg ⊢
  rw [e1, e2, e] at hgg
  exact hgg
theorem rcore_ok (hx : K.2.2.2 = false) (hk0 : ∀ a l, K.2.2.1 a = some l → a < 1000) {Z : sH} {C : sC} {y : Nat} {as : List sT} {l : List Nat} {v : Option sT} (hC : ∀ ρ : sR, kok X ρ K → fok X ρ C.2.2.2.1 → iok X ρ C.2.2.2.2.2.2.2.1 → ∃ ρ' : sR, ((∀ i, i ∉ C.2.2.2.2.1.1 → ρ'.1 i = ρ.1 i ∧ ρ'.2.1 i = ρ.2.1 i) ∧ ∀ a, a ∉ C.2.2.2.2.1.2 → ∀ j, bden X ρ' (.arg a) j = bden X ρ (.arg a) j) ∧ fok X ρ' C.2.2.2.2.2.2.1 ∧ iok X ρ' C.2.2.2.2.2.2.2.2 ∧ (∀ (B : pB) (G : pH), HR X (rwB ρ B) (foot Z l) G → ∃ G' : pH, CALL X Ft dfl Mt C.1.2.2 y (dS X ρ as) G B.2.2 (.inl (v.map (sv X ρ')), G', B.2.2) ∧ HR X (rwB ρ' B) (foot Z l) G')) (hgood : cgood off C = true) (hK : kok X ρ K) {F F' : sFs} {I I' : sI} (hF : fok X ρ F) (hI : iok X ρ I) {s s' s2 : sS} (h : rcore K Z C off F I y as l v s s2 = some (F', I', s')) : ∃ ρ'' : sR, agr off ρ'' ρ ∧ kok X ρ'' K ∧ fok X ρ'' F' ∧ iok X ρ'' I' ∧ (∀ (d : Nat) (Q : pB → List Value → pH → Nat → Prop), GPh X Ft dfl Mt d Q ρ'' s' → GPh X Ft dfl Mt d Q ρ s) ∧ ∀ (d : Nat) (Q : pB → List Value → pH → Nat → Prop), GPh X Ft dfl Mt d Q ρ'' s2 → GPh X Ft dfl Mt d Q ρ s2 := by
  unfold rcore at h
  split at h
  · next qc hqc =>
    simp only at h
    generalize hσ : slogN F C.2.2.2.1 (slog C.2.2.2.1 (smK Z s.2.2.2.1 (smL ([], []) as qc.1) l)) = σ at h
    split at h
    · next hc =>
      cases h
      simp only [Bool.and_eq_true] at hc
      obtain ⟨c1, c2, ⟨c3, c5⟩, c7, c9, c10, c12, c13, c14, c15, c16, c17, c18, c19, c21, c23, c25, c26⟩ := hc
      simp only [cgood, Bool.and_eq_true] at hgood
      obtain ⟨g1, g2, g3⟩ := hgood
      have h32 : off % 32 = 0 := Nat.eq_of_beq_eq_true g1
      have h2 : off % 2 = 0 := by omega
      have hpre := fholdE_ok hF c1 c2
      obtain ⟨ρ', ⟨f1, f2⟩, hpost, hiv', hc1⟩ := hC (rsub X ρ σ) (kok_sub hK c1) hpre (ihold_ok hF hI c1 c9)
      have hag : agr off (rnew off ρ ρ') ρ := rnew_agr
      have hrep : REP X off ρ' (rnew off ρ ρ') (sig2 off C.2.2.2.2.1.1 C.2.2.2.2.1.2 σ) := REP_new h2 g2 g3 c1 c12 f1 f2
      have hkind := sfnd_kind (σ := σ) (mods := C.2.2.2.2.1.1) (moda := C.2.2.2.2.1.2) h2 c1
      have hF'' : fok X (rnew off ρ ρ') F := ⟨rnew_vok h32 hF.1 hpost.1, fall_agr hag c13 hF.2⟩
      have hFn : fok X (rnew off ρ ρ') (fsubs (sig2 off C.2.2.2.2.1.1 C.2.2.2.2.1.2 σ) C.2.2.2.2.2.2.1 ++ F) := ⟨hF''.1, fun f hf => by
        rcases List.mem_append.mp hf with q | q
        · exact (REP_f hrep hkind c25).mpr hpost.2 f q
        · exact hF''.2 f q⟩
      have hIn : iok X (rnew off ρ ρ') (isubs (sig2 off C.2.2.2.2.1.1 C.2.2.2.2.1.2 σ) C.2.2.2.2.2.2.2.2 ++ I) := fun c hc => by
        rcases List.mem_append.mp hc with q | q
        · exact REP_i hrep hkind c26 hiv' c q
        · exact iok_agr hag c14 hI c q
      have hKn : kok X (rnew off ρ ρ') K := ⟨hK.1, hK.2.1, fun a l hl j => (by
        have h9 : ¬ off + 1000 ≤ a := by have := hk0 a l hl; omega
        have e1 : (rnew off ρ ρ').2.2.1 a = ρ.2.2.1 a := by simp only [rnew, if_neg h9]
        have e2 : (rnew off ρ ρ').2.2.2.1 a = ρ.2.2.2.1 a := by simp only [rnew, if_neg h9]
        rw [e1, e2]
        exact hK.2.2.1 a l hl j), fun h9 => (by rw [hx] at h9; cases h9)⟩
      refine ⟨_, hag, hKn, hFn, hIn, fun d Q j2 => ?_, fun d Q j3 => GPh_agr hag c16 c18 j3⟩
      refine rhalf (σ := σ) (a0 := as) hqc hF'' hag hrep hkind c15 c23 c17 c19 (Nat.le_of_ble_eq_true c10) c21 (fun B G hR => HR_fp hF hK c1 c7 hR _) ?_ hc1 j2
      have e1 := teqsX_ok (X := X) (ρ := ρ) hF c3
      have e2 := slsub_v (X := X) (ρ := ρ) c1 c5
      unfold dS slsub at e2
      unfold dS
      rw [← e1]
      exact e2
    · cases h
  · cases h
theorem rcore_dom {Z : sH} {C : sC} {F F' : sFs} {I I' : sI} {y : Nat} {as : List sT} {l : List Nat} {v : Option sT} {s s' s2 : sS} (h : rcore K Z C off F I y as l v s s2 = some (F', I', s')) {l1 : sH} (h1 : kdom l1 s.2.2.2.1) : kdom l1 s'.2.2.2.1 := by
  unfold rcore at h
  split at h
  · next qc hqc =>
    simp only at h
    split at h
    · next hc =>
      cases h
      simp only [Bool.and_eq_true] at hc
      obtain ⟨c1, c2, -, c7, -⟩ := hc
      exact kdom_upd h1 c7
    · cases h
  · cases h
variable {dc dm : Nat} {Zc Zm : sH} {J : sR → List Value → List Value → Prop}
theorem rone_ok (hx : K.2.2.2 = false) (hk0 : ∀ a l, K.2.2.1 a = some l → a < 1000) (hK : kok X ρ K) {F F' : sFs} {I I' : sI} (hF : fok X ρ F) (hI : iok X ρ I) {s1 s2 s1' s2' : sS} : ∀ Cs : List (sH × sC), (∀ C ∈ Cs, SREL X Ft dfl Mt K C.1 C.2) → rone K off F I s1 s2 Cs = some (F', I', s1', s2') → (∀ ρ'' : sR, agr off ρ'' ρ → kok X ρ'' K → fok X ρ'' F' → iok X ρ'' I' → RelP X Ft dfl Mt dc dm Zc Zm J ρ'' s1' s2') → RelP X Ft dfl Mt dc dm Zc Zm J ρ s1 s2
  | [], _, h, _ => by cases h
  | C :: Cs, hCs, h, hg => by
    have hC := hCs C List.mem_cons_self
    unfold rone at h
    split at h
    · next r hr =>
      cases h
      cases h1 : Nat.beq (isone C.2) 1 && cstop [C.2.1.1] s1 with
      | true =>
        rw [h1] at hr
        dsimp only [cond_true] at hr
        split at hr
        · next hgood =>
          split at hr
          · next r hr2 =>
            obtain ⟨A1, A2, A3⟩ := r
            cases hr
            obtain ⟨ρ'', a1, a2, a3, a4, a5, a6⟩ := rcore_ok hx hk0 (fun ρ k1 k2 k3 => by
              obtain ⟨ρ', b1, b2, b3, b4, b5⟩ := hC ρ k1 k2 k3
              exact ⟨ρ', b1, b2, b3, b4⟩) hgood hK hF hI hr2
            obtain ⟨ρ3, vc, vm, j1, j2, j3⟩ := hg ρ'' a1 a2 a3 a4
            exact ⟨ρ3, vc, vm, j1, a5 _ _ j2, a6 _ _ j3⟩
          · cases hr
        · cases hr
      | false =>
        rw [h1] at hr
        dsimp only [cond_false] at hr
        cases h2 : Nat.beq (isone C.2) 2 && cstop [C.2.1.2.1] s2 with
        | true =>
          rw [h2] at hr
          dsimp only [cond_true] at hr
          split at hr
          · next hgood =>
            split at hr
            · next r hr2 =>
              obtain ⟨A1, A2, A3⟩ := r
              cases hr
              obtain ⟨ρ'', a1, a2, a3, a4, a5, a6⟩ := rcore_ok hx hk0 (fun ρ k1 k2 k3 => by
                obtain ⟨ρ', b1, b2, b3, b4, b5⟩ := hC ρ k1 k2 k3
                exact ⟨ρ', b1, b2, b3, b5⟩) hgood hK hF hI hr2
              obtain ⟨ρ3, vc, vm, j1, j2, j3⟩ := hg ρ'' a1 a2 a3 a4
              exact ⟨ρ3, vc, vm, j1, a6 _ _ j2, a5 _ _ j3⟩
            · cases hr
          · cases hr
        | false => rw [h2] at hr; cases hr
    · exact rone_ok hx hk0 hK hF hI Cs (fun C' hC' => hCs C' (List.mem_cons_of_mem _ hC')) h hg
theorem rone_dom {F F' : sFs} {I I' : sI} {s1 s2 s1' s2' : sS} {l1 l2 : sH} (d1 : kdom l1 s1.2.2.2.1) (d2 : kdom l2 s2.2.2.2.1) : ∀ Cs : List (sH × sC), rone K off F I s1 s2 Cs = some (F', I', s1', s2') → kdom l1 s1'.2.2.2.1 ∧ kdom l2 s2'.2.2.2.1
  | [], h => by cases h
  | C :: Cs, h => by
    unfold rone at h
    split at h
    · next r hr =>
      cases h
      cases h1 : Nat.beq (isone C.2) 1 && cstop [C.2.1.1] s1 with
      | true =>
        rw [h1] at hr
        dsimp only [cond_true] at hr
        split at hr
        · split at hr
          · next r hr2 =>
            obtain ⟨A1, A2, A3⟩ := r
            cases hr
            exact ⟨rcore_dom hr2 d1, d2⟩
          · cases hr
        · cases hr
      | false =>
        rw [h1] at hr
        dsimp only [cond_false] at hr
        cases h2 : Nat.beq (isone C.2) 2 && cstop [C.2.1.2.1] s2 with
        | true =>
          rw [h2] at hr
          dsimp only [cond_true] at hr
          split at hr
          · split at hr
            · next r hr2 =>
              obtain ⟨A1, A2, A3⟩ := r
              cases hr
              exact ⟨d1, rcore_dom hr2 d2⟩
            · cases hr
          · cases hr
        | false => rw [h2] at hr; cases hr
    · exact rone_dom d1 d2 Cs h
end ONE
