/-! ===== contracts proved by such runs ===== -/
/-- does the run stop here: at its end, or at a call that is made by contract -/
noncomputable def icl (ins : Instr) : Nat := @Jvm.ClassFile.Instr.rec (fun _ => Nat) (0) (0) (0) (fun _ => 0) (fun _ => 0) (fun _ => 0) (0) (0) (fun _ => 0) (fun _ => 0) (0) (0) (0) (fun _ => 0) (0) (0) (fun _ => 0) (0) (0) (0) (0) (0) (0) (fun _ => 0) (fun _ => 0) (0) (fun _ => 0) (fun _ => 0) (0) (0) (0) (0) (fun _ => 0) (fun _ => 0) (0) (0) (0) (0) (0) (0) (0) (0) (0) (0) (0) (0) (0) (fun _ => 0) (fun _ => 0) (0) (fun _ => 0) (fun _ => 0) (0) (0) (0) (0) (fun _ => 0) (fun _ => 0) (0) (fun _ => 0) (fun _ => 0) (fun _ => 0) (fun _ => 0) (0) (0) (0) (0) (0) (0) (0) (0) (0) (0) (fun _ => 0) (0) (fun _ _ => 0) (fun _ _ => 0) (fun _ _ => 0) (fun _ => 0) (fun _ => 0) (fun _ _ => 0) (fun _ => 0) (fun _ => 0) (0) (0) (fun _ => 0) (fun _ => 0) (fun _ _ => 0) (fun _ => 3) (fun _ => 1) (fun _ => 2) (0) (0) (0) (0) (0) (fun _ => 0) (fun _ => 0) (0) (0) (0) (fun _ => 0) (fun _ => 0) (0) (0) (0) (0) (0) (0) (0) (0) (fun _ => 0) (fun _ => 0) (fun _ => 0) (fun _ => 0) (0) (fun _ => 0) (fun _ => 0) (0) (0) (fun _ _ => 0) (0) (0) (0) (0) (0) (fun _ => 0) (fun _ => 0) (0) (0) (0) (0) (0) (fun _ _ => 0) (fun _ => 0) (fun _ => 0) (0) (0) (0) (fun _ => 0) (fun _ => 0) (fun _ => 0) (0) (0) (0) (fun _ => 0) (0) (fun _ _ _ _ => 0) ins
noncomputable def cstop (ids : List Nat) (s : sS) : Bool := match s.1.2.2.2.2.2.1 with
  | [] => true
  | o :: _ => bif Nat.beq (icl o.2.1) 0 then false else (bif Nat.beq (icl o.2.1) 1 then !(decide (o.2.2.2.2.2 = 7)) else (bif Nat.beq (icl o.2.1) 2 then true else decide (o.2.2.2.2.2 = 0))) && ids.any (fun i => Nat.beq o.2.2.2.1 i)
noncomputable def rtry (K : sK) (off : Nat) (F : sFs) (I : sI) (s1 s2 : sS) : List (sH × sC) → Option (sFs × sI × sS × sS)
  | [] => none
  | C :: Cs => match (if cgood off C.2 then rapp K C.1 C.2 off F I s1 s2 else none) with
    | some r => some r
    | none => rtry K off F I s1 s2 Cs
/-- how many frames lie below, and the method's locals -/
noncomputable def sdep (s : sS) : Nat := s.2.1.length + 1000 * s.1.2.1
/-- at one of these places: the instruction's number, and how deep -/
noncomputable def atpc (st : List (Nat × Nat)) (s : sS) : Bool := match s.1.2.2.2.2.2.1 with
  | [] => false
  | o :: _ => st.any (fun q => Nat.beq q.1 o.1 && Nat.beq q.2 (sdep s))
noncomputable def rrun (K : sK) (Cs : List (sH × sC)) (st1 st2 : List (Nat × Nat)) (leaf : sFs → sI → sS → sS → Bool) : Nat → Nat → sFs → sI → sS → sS → Bool
  | 0, _, _, _, _, _ => false
  | n + 1, off, F, I, s1, s2 => if (cstop (Cs.map (fun C => C.2.1.1)) s1 || atpc st1 s1) = false then (match sstepG ysN K F pF pdfl mt_all hlp s1.1 s1.2.1 s1.2.2.1 s1.2.2.2.1 s1.2.2.2.2 with
      | some (.inl s') => rrun K Cs st1 st2 leaf n off F I s' s2
      | some (.inr c) => (match xdecX F c with
        | some b => rrun K Cs st1 st2 leaf n off (isat ((c, b) :: F) I) I s1 s2
        | none => rrun K Cs st1 st2 leaf n off (isat ((c, true) :: F) I) I s1 s2 && rrun K Cs st1 st2 leaf n off (isat ((c, false) :: F) I) I s1 s2)
      | none => scon F)
    else if (cstop (Cs.map (fun C => C.2.1.2.1)) s2 || atpc st2 s2) = false then (match sstepG ysN K F pF pdfl mt_all hlp s2.1 s2.2.1 s2.2.2.1 s2.2.2.2.1 s2.2.2.2.2 with
      | some (.inl s') => rrun K Cs st1 st2 leaf n off F I s1 s'
      | some (.inr c) => (match xdecX F c with
        | some b => rrun K Cs st1 st2 leaf n off (isat ((c, b) :: F) I) I s1 s2
        | none => rrun K Cs st1 st2 leaf n off (isat ((c, true) :: F) I) I s1 s2 && rrun K Cs st1 st2 leaf n off (isat ((c, false) :: F) I) I s1 s2)
      | none => scon F)
    else if leaf F I s1 s2 = true then true else (match rtry K off F I s1 s2 Cs with
      | some r => rrun K Cs st1 st2 leaf n (off + 65536) (isat r.1 r.2.1) r.2.1 r.2.2.1 r.2.2.2
      | none => scon F)
/-- the numbers of ρ1 below n, those of ρ0 above -/
noncomputable def rmix (n : Nat) (ρ1 ρ0 : sR) : sR := (fun i => if i < n then ρ1.1 i else ρ0.1 i, fun i => if i < n then ρ1.2.1 i else ρ0.2.1 i, fun a => if a < n then ρ1.2.2.1 a else ρ0.2.2.1 a, fun a => if a < n then ρ1.2.2.2.1 a else ρ0.2.2.2.1 a, ρ0.2.2.2.2)
section SR
variable {X : pX} {ρ ρ0 ρ1 : sR} {n : Nat}
theorem rmix_agr : agr n (rmix n ρ1 ρ0) ρ1 := by
  constructor
  · intro i hi
    simp only [rmix, if_pos hi, and_self]
  · intro i hi
    simp only [rmix, if_pos hi, and_self]
theorem rmix_vok (h1 : vok X ρ1) (h0 : vok X ρ0) : vok X (rmix n ρ1 ρ0) := by
  constructor
  · intro i r hr
    by_cases hi : i < n
    · have e : sn X (rmix n ρ1 ρ0) (.arg i) = sn X ρ1 (.arg i) := by
        show (if i % 2 = 1 then ((rmix n ρ1 ρ0).2.1 i).toInt else ((rmix n ρ1 ρ0).1 i).toInt) = if i % 2 = 1 then (ρ1.2.1 i).toInt else (ρ1.1 i).toInt
        simp only [rmix, if_pos hi]
      rw [e]
      exact h1.1 i r hr
    · have e : sn X (rmix n ρ1 ρ0) (.arg i) = sn X ρ0 (.arg i) := by
        show (if i % 2 = 1 then ((rmix n ρ1 ρ0).2.1 i).toInt else ((rmix n ρ1 ρ0).1 i).toInt) = if i % 2 = 1 then (ρ0.2.1 i).toInt else (ρ0.1 i).toInt
        simp only [rmix, if_neg hi]
      rw [e]
      exact h0.1 i r hr
  · intro a t r hr
    by_cases hi : a < n
    · have e1 : (rmix n ρ1 ρ0).2.2.1 a = ρ1.2.2.1 a := by simp only [rmix, if_pos hi]
      have e2 : (rmix n ρ1 ρ0).2.2.2.1 a = ρ1.2.2.2.1 a := by simp only [rmix, if_pos hi]
      have e : sn X (rmix n ρ1 ρ0) (.elem (.arg a) t) = sn X ρ1 (.elem (.arg a) (.int (sd X (rmix n ρ1 ρ0) t).1)) := by
        show (if a % 2 = 1 then ((rmix n ρ1 ρ0).2.2.2.1 a (sd X (rmix n ρ1 ρ0) t).1.toNatClampNeg).toInt else ((rmix n ρ1 ρ0).2.2.1 a (sd X (rmix n ρ1 ρ0) t).1.toNatClampNeg).toInt) = if a % 2 = 1 then (ρ1.2.2.2.1 a (sd X (rmix n ρ1 ρ0) t).1.toNatClampNeg).toInt else (ρ1.2.2.1 a (sd X (rmix n ρ1 ρ0) t).1.toNatClampNeg).toInt
        rw [e1, e2]
      rw [e]
      exact h1.2 a _ r hr
    · have e1 : (rmix n ρ1 ρ0).2.2.1 a = ρ0.2.2.1 a := by simp only [rmix, if_neg hi]
      have e2 : (rmix n ρ1 ρ0).2.2.2.1 a = ρ0.2.2.2.1 a := by simp only [rmix, if_neg hi]
      have e : sn X (rmix n ρ1 ρ0) (.elem (.arg a) t) = sn X ρ0 (.elem (.arg a) (.int (sd X (rmix n ρ1 ρ0) t).1)) := by
        show (if a % 2 = 1 then ((rmix n ρ1 ρ0).2.2.2.1 a (sd X (rmix n ρ1 ρ0) t).1.toNatClampNeg).toInt else ((rmix n ρ1 ρ0).2.2.1 a (sd X (rmix n ρ1 ρ0) t).1.toNatClampNeg).toInt) = if a % 2 = 1 then (ρ0.2.2.2.1 a (sd X (rmix n ρ1 ρ0) t).1.toNatClampNeg).toInt else (ρ0.2.2.1 a (sd X (rmix n ρ1 ρ0) t).1.toNatClampNeg).toInt
        rw [e1, e2]
      rw [e]
      exact h0.2 a _ r hr
theorem HR_agr {ρ2 : sR} (h : agr n ρ1 ρ2) {Zf : sH} (hv : hall (vltE n) 9 Zf.1 = true) {B : pB} {G : pH} (hR : HR X (rwB ρ1 B) Zf G) : HR X (rwB ρ2 B) Zf G := by
  refine ⟨hR.1, fun k e hk => ?_, hR.2.2.1, hR.2.2.2⟩
  obtain ⟨y, hy, hc⟩ := hR.2.1 k e hk
  exact ⟨y, hy, CR_0 (CR_agr h (hall_get hv hk) (CR_1 hc))⟩
end SR
noncomputable def hinstO (K : sK) (F : sFs) (σ : sM) (Z : sH) (l : List Nat) (G : sH) : Bool := Nat.beq G.2 0 && fpok K F σ Z G l
noncomputable def hinstL (K : sK) (F : sFs) (σ : sM) (Z : sH) (l : List Nat) (G : sH) : Bool := hinstD K F σ Z l G || hinstO K F σ Z l G
theorem HR_subO {X : pX} {K : sK} {ρ : sR} {F : sFs} (hF : fok X ρ F) (hK : kok X ρ K) {σ : sM} (hM : sMok K σ = true) {Z G : sH} {l : List Nat} (hd : kdom (foot Z l) G) (h : hinstO K F σ Z l G = true) {H : pH} (hR : HR X ρ G H) : HR X (rsub X ρ σ) (foot Z l) H := by
  simp only [hinstO, Bool.and_eq_true] at h
  obtain ⟨h1, h2⟩ := h
  have h1 := Nat.eq_of_beq_eq_true h1
  have h2 := List.all_eq_true.mp h2
  refine ⟨?_, fun k e0 hk => ?_, hR.2.2.1, fun k hk hl => hR.2.2.2 k ?_ hl⟩
  · rw [foot_len]
    have := hR.1
    rw [h1] at this
    exact this
  · rw [foot_get] at hk
    split at hk
    · next hm =>
      have h4 := h2 k hm
      rw [hk] at h4
      dsimp only at h4
      split at h4
      · next e he =>
        obtain ⟨y, hy, hc⟩ := hR.2.1 k e he
        exact ⟨y, hy, cinsX_ok hF hK hM h4 hc⟩
      · cases h4
    · cases hk
  · rw [foot_get] at hk
    by_cases hm : k ∈ l
    · rw [if_pos hm] at hk
      have h4 := h2 k hm
      rw [hk] at h4
      cases h4
    · exact hd.1 k (by rw [foot_get, if_neg hm])
theorem HR_subL {X : pX} {K : sK} {ρ : sR} {F : sFs} (hF : fok X ρ F) (hK : kok X ρ K) {σ : sM} (hM : sMok K σ = true) {Z G : sH} {l : List Nat} (hd : kdom (foot Z l) G) (h : hinstL K F σ Z l G = true) {H : pH} (hR : HR X ρ G H) : HR X (rsub X ρ σ) (foot Z l) H := by
  rcases (Bool.or_eq_true _ _).mp h with h | h
  · simp only [hinstD, Bool.and_eq_true] at h
    obtain ⟨h1, h2, h3⟩ := h
    have h1 := Nat.eq_of_beq_eq_true h1
    have h2 := DJ_of h2
    refine ⟨?_, fun k e0 hk => ?_, hR.2.2.1, fun k hk hl => hR.2.2.2 k (hd.1 k hk) hl⟩
    · rw [foot_len]
      have := hR.1
      rw [h1] at this
      exact this
    · have hlt := hget_lt hk
      rw [hget_def, if_pos hlt] at hk
      obtain ⟨e, q1, q2⟩ := ckDt_ok 9 (foot Z l).1 G.1 k hd.2 h3 h2 hk
      obtain ⟨y, hy, hc⟩ := hR.2.1 k e (by rw [hget_def, if_pos hlt]; exact q1)
      rcases q2 with q2 | ⟨q2, q3⟩
      · exact ⟨y, hy, cinsX_ok hF hK hM q2 hc⟩
      · rw [q2] at hc
        exact ⟨y, hy, CR_dj (agD_rsub σ) (dmk_1 σ) q3 hc⟩
  · exact HR_subO hF hK hM hd h hR
/-- a contract's end is met -/
noncomputable def rleaf (K : sK) (Z : sH) (C : sC) (F : sFs) (I : sI) (s1 s2 : sS) : Bool := sbot s1 && (sbot s2 &&
  (let σ := smG Z s2.2.2.2.1 (smG Z s1.2.2.2.1 (smL (smL ([], []) C.2.2.2.2.2.1.1.toList s1.1.2.2.2.2.2.2.2) C.2.2.2.2.2.1.2.toList s2.1.2.2.2.2.2.2.2) C.2.2.1.1) C.2.2.1.2
   sMok K σ && (hinstL K F σ Z C.2.2.1.1 s1.2.2.2.1 && (hinstL K F σ Z C.2.2.1.2 s2.2.2.2.1 && (fholdE F σ C.2.2.2.2.2.2.1 && (ihold F I σ C.2.2.2.2.2.2.2.2 && (teqsX F (C.2.2.2.2.2.1.1.toList.map (ssub σ)) s1.1.2.2.2.2.2.2.2 && (teqsX F (C.2.2.2.2.2.1.2.toList.map (ssub σ)) s2.1.2.2.2.2.2.2.2 && (σ.1.all (fun q => C.2.2.2.2.1.1.any (fun i => Nat.beq q.1 i)) && (σ.2.all (fun q => C.2.2.2.2.1.2.any (fun i => Nat.beq q.1 i))))))))))))
/-- what is asked of a contract that is proved -/
noncomputable def cfine (Z : sH) (n : Nat) (C : sC) : Bool := hall (vltE n) 9 (foot Z C.2.2.1.1).1 && (hall (vltE n) 9 (foot Z C.2.2.1.2).1 && (fvlt n C.2.2.2.2.2.2.1 && (ivlt n C.2.2.2.2.2.2.2.2 && (C.2.2.2.2.2.1.1.toList.all (fun t => scl t && vlt n t) && (C.2.2.2.2.2.1.2.toList.all (fun t => scl t && vlt n t) && (sinok mt_all C.1.1 C.2.1.1 && sinok mt_all C.1.2.1 C.2.1.2))))))
/-- what a contract promises of the numbers -/
noncomputable def cJ (X : pX) (C : sC) (ρ0 : sR) (ρ' : sR) (v1 v2 : List Value) : Prop := ((∀ i, i ∉ C.2.2.2.2.1.1 → ρ'.1 i = ρ0.1 i ∧ ρ'.2.1 i = ρ0.2.1 i) ∧ ∀ a, a ∉ C.2.2.2.2.1.2 → ∀ j, bden X ρ' (.arg a) j = bden X ρ0 (.arg a) j) ∧ fok X ρ' C.2.2.2.2.2.2.1 ∧ iok X ρ' C.2.2.2.2.2.2.2.2 ∧ v1 = (C.2.2.2.2.2.1.1.map (sv X ρ')).toList ∧ v2 = (C.2.2.2.2.2.1.2.map (sv X ρ')).toList
/-- the same numbers below n, but for some that are let go -/
noncomputable def agrM (n : Nat) (mods moda : List Nat) (ρ1 ρ2 : sR) : Prop := (∀ i, i < n → i ∉ mods → ρ1.1 i = ρ2.1 i ∧ ρ1.2.1 i = ρ2.2.1 i) ∧ ∀ a, a < n → a ∉ moda → ρ1.2.2.1 a = ρ2.2.2.1 a ∧ ρ1.2.2.2.1 a = ρ2.2.2.2.1 a
theorem agrM_new {n off : Nat} {mods moda : List Nat} {ρ ρ'' ρ0 : sR} (h : n ≤ off) (h1 : agr off ρ'' ρ) (h2 : agrM n mods moda ρ ρ0) : agrM n mods moda ρ'' ρ0 := ⟨fun i hi hm => ⟨(h1.1 i (by omega)).1.trans (h2.1 i hi hm).1, (h1.1 i (by omega)).2.trans (h2.1 i hi hm).2⟩, fun i hi hm => ⟨(h1.2 i (by omega)).1.trans (h2.2 i hi hm).1, (h1.2 i (by omega)).2.trans (h2.2 i hi hm).2⟩⟩
section SRL
variable {X : pX} {K : sK} {ρ ρ0 : sR}
theorem rleaf_ok (hx : K.2.2.2 = false) {Z : sH} {C : sC} {n : Nat} (hfine : cfine Z n C = true) (hK : kok X ρ K) {F : sFs} {I : sI} (hF : fok X ρ F) (hI : iok X ρ I) (hv0 : vok X ρ0) (hag : agrM n C.2.2.2.2.1.1 C.2.2.2.2.1.2 ρ ρ0) {s1 s2 : sS} (hd1 : kdom (foot Z C.2.2.1.1) s1.2.2.2.1) (hd2 : kdom (foot Z C.2.2.1.2) s2.2.2.2.1) (h : rleaf K Z C F I s1 s2 = true) {dc dm : Nat} : RelP X pF pdfl mt_all dc dm (foot Z C.2.2.1.1) (foot Z C.2.2.1.2) (cJ X C ρ0) ρ s1 s2 := by
  unfold rleaf at h
  simp only [Bool.and_eq_true] at h
  obtain ⟨b1, b2, h⟩ := h
  generalize hσ : smG Z s2.2.2.2.1 (smG Z s1.2.2.2.1 (smL (smL ([], []) C.2.2.2.2.2.1.1.toList s1.1.2.2.2.2.2.2.2) C.2.2.2.2.2.1.2.toList s2.1.2.2.2.2.2.2.2) C.2.2.1.1) C.2.2.1.2 = σ at h
  obtain ⟨c1, c2, c3, c4, c5, c6, c7, c8, c9⟩ := h
  simp only [cfine, Bool.and_eq_true] at hfine
  obtain ⟨g1, g2, g4, g6, g7, g8, -⟩ := hfine
  have hpost := fholdE_ok hF c1 c4
  have hag2 : agr n (rmix n (rsub X ρ σ) ρ0) (rsub X ρ σ) := rmix_agr
  have hret : ∀ (v0 : Option sT) (st : List sT), v0.toList.all (fun t => scl t && vlt n t) = true → teqsX F (v0.toList.map (ssub σ)) st = true → dS X ρ st = (v0.map (sv X (rmix n (rsub X ρ σ) ρ0))).toList := by
    intro v0 st h1 h2
    have e1 := teqsX_ok (X := X) (ρ := ρ) hF h2
    unfold dS
    rw [← e1]
    cases v0 with
    | none => rfl
    | some t =>
      simp only [Option.toList_some, List.all_cons, List.all_nil, Bool.and_true, Bool.and_eq_true] at h1
      show [sv X ρ (ssub σ t)] = [sv X (rmix n (rsub X ρ σ) ρ0) t]
      rw [ssub_v c1 t h1.1, vlt_v hag2 h1.2]
  refine ⟨rmix n (rsub X ρ σ) ρ0, _, _, ⟨⟨fun i hi => ?_, fun a ha j => ?_⟩, ⟨rmix_vok hpost.1 hv0, fall_agr hag2 g4 hpost.2⟩, iok_agr hag2 g6 (ihold_ok hF hI c1 c5), hret _ _ g7 c6, hret _ _ g8 c7⟩, GPh.bot b1 (fun B G hR => ?_), GPh.bot b2 (fun B G hR => ?_)⟩
  · have hf : sfnd σ i = none := by
      rw [sfnd_def]
      split
      · next q hq =>
        exfalso
        have h1 := List.all_eq_true.mp c8 q (List.mem_of_find?_eq_some hq)
        obtain ⟨k, hk, h2⟩ := List.any_eq_true.mp h1
        have h3 := Nat.eq_of_beq_eq_true h2
        have h4 : q.1 = i := by simpa using List.find?_some hq
        exact hi (by rw [← h4, h3]; exact hk)
      · rfl
    by_cases hl : i < n
    · have e := hag.1 i hl hi
      simp only [rmix, if_pos hl, rsub, hf]
      exact e
    · simp only [rmix, if_neg hl, and_self]
  · have hf : afnd σ a = none := by
      rw [afnd_def]
      split
      · next q hq =>
        exfalso
        have h1 := List.all_eq_true.mp c9 q (List.mem_of_find?_eq_some hq)
        obtain ⟨k, hk, h2⟩ := List.any_eq_true.mp h1
        have h3 := Nat.eq_of_beq_eq_true h2
        have h4 : q.1 = a := by simpa using List.find?_some hq
        exact ha (by rw [← h4, h3]; exact hk)
      · rfl
    by_cases hl : a < n
    · have e := hag.2 a hl ha
      simp only [bden, rmix, if_pos hl, rsub, hf, e.1, e.2]
    · simp only [bden, rmix, if_neg hl]
  · have := HR_subL (fok_B B hF) (kok_B B hx hK) c1 hd1 c2 hR
    rw [rsub_B] at this
    exact HR_agr (agr_symm hag2) g1 this
  · have := HR_subL (fok_B B hF) (kok_B B hx hK) c1 hd2 c3 hR
    rw [rsub_B] at this
    exact HR_agr (agr_symm hag2) g2 this
theorem rtry_ok {off : Nat} {F : sFs} {I : sI} {s1 s2 : sS} {r : sFs × sI × sS × sS} : ∀ Cs : List (sH × sC), rtry K off F I s1 s2 Cs = some r → ∃ C ∈ Cs, cgood off C.2 = true ∧ rapp K C.1 C.2 off F I s1 s2 = some r
  | [], h => by cases h
  | C :: Cs, h => by
    unfold rtry at h
    split at h
    · next r' hr =>
      cases h
      split at hr
      · next hg => exact ⟨C, List.mem_cons_self, hg, hr⟩
      · cases hr
    · obtain ⟨C', h1, h2⟩ := rtry_ok Cs h
      exact ⟨C', List.mem_cons_of_mem _ h1, h2⟩
theorem rapp_dom {Z : sH} {C : sC} {off : Nat} {F F' : sFs} {I I' : sI} {s1 s2 s1' s2' : sS} (h : rapp K Z C off F I s1 s2 = some (F', I', s1', s2')) {l1 l2 : sH} (h1 : kdom l1 s1.2.2.2.1) (h2 : kdom l2 s2.2.2.2.1) : kdom l1 s1'.2.2.2.1 ∧ kdom l2 s2'.2.2.2.1 := by
  unfold rapp at h
  split at h
  · next qc qm hqc hqm =>
    simp only at h
    split at h
    · next hc =>
      cases h
      simp only [Bool.and_eq_true] at hc
      obtain ⟨c1, c2, -, c7, c8, -⟩ := hc
      exact ⟨kdom_upd h1 c7, kdom_upd h2 c8⟩
    · cases h
  · cases h
theorem rrun_ok (hx : K.2.2.2 = false) (hk0 : ∀ a l, K.2.2.1 a = some l → a < 1000) {Cs : List (sH × sC)} (hCs : ∀ C ∈ Cs, SREL X pF pdfl mt_all K C.1 C.2) {st1 st2 : List (Nat × Nat)} {leaf : sFs → sI → sS → sS → Bool} {dc dm : Nat} {Zc Zm : sH} {J : sR → List Value → List Value → Prop} {n0 : Nat} {l1 l2 : sH} {A : sR → Prop} (hA : ∀ (off : Nat) (ρ ρ'' : sR), n0 ≤ off → agr off ρ'' ρ → A ρ → A ρ'') (hleaf : ∀ (ρ : sR) (F : sFs) (I : sI) (s1 s2 : sS), kok X ρ K → fok X ρ F → iok X ρ I → A ρ → kdom l1 s1.2.2.2.1 → kdom l2 s2.2.2.2.1 → leaf F I s1 s2 = true → RelP X pF pdfl mt_all dc dm Zc Zm J ρ s1 s2) : ∀ (n off : Nat) (F : sFs) (I : sI) (s1 s2 : sS) (ρ : sR), n0 ≤ off → rrun K Cs st1 st2 leaf n off F I s1 s2 = true → kok X ρ K → fok X ρ F → iok X ρ I → A ρ → kdom l1 s1.2.2.2.1 → kdom l2 s2.2.2.2.1 → RelP X pF pdfl mt_all dc dm Zc Zm J ρ s1 s2
  | 0, _, _, _, _, _, _, _, h, _, _, _, _, _, _ => by cases h
  | n + 1, off, F, I, s1, s2, ρ, ho, h, hK, hF, hI, hag, hd1, hd2 => by
    have ih := rrun_ok hx hk0 hCs hA hleaf (st1 := st1) (st2 := st2) n
    have split2 : ∀ c : sQ, (match xdecX F c with
        | some b => rrun K Cs st1 st2 leaf n off (isat ((c, b) :: F) I) I s1 s2
        | none => rrun K Cs st1 st2 leaf n off (isat ((c, true) :: F) I) I s1 s2 && rrun K Cs st1 st2 leaf n off (isat ((c, false) :: F) I) I s1 s2) = true → RelP X pF pdfl mt_all dc dm Zc Zm J ρ s1 s2 := by
      intro c h
      split at h
      · next b hb => exact ih off _ I s1 s2 ρ ho h hK (isat_ok ⟨hF.1, fun f hf => by rcases List.mem_cons.mp hf with e | hf; (· rw [e]; exact xdecX_ok hF hb); exact hF.2 f hf⟩ hI) hI hag hd1 hd2
      simp only [Bool.and_eq_true] at h
      cases hc : sc X ρ c with
      | true => exact ih off _ I s1 s2 ρ ho h.1 hK (isat_ok ⟨hF.1, fun f hf => by rcases List.mem_cons.mp hf with e | hf; (· rw [e]; exact hc); exact hF.2 f hf⟩ hI) hI hag hd1 hd2
      | false => exact ih off _ I s1 s2 ρ ho h.2 hK (isat_ok ⟨hF.1, fun f hf => by rcases List.mem_cons.mp hf with e | hf; (· rw [e]; exact hc); exact hF.2 f hf⟩ hI) hI hag hd1 hd2
    unfold rrun at h
    split at h
    · split at h
      · next s' hs => exact RelP.c flN hx hK hF hs (ih off F I s' s2 ρ ho h hK hF hI hag (kdom_kd (stepG_dom hx hs) hd1) hd2)
      · next c hs => exact split2 c h
      · exact (scon_ok hF h).elim
    · split at h
      · split at h
        · next s' hs => exact RelP.m flN hx hK hF hs (ih off F I s1 s' ρ ho h hK hF hI hag hd1 (kdom_kd (stepG_dom hx hs) hd2))
        · next c hs => exact split2 c h
        · exact (scon_ok hF h).elim
      · split at h
        · next hlf => exact hleaf ρ F I s1 s2 hK hF hI hag hd1 hd2 hlf
        · split at h
          · next r hr =>
            obtain ⟨F', I', s1', s2'⟩ := r
            obtain ⟨C, hC, hg, hap⟩ := rtry_ok Cs hr
            refine rapp_ok hx hk0 (hCs C hC) hg hK hF hI hap (fun ρ'' h1 h2 h3 h4 => ?_)
            exact ih (off + 65536) _ I' s1' s2' ρ'' (by omega) h h2 (isat_ok h3 h4) h4 (hA off ρ ρ'' ho h1 hag) (rapp_dom hap hd1 hd2).1 (rapp_dom hap hd1 hd2).2
          · exact (scon_ok hF h).elim
/-- a contract from what its beginnings come to -/
theorem SREL_in {Z : sH} {C : sC} {d : Nat} (hd : C.1.2.2 = d + 1) (hfine : cfine Z 65536 C = true) (h : ∀ ρ : sR, kok X ρ K → fok X ρ C.2.2.2.1 → iok X ρ C.2.2.2.2.2.2.2.1 → RelP X pF pdfl mt_all (d + 1) (d + 1) (foot Z C.2.2.1.1) (foot Z C.2.2.1.2) (cJ X C ρ) ρ (sin0 mt_all C.1.1 d C.2.1.1 (foot Z C.2.2.1.1)) (sin0 mt_all C.1.2.1 d C.2.1.2 (foot Z C.2.2.1.2))) : SREL X pF pdfl mt_all K Z C := by
  intro ρ hK hF hI
  have hfine' := hfine
  simp only [cfine, Bool.and_eq_true] at hfine'
  obtain ⟨-, -, -, -, -, -, o1, o2⟩ := hfine'
  obtain ⟨ρ', v1, v2, ⟨j1, j2, j3, j4, j5⟩, r1, r2⟩ := h ρ hK hF hI
  have tl : ∀ a b : Option Value, a.toList = b.toList → a = b := by
    intro a b e
    cases a <;> cases b <;> first | rfl | (cases e; done) | (cases e; rfl)
  refine ⟨ρ', j1, j2, j3, fun B G hR => ?_, fun B G hR => ?_⟩
  · obtain ⟨v, G', sl', hc, q1, q2, q3⟩ := CALL_in o1 r1 B hR
    rw [j4] at q1
    have e := tl _ _ q1
    subst e
    subst q3
    rw [hd]
    exact ⟨G', hc, q2⟩
  · obtain ⟨v, G', sl', hc, q1, q2, q3⟩ := CALL_in o2 r2 B hR
    rw [j5] at q1
    have e := tl _ _ q1
    subst e
    subst q3
    rw [hd]
    exact ⟨G', hc, q2⟩
theorem kdom_in {y d : Nat} {as : List sT} {Z : sH} {l : List Nat} (_ : sinok mt_all y as = true) : kdom (foot Z l) (sin0 mt_all y d as (foot Z l)).2.2.2.1 := by
  unfold sin0
  split
  · exact kdom_foot Z l
  · exact kdom_foot Z l
/-- a contract from a run -/
theorem SREL_of (hx : K.2.2.2 = false) (hk0 : ∀ a l, K.2.2.1 a = some l → a < 1000) {Z : sH} {Cs : List (sH × sC)} (hCs : ∀ C ∈ Cs, SREL X pF pdfl mt_all K C.1 C.2) {C : sC} {d : Nat} (hd : C.1.2.2 = d + 1) (hfine : cfine Z 65536 C = true) (n : Nat) (h : rrun K Cs [] [] (rleaf K Z C) n 65536 (isat C.2.2.2.1 C.2.2.2.2.2.2.2.1) C.2.2.2.2.2.2.2.1 (sin0 mt_all C.1.1 d C.2.1.1 (foot Z C.2.2.1.1)) (sin0 mt_all C.1.2.1 d C.2.1.2 (foot Z C.2.2.1.2)) = true) : SREL X pF pdfl mt_all K Z C :=
  have hfine' := hfine
  have o1 : sinok mt_all C.1.1 C.2.1.1 = true := by simp only [cfine, Bool.and_eq_true] at hfine'; exact hfine'.2.2.2.2.2.2.1
  have o2 : sinok mt_all C.1.2.1 C.2.1.2 = true := by simp only [cfine, Bool.and_eq_true] at hfine'; exact hfine'.2.2.2.2.2.2.2
  SREL_in hd hfine (fun ρ hK hF hI => rrun_ok (n0 := 65536) (l1 := foot Z C.2.2.1.1) (l2 := foot Z C.2.2.1.2) (A := fun ρ1 => agrM 65536 C.2.2.2.2.1.1 C.2.2.2.2.1.2 ρ1 ρ) hx hk0 hCs (fun off ρ1 ρ2 h1 h2 h3 => agrM_new h1 h2 h3) (fun ρ1 F I s1 s2 hK1 hF1 hI1 hag k1 k2 hl => rleaf_ok hx hfine hK1 hF1 hI1 hF.1 hag k1 k2 hl) n 65536 _ C.2.2.2.2.2.2.2.1 _ _ ρ (Nat.le_refl _) h hK (isat_ok hF hI) hI ⟨fun _ _ _ => ⟨rfl, rfl⟩, fun _ _ _ => ⟨rfl, rfl⟩⟩ (kdom_in o1) (kdom_in o2))
end SRL
/-! ===== loops of both, side by side ===== -/
/-- a pair of states is a case of a pattern; the measure kv is one less, or any -/
noncomputable def rcase (K : sK) (Z : sH) (l1 l2 : List Nat) (iv : sI) (mods moda : List Nat) (kv : Option Nat) (F0 : sFs) (p1 p2 : sS) (F : sFs) (I : sI) (s1 s2 : sS) : Bool := decide (spc p1 = spc s1) && (decide (spc p2 = spc s2) && (decide (p1.2.2.1 = s1.2.2.1) && (decide (p2.2.2.1 = s2.2.2.1) && (decide (p1.2.2.2.2 = s1.2.2.2.2) && (decide (p2.2.2.2.2 = s2.2.2.2.2) && (
  let σ := smG Z s2.2.2.2.1 (smG Z s1.2.2.2.1 (smFs (smF (smFs (smF ([], []) p1.1 s1.1) p1.2.1 s1.2.1) p2.1 s2.1) p2.2.1 s2.2.1) l1) l2
  sMok K σ && (fholdE F σ F0 && (ihold F I σ iv && (hinstL K F σ Z l1 s1.2.2.2.1 && (hinstL K F σ Z l2 s2.2.2.2.1 && ((finstX F σ p1.1 s1.1 && finstsX F σ p1.2.1 s1.2.1) && ((finstX F σ p2.1 s2.1 && finstsX F σ p2.2.1 s2.2.1) && (σ.1.all (fun q => mods.any (fun i => Nat.beq q.1 i)) && (σ.2.all (fun q => moda.any (fun i => Nat.beq q.1 i)) && (match kv with
    | none => true
    | some k => decide (sdec F (2, .int 0, .arg k) = some true) && (match sfnd σ k with
      | some t => leq t (.add (.arg k) (.int (-1)))
      | none => false))))))))))))))))
section LOOPS
variable {X : pX} {K : sK} {ρ ρ0 : sR}
theorem GPh_inst (hx : K.2.2.2 = false) (hK : kok X ρ K) {F : sFs} (hF : fok X ρ F) {σ : sM} (hM : sMok K σ = true) {d : Nat} {Q : pB → List Value → pH → Nat → Prop} {Z : sH} {l : List Nat} {p s : sS} (hp : p.2.2.2.1 = foot Z l) (hdm : kdom (foot Z l) s.2.2.2.1) (h1 : p.2.2.1 = s.2.2.1) (h2 : p.2.2.2.2 = s.2.2.2.2) (hh : hinstL K F σ Z l s.2.2.2.1 = true) (hf : finstX F σ p.1 s.1 = true) (hfs : finstsX F σ p.2.1 s.2.1 = true) (hg : GPh X pF pdfl mt_all d Q (rsub X ρ σ) p) : GPh X pF pdfl mt_all d Q ρ s := by
  intro B G hR
  have hR' := HR_subL (fok_B B hF) (kok_B B hx hK) hM hdm hh hR
  rw [rsub_B, ← hp] at hR'
  have hgg := hg B G hR'
  have e1 := finstX_ok (X := X) (ρ := rwB ρ B) (K := K) (fok_B B hF) hM hf
  have e2 := finstsX_ok (X := X) (ρ := rwB ρ B) (K := K) (fok_B B hF) hM hfs
  rw [rsub_B] at e1 e2
  rw [← h1, ← h2]
  exact GG_le (PQ_mono _) e1 e2 hgg
theorem rcase_ok (hx : K.2.2.2 = false) {iv : sI} {mods moda : List Nat} {n : Nat} (hK : kok X ρ K) {F F0 : sFs} {I : sI} (hF : fok X ρ F) (hI : iok X ρ I) (hag : agrM n mods moda ρ ρ0) {kv : Option Nat} {Z : sH} {l1 l2 : List Nat} {p1 p2 s1 s2 : sS} (hp1 : p1.2.2.2.1 = foot Z l1) (hp2 : p2.2.2.2.1 = foot Z l2) (hd1 : kdom (foot Z l1) s1.2.2.2.1) (hd2 : kdom (foot Z l2) s2.2.2.2.1) (h : rcase K Z l1 l2 iv mods moda kv F0 p1 p2 F I s1 s2 = true) {dc dm : Nat} {Zc Zm : sH} {J : sR → List Value → List Value → Prop}
    (hg : ∀ ρ1 : sR, kok X ρ1 K → fok X ρ1 F0 → iok X ρ1 iv → agrM n mods moda ρ1 ρ0 → (∀ k, kv = some k → ρ1.1 k = ρ.1 k + (-1) ∧ 0 < ρ.1 k) → RelP X pF pdfl mt_all dc dm Zc Zm J ρ1 p1 p2) : RelP X pF pdfl mt_all dc dm Zc Zm J ρ s1 s2 := by
  unfold rcase at h
  simp only [Bool.and_eq_true, decide_eq_true_eq] at h
  obtain ⟨-, -, d1, d2, e1, e2, h⟩ := h
  generalize hσ : smG Z s2.2.2.2.1 (smG Z s1.2.2.2.1 (smFs (smF (smFs (smF ([], []) p1.1 s1.1) p1.2.1 s1.2.1) p2.1 s2.1) p2.2.1 s2.2.1) l1) l2 = σ at h
  obtain ⟨c1, c2, c3, c4, c5, ⟨c6, c7⟩, ⟨c8, c9⟩, c10, c11, c12⟩ := h
  have hag' : agrM n mods moda (rsub X ρ σ) ρ0 := by
    constructor
    · intro i hi hm
      have hf : sfnd σ i = none := by
        rw [sfnd_def]
        split
        · next q hq =>
          exfalso
          have h1 := List.all_eq_true.mp c10 q (List.mem_of_find?_eq_some hq)
          have h4 : q.1 = i := by simpa using List.find?_some hq
          obtain ⟨k, hk, h2⟩ := List.any_eq_true.mp h1
          have h3 := Nat.eq_of_beq_eq_true h2
          exact hm (by rw [← h4, h3]; exact hk)
        · rfl
      have e := hag.1 i hi hm
      simp only [rsub, hf]
      exact e
    · intro a ha hm
      have hf : afnd σ a = none := by
        rw [afnd_def]
        split
        · next q hq =>
          exfalso
          have h1 := List.all_eq_true.mp c11 q (List.mem_of_find?_eq_some hq)
          obtain ⟨k, hk, h2⟩ := List.any_eq_true.mp h1
          have h3 := Nat.eq_of_beq_eq_true h2
          have h4 : q.1 = a := by simpa using List.find?_some hq
          exact hm (by rw [← h4, h3]; exact hk)
        · rfl
      have e := hag.2 a ha hm
      constructor
      · funext j
        simp only [rsub, hf]
        rw [e.1]
      · funext j
        simp only [rsub, hf]
        rw [e.2]
  obtain ⟨ρ', v1, v2, j1, j2, j3⟩ := hg (rsub X ρ σ) (kok_sub hK c1) (fholdE_ok hF c1 c2) (ihold_ok hF hI c1 c3) hag' (fun k hk => by
    rw [hk] at c12
    simp only [Bool.and_eq_true] at c12
    obtain ⟨c13, c12⟩ := c12
    have h7 : decide ((0 : Int32) < ρ.1 k) = true := sdec_ok hF (of_decide_eq_true c13)
    split at c12
    · next t ht =>
      have h9 := leq_ok (X := X) (ρ := ρ) c12
      have h8 := sv_d (h9.trans (sv_int (X := X) (ρ := ρ) (t := .add (.arg k) (.int (-1))) rfl))
      refine ⟨?_, of_decide_eq_true h7⟩
      simp only [rsub, ht, h8, sd]
    · cases c12)
  exact ⟨ρ', v1, v2, j1, GPh_inst hx hK hF c1 hp1 hd1 d1 e1 c4 c6 c7 j2, GPh_inst hx hK hF c1 hp2 hd2 d2 e2 c5 c8 c9 j3⟩
/-- the loop's body: from its head, one step on each side, then on -/
noncomputable def rbody (K : sK) (Cs : List (sH × sC)) (leaf : sFs → sI → sS → sS → Bool) (n : Nat) (F0 : sFs) (iv0 : sI) (p1 p2 : sS) : Bool := match sstepG ysN K (isat F0 iv0) pF pdfl mt_all hlp p1.1 p1.2.1 p1.2.2.1 p1.2.2.2.1 p1.2.2.2.2, sstepG ysN K (isat F0 iv0) pF pdfl mt_all hlp p2.1 p2.2.1 p2.2.2.1 p2.2.2.2.1 p2.2.2.2.2 with
  | some (.inl s1), some (.inl s2) => rrun K Cs [(spc p1, sdep p1)] [(spc p2, sdep p2)] leaf n 65536 (isat F0 iv0) iv0 s1 s2
  | _, _ => false
theorem SREL_loop (hx : K.2.2.2 = false) (hk0 : ∀ a l, K.2.2.1 a = some l → a < 1000) {Z : sH} {Cs : List (sH × sC)} (hCs : ∀ C ∈ Cs, SREL X pF pdfl mt_all K C.1 C.2) {C : sC} {d : Nat} (hd : C.1.2.2 = d + 1) (hfine : cfine Z 65536 C = true) {F0 : sFs} {iv0 : sI} {p1 p2 : sS} (hp1 : p1.2.2.2.1 = foot Z C.2.2.1.1) (hp2 : p2.2.2.2.1 = foot Z C.2.2.1.2) {kv : Nat} (hkv : kv < 65536) (n1 n2 : Nat)
    (hbody : rbody K Cs (fun F I s1 s2 => rcase K Z C.2.2.1.1 C.2.2.1.2 iv0 C.2.2.2.2.1.1 C.2.2.2.2.1.2 (some kv) F0 p1 p2 F I s1 s2 || rleaf K Z C F I s1 s2) n1 F0 iv0 p1 p2 = true)
    (h : rrun K Cs [(spc p1, sdep p1)] [(spc p2, sdep p2)] (fun F I s1 s2 => rcase K Z C.2.2.1.1 C.2.2.1.2 iv0 C.2.2.2.2.1.1 C.2.2.2.2.1.2 none F0 p1 p2 F I s1 s2 || rleaf K Z C F I s1 s2) n2 65536 (isat C.2.2.2.1 C.2.2.2.2.2.2.2.1) C.2.2.2.2.2.2.2.1 (sin0 mt_all C.1.1 d C.2.1.1 (foot Z C.2.2.1.1)) (sin0 mt_all C.1.2.1 d C.2.1.2 (foot Z C.2.2.1.2)) = true) : SREL X pF pdfl mt_all K Z C := by
  have hfine' := hfine
  simp only [cfine, Bool.and_eq_true] at hfine'
  have o1 := hfine'.2.2.2.2.2.2.1
  have o2 := hfine'.2.2.2.2.2.2.2
  refine SREL_in hd hfine (fun ρ hK hF hI => ?_)
  have hA : ∀ (off : Nat) (ρ1 ρ2 : sR), 65536 ≤ off → agr off ρ2 ρ1 → agrM 65536 C.2.2.2.2.1.1 C.2.2.2.2.1.2 ρ1 ρ → agrM 65536 C.2.2.2.2.1.1 C.2.2.2.2.1.2 ρ2 ρ := fun off ρ1 ρ2 h1 h2 h3 => agrM_new h1 h2 h3
  have step : ∀ ρ1 : sR, kok X ρ1 K → fok X ρ1 F0 → iok X ρ1 iv0 → agrM 65536 C.2.2.2.2.1.1 C.2.2.2.2.1.2 ρ1 ρ → (∀ ρ2 : sR, kok X ρ2 K → fok X ρ2 F0 → iok X ρ2 iv0 → agrM 65536 C.2.2.2.2.1.1 C.2.2.2.2.1.2 ρ2 ρ → ρ2.1 kv = ρ1.1 kv + (-1) → 0 < ρ1.1 kv → RelP X pF pdfl mt_all (d + 1) (d + 1) (foot Z C.2.2.1.1) (foot Z C.2.2.1.2) (cJ X C ρ) ρ2 p1 p2) → RelP X pF pdfl mt_all (d + 1) (d + 1) (foot Z C.2.2.1.1) (foot Z C.2.2.1.2) (cJ X C ρ) ρ1 p1 p2 := by
    intro ρ1 k1 k2 k3 k4 ih
    have hb := hbody
    unfold rbody at hb
    split at hb
    · next s1 s2 e1 e2 =>
      refine RelP.c flN hx k1 (isat_ok k2 k3) e1 (RelP.m flN hx k1 (isat_ok k2 k3) e2 ?_)
      refine rrun_ok (n0 := 65536) (l1 := foot Z C.2.2.1.1) (l2 := foot Z C.2.2.1.2) (A := fun ρ2 => agrM 65536 C.2.2.2.2.1.1 C.2.2.2.2.1.2 ρ2 ρ ∧ ρ2.1 kv = ρ1.1 kv) hx hk0 hCs (fun off ρ2 ρ3 h1 h2 h3 => ⟨hA off ρ2 ρ3 h1 h2 h3.1, (h2.1 kv (by omega)).1.trans h3.2⟩) (fun ρ2 F I s1 s2 q1 q2 q3 q4 g1 g2 q5 => ?_) n1 65536 _ iv0 _ _ ρ1 (Nat.le_refl _) hb k1 (isat_ok k2 k3) k3 ⟨k4, rfl⟩ (kdom_kd (stepG_dom hx e1) (by rw [hp1]; exact kdom_foot _ _)) (kdom_kd (stepG_dom hx e2) (by rw [hp2]; exact kdom_foot _ _))
      simp only [Bool.or_eq_true] at q5
      rcases q5 with q5 | q5
      · refine rcase_ok hx q1 q2 q3 q4.1 hp1 hp2 g1 g2 q5 (fun ρ3 r1 r2 r3 r4 r5 => ?_)
        obtain ⟨r6, r7⟩ := r5 kv rfl
        rw [q4.2] at r6 r7
        exact ih ρ3 r1 r2 r3 r4 r6 r7
      · exact rleaf_ok hx hfine q1 q2 q3 hF.1 q4.1 g1 g2 q5
    · cases hb
  have head : ∀ (m : Nat) (ρ1 : sR), kok X ρ1 K → fok X ρ1 F0 → iok X ρ1 iv0 → agrM 65536 C.2.2.2.2.1.1 C.2.2.2.2.1.2 ρ1 ρ → (ρ1.1 kv).toInt ≤ m → RelP X pF pdfl mt_all (d + 1) (d + 1) (foot Z C.2.2.1.1) (foot Z C.2.2.1.2) (cJ X C ρ) ρ1 p1 p2 := by
    intro m
    induction m with
    | zero =>
      intro ρ1 k1 k2 k3 k4 k5
      refine step ρ1 k1 k2 k3 k4 (fun ρ2 _ _ _ _ _ r7 => ?_)
      have := Int32.lt_iff_toInt_lt.mp r7
      simp at this
      omega
    | succ m ih =>
      intro ρ1 k1 k2 k3 k4 k5
      refine step ρ1 k1 k2 k3 k4 (fun ρ2 r1 r2 r3 r4 r6 r7 => ih ρ2 r1 r2 r3 r4 ?_)
      have h9 := Int32.lt_iff_toInt_lt.mp r7
      simp at h9
      have hlt := Int32.toInt_lt (ρ1.1 kv)
      rw [r6, s_add (y := -1) (by show _ ≤ (ρ1.1 kv).toInt + -1; omega) (by show (ρ1.1 kv).toInt + -1 ≤ _; omega)]
      show (ρ1.1 kv).toInt + -1 ≤ _
      omega
  refine rrun_ok (n0 := 65536) (l1 := foot Z C.2.2.1.1) (l2 := foot Z C.2.2.1.2) (A := fun ρ2 => agrM 65536 C.2.2.2.2.1.1 C.2.2.2.2.1.2 ρ2 ρ) hx hk0 hCs hA (fun ρ2 F I s1 s2 q1 q2 q3 q4 g1 g2 q5 => ?_) n2 65536 _ C.2.2.2.2.2.2.2.1 _ _ ρ (Nat.le_refl _) h hK (isat_ok hF hI) hI ⟨fun _ _ _ => ⟨rfl, rfl⟩, fun _ _ _ => ⟨rfl, rfl⟩⟩ (kdom_in o1) (kdom_in o2)
  simp only [Bool.or_eq_true] at q5
  rcases q5 with q5 | q5
  · refine rcase_ok hx q1 q2 q3 q4 hp1 hp2 g1 g2 q5 (fun ρ3 r1 r2 r3 r4 _ => head 2147483648 ρ3 r1 r2 r3 r4 ?_)
    have := Int32.toInt_lt (ρ3.1 kv)
    omega
  · exact rleaf_ok hx hfine q1 q2 q3 hF.1 q4 g1 g2 q5
end LOOPS
