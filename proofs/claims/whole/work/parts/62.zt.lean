/-! ===== two runs side by side, with fewer looks at the facts ===== -/
/-- an implication that tells it -/
noncomputable def qi (F : sFs) (c : sQ) : sI → Option Bool
  | [] => none
  | x :: r => bif (qqe x.2.1 c || ((Nat.beq c.1 0 || Nat.beq c.1 6) && qqe x.2.1 (c.1, c.2.2, c.2.1))) && x.1.all (fun g => kdec F g.1 g.2) then some x.2.2 else qi F c r
/-- is it known, or can it be found out -/
noncomputable def qx (F : sFs) (I : sI) (c : sQ) : Option Bool := match qfind c F with
  | some b => some b
  | none => match sdec F c with
    | some b => some b
    | none => match qi F c I with
      | some b => some b
      | none => match odec F c with
        | some b => some b
        | none => xdecX F c
/-- what follows at once, but for what is only not so -/
noncomputable def isatP (F : sFs) (I : sI) : sFs := isat F (I.filter (fun c => c.2.2))
/-- facts that gainsay each other -/
noncomputable def qdead (F : sFs) (I : sI) : Bool := scon (isat F I)
/-- an array's place that isn't a number yet -/
noncomputable def iar (ins : Instr) : Nat := @Jvm.ClassFile.Instr.rec (fun _ => Nat) (1) (2) (0) (fun _ => 0) (fun _ => 0) (fun _ => 0) (0) (0) (fun _ => 0) (fun _ => 0) (0) (1) (2) (fun _ => 0) (0) (0) (fun _ => 0) (0) (0) (0) (0) (0) (0) (fun _ => 0) (fun _ => 0) (0) (fun _ => 0) (fun _ => 0) (0) (0) (0) (0) (fun _ => 0) (fun _ => 0) (0) (0) (0) (0) (0) (0) (0) (0) (0) (0) (0) (0) (0) (fun _ => 0) (fun _ => 0) (0) (fun _ => 0) (fun _ => 0) (0) (0) (0) (0) (fun _ => 0) (fun _ => 0) (0) (fun _ => 3) (fun _ => 0) (fun _ => 0) (fun _ => 0) (0) (0) (0) (0) (0) (0) (0) (1) (0) (2) (fun _ => 0) (0) (fun _ _ => 0) (fun _ _ => 0) (fun _ _ => 0) (fun _ => 0) (fun _ => 0) (fun _ _ => 0) (fun _ => 0) (fun _ => 0) (0) (0) (fun _ => 0) (fun _ => 0) (fun _ _ => 0) (fun _ => 0) (fun _ => 0) (fun _ => 0) (0) (0) (0) (0) (0) (fun _ => 0) (fun _ => 0) (0) (0) (0) (fun _ => 0) (fun _ => 0) (0) (0) (0) (0) (1) (0) (2) (0) (fun _ => 0) (fun _ => 0) (fun _ => 0) (fun _ => 0) (0) (fun _ => 0) (fun _ => 0) (0) (0) (fun _ _ => 0) (0) (0) (0) (0) (0) (fun _ => 0) (fun _ => 0) (0) (0) (0) (0) (0) (fun _ _ => 0) (fun _ => 0) (fun _ => 0) (0) (0) (0) (fun _ => 0) (fun _ => 0) (fun _ => 0) (0) (0) (0) (fun _ => 0) (0) (fun _ _ _ _ => 0) ins
noncomputable def qful (s : sS) : Bool := match s.1.2.2.2.2.2.1 with
  | o :: _ => bif Nat.beq (iar o.2.1) 0 then false else bif Nat.beq (iar o.2.1) 3 then true else (bif Nat.beq (iar o.2.1) 1 then (match s.1.2.2.2.2.2.2.2 with
      | i :: q :: _ => (sC1 i).isNone || (Nat.beq (ttag q) 4 && Nat.beq (tpn q) 59)
      | _ => false) else (match s.1.2.2.2.2.2.2.2 with
      | _ :: i :: _ => (sC1 i).isNone
      | _ => false))
  | [] => false
/-- a step over the few facts G; what it asks is looked up in F -/
noncomputable def qstep (K : sK) (F : sFs) (I : sI) : Nat → sFs → sS → Option (sS ⊕ sQ)
  | 0, _, _ => none
  | n + 1, G, s => match sstepG ysN K G pF pdfl mt_all hlp s.1 s.2.1 s.2.2.1 s.2.2.2.1 s.2.2.2.2 with
    | some (.inl s') => some (.inl s')
    | some (.inr c) => (match qx F I c with
      | some b => qstep K F I n ((c, b) :: G) s
      | none => some (.inr c))
    | none => none
noncomputable def fstep (K : sK) (F : sFs) (I : sI) (s : sS) : Option (sS ⊕ sQ) := bif qful s then qstep K F I 64 F s else (match qstep K F I 64 [] s with
  | some r => some r
  | none => qstep K F I 64 F s)
/-- plain instructions in a row: within the frame, no jump, none of the places where a run is to stop -/
noncomputable def blkN (tail : List pOp) (p : Nat) : Bool := @List.rec pOp (fun _ => Bool) false (fun o _ _ => Nat.beq o.1 p) tail
noncomputable def blkR (nL : Nat) (stp : List (Nat × Nat)) (cur : List pOp) : sL → List sT → List pOp × sL × List sT := @List.rec pOp (fun _ => sL → List sT → List pOp × sL × List sT) (fun lv st => ([], lv, st)) (fun o tail ih lv st => @Bool.rec (fun _ => List pOp × sL × List sT) (o :: tail, lv, st) (match (slopQ o.2.1).1 [] nL lv st with
  | some (.inl (lv', st', none)) => @Bool.rec (fun _ => List pOp × sL × List sT) (o :: tail, lv, st) (ih lv' st') (blkN tail (o.1 + o.2.2.1))
  | _ => (o :: tail, lv, st)) (Nat.beq (igr o.2.1) 0 && !(stp.any (fun q => Nat.beq q.1 o.1)))) cur
noncomputable def blkS (stp : List (Nat × Nat)) (s : sS) : sS := match s with
  | ((k, nL, ret, hs, full, cur, lv, st), fs, d, G, sl) => match blkR nL stp cur lv st with
    | (cur', lv', st') => ((k, nL, ret, hs, full, cur', lv', st'), fs, d, G, sl)
noncomputable def fstepB (stp : List (Nat × Nat)) (K : sK) (F : sFs) (I : sI) (s : sS) : Option (sS ⊕ sQ) := match fstep K F I s with
  | some (.inl s') => some (.inl (blkS stp s'))
  | some (.inr c) => some (.inr c)
  | none => none
/-- so many steps, each over facts that hold -/
noncomputable def SCHN (X : pX) (K : sK) (ρ : sR) : Nat → sS → sS → Prop
  | 0, s, s' => s' = s
  | n + 1, s, s' => ∃ (F : sFs) (s1 : sS), fok X ρ F ∧ sstepG ysN K F pF pdfl mt_all hlp s.1 s.2.1 s.2.2.1 s.2.2.2.1 s.2.2.2.2 = some (.inl s1) ∧ SCHN X K ρ n s1 s'
section BLK
variable {X : pX} {K : sK} {ρ : sR}
theorem blk_ok {stp : List (Nat × Nat)} {k nL : Nat} {ret : Option FieldType} {hs : pHd} {full : List pOp} {fs : List sF} {d : Nat} {G : sH} {sl : Nat} (hv : vok X ρ) : ∀ (cur : List pOp) (lv : sL) (st : List sT), ∃ n : Nat, SCHN X K ρ n ((k, nL, ret, hs, full, cur, lv, st), fs, d, G, sl) ((k, nL, ret, hs, full, (blkR nL stp cur lv st).1, (blkR nL stp cur lv st).2.1, (blkR nL stp cur lv st).2.2), fs, d, G, sl)
  | [], lv, st => ⟨0, rfl⟩
  | (pc, ins, len, r1, r2, r3) :: tail, lv, st => by
    have e : blkR nL stp ((pc, ins, len, r1, r2, r3) :: tail) lv st = @Bool.rec (fun _ => List pOp × sL × List sT) ((pc, ins, len, r1, r2, r3) :: tail, lv, st) (match (slopQ ins).1 [] nL lv st with
      | some (.inl (lv', st', none)) => @Bool.rec (fun _ => List pOp × sL × List sT) ((pc, ins, len, r1, r2, r3) :: tail, lv, st) (blkR nL stp tail lv' st') (blkN tail (pc + len))
      | _ => ((pc, ins, len, r1, r2, r3) :: tail, lv, st)) (Nat.beq (igr ins) 0 && !(stp.any (fun q => Nat.beq q.1 pc))) := rfl
    rw [e]
    cases hp : (Nat.beq (igr ins) 0 && !(stp.any (fun q => Nat.beq q.1 pc))) with
    | false => exact ⟨0, rfl⟩
    | true =>
      rw [Bool.and_eq_true] at hp
      have h0 := Nat.eq_of_beq_eq_true hp.1
      dsimp only
      split
      · next lv' st' hs1 =>
        cases hb : blkN tail (pc + len) with
        | false => exact ⟨0, rfl⟩
        | true =>
          obtain ⟨n, hn⟩ := blk_ok hv (k := k) (ret := ret) (hs := hs) (full := full) (fs := fs) (d := d) (G := G) (sl := sl) (stp := stp) (nL := nL) tail lv' st'
          refine ⟨n + 1, [], ((k, nL, ret, hs, full, tail, lv', st'), fs, d, G, sl), ⟨hv, fun f hf => by cases hf⟩, ?_, hn⟩
          unfold sstepG
          dsimp only
          rw [if_pos (by rw [h0]; decide), h0]
          unfold sstepQ
          rw [if_pos rfl, hs1, pm_toQ_fun]
          cases tail with
          | nil => cases hb
          | cons o t =>
            have ho : o.1 = pc + len := Nat.eq_of_beq_eq_true hb
            simp only [pm_to, ho, if_true]
      · exact ⟨0, rfl⟩
theorem blkS_ok {stp : List (Nat × Nat)} (hv : vok X ρ) (s : sS) : ∃ n : Nat, SCHN X K ρ n s (blkS stp s) := by
  obtain ⟨⟨k, nL, ret, hs, full, cur, lv, st⟩, fs, d, G, sl⟩ := s
  exact blk_ok hv cur lv st
theorem RelP.cN (hx : K.2.2.2 = false) {dc dm : Nat} {Zc Zm : sH} {J : sR → List Value → List Value → Prop} (hK : kok X ρ K) : ∀ (n : Nat) {s s' sm : sS}, SCHN X K ρ n s s' → RelP X pF pdfl mt_all dc dm Zc Zm J ρ s' sm → RelP X pF pdfl mt_all dc dm Zc Zm J ρ s sm
  | 0, _, _, _, h, hg => by
    have h : _ = _ := h
    subst h
    exact hg
  | n + 1, _, _, _, h, hg => by
    obtain ⟨F, s1, hF, hs, h⟩ := h
    exact RelP.c flN hx hK hF hs (RelP.cN hx hK n h hg)
theorem RelP.mN (hx : K.2.2.2 = false) {dc dm : Nat} {Zc Zm : sH} {J : sR → List Value → List Value → Prop} (hK : kok X ρ K) : ∀ (n : Nat) {s s' sc : sS}, SCHN X K ρ n s s' → RelP X pF pdfl mt_all dc dm Zc Zm J ρ sc s' → RelP X pF pdfl mt_all dc dm Zc Zm J ρ sc s
  | 0, _, _, _, h, hg => by
    have h : _ = _ := h
    subst h
    exact hg
  | n + 1, _, _, _, h, hg => by
    obtain ⟨F, s1, hF, hs, h⟩ := h
    exact RelP.m flN hx hK hF hs (RelP.mN hx hK n h hg)
theorem kdN (hx : K.2.2.2 = false) {l : sH} : ∀ (n : Nat) {s s' : sS}, SCHN X K ρ n s s' → kdom l s.2.2.2.1 → kdom l s'.2.2.2.1
  | 0, _, _, h, hd => by
    have h : _ = _ := h
    subst h
    exact hd
  | n + 1, _, _, h, hd => by
    obtain ⟨F, s1, hF, hs, h⟩ := h
    exact kdN hx n h (kdom_kd (stepG_dom hx hs) hd)
end BLK
/-- what follows at once from a new fact -/
noncomputable def ifireQ (c : sQ) (F : sFs) (I : sI) : sFs := I.filterMap (fun i => bif i.1.any (fun g => qrel c g.1) then (if i.1.all (fun g => decide (sdec F g.1 = some g.2)) && !(decide (sdec F i.2.1 = some i.2.2)) then some i.2 else none) else none)
noncomputable def isatQ (c : sQ) (b : Bool) (F : sFs) (I : sI) : sFs := ifireQ c ((c, b) :: F) I ++ (c, b) :: F
/-- does it stand at a call -/
noncomputable def atcall (s : sS) : Bool := match s.1.2.2.2.2.2.1 with
  | o :: _ => !(Nat.beq (icl o.2.1) 0)
  | [] => false
noncomputable def frun (K : sK) (Cs : List (sH × sC)) (st1 st2 : List (Nat × Nat)) (leaf : sFs → sI → sS → sS → Bool) : Nat → Nat → sFs → sI → sS → sS → Bool
  | 0, _, _, _, _, _ => false
  | n + 1, off, F, I, s1, s2 => match (bif atcall s1 || atcall s2 then rone K off F I s1 s2 Cs else none) with
    | some r => frun K Cs st1 st2 leaf n (off + 65536) (isatP r.1 r.2.1) r.2.1 r.2.2.1 r.2.2.2
    | none => if (cstop (Cs.map (fun C => C.2.1.1)) s1 || atpc st1 s1) = false then (match fstepB st1 K F I s1 with
      | some (.inl s') => frun K Cs st1 st2 leaf n off F I s' s2
      | some (.inr c) => frun K Cs st1 st2 leaf n off (isatQ c true F I) I s1 s2 && frun K Cs st1 st2 leaf n off (isatQ c false F I) I s1 s2
      | none => qdead F I)
    else if (cstop (Cs.map (fun C => C.2.1.2.1)) s2 || atpc st2 s2) = false then (match fstepB st2 K F I s2 with
      | some (.inl s') => frun K Cs st1 st2 leaf n off F I s1 s'
      | some (.inr c) => frun K Cs st1 st2 leaf n off (isatQ c true F I) I s1 s2 && frun K Cs st1 st2 leaf n off (isatQ c false F I) I s1 s2
      | none => qdead F I)
    else if leaf F I s1 s2 = true then true else (match rtry K off F I s1 s2 Cs with
      | some r => frun K Cs st1 st2 leaf n (off + 65536) (isatP r.1 r.2.1) r.2.1 r.2.2.1 r.2.2.2
      | none => if (cstop (Cs.map (fun C => C.2.1.1)) s1 && !(cstop (Cs.map (fun C => C.2.1.2.1)) s2)) = true then (match fstepB st2 K F I s2 with
          | some (.inl s') => frun K Cs st1 st2 leaf n off F I s1 s'
          | some (.inr c) => frun K Cs st1 st2 leaf n off (isatQ c true F I) I s1 s2 && frun K Cs st1 st2 leaf n off (isatQ c false F I) I s1 s2
          | none => qdead F I)
        else if (!(cstop (Cs.map (fun C => C.2.1.1)) s1) && cstop (Cs.map (fun C => C.2.1.2.1)) s2) = true then (match fstepB st1 K F I s1 with
          | some (.inl s') => frun K Cs st1 st2 leaf n off F I s' s2
          | some (.inr c) => frun K Cs st1 st2 leaf n off (isatQ c true F I) I s1 s2 && frun K Cs st1 st2 leaf n off (isatQ c false F I) I s1 s2
          | none => qdead F I)
        else if (qdead F I || (!(cstop (Cs.map (fun C => C.2.1.1)) s1) && !(cstop (Cs.map (fun C => C.2.1.2.1)) s2))) = true then qdead F I else (match fstepB st1 K F I s1 with
          | some (.inl s') => frun K Cs st1 st2 leaf n off F I s' s2
          | some (.inr c) => frun K Cs st1 st2 leaf n off (isatQ c true F I) I s1 s2 && frun K Cs st1 st2 leaf n off (isatQ c false F I) I s1 s2
          | none => (match fstepB st2 K F I s2 with
          | some (.inl s') => frun K Cs st1 st2 leaf n off F I s1 s'
          | some (.inr c) => frun K Cs st1 st2 leaf n off (isatQ c true F I) I s1 s2 && frun K Cs st1 st2 leaf n off (isatQ c false F I) I s1 s2
          | none => qdead F I)))
section FRUN
variable {X : pX} {K : sK} {ρ : sR}
theorem sc_swap {c : sQ} (h : c.1 = 0 ∨ c.1 = 6) : sc X ρ (c.1, c.2.2, c.2.1) = sc X ρ c := by
  obtain ⟨k, a, b⟩ := c
  dsimp only at h ⊢
  rcases h with rfl | rfl
  · exact decide_eq_decide.mpr ⟨Eq.symm, Eq.symm⟩
  · exact decide_eq_decide.mpr ⟨Eq.symm, Eq.symm⟩
theorem qi_ok {F : sFs} (hF : fok X ρ F) {c : sQ} {b : Bool} : ∀ {I : sI}, iok X ρ I → qi F c I = some b → sc X ρ c = b
  | [], _, h => by cases h
  | x :: r, hI, h => by
    unfold qi at h
    cases hq : (qqe x.2.1 c || ((Nat.beq c.1 0 || Nat.beq c.1 6) && qqe x.2.1 (c.1, c.2.2, c.2.1))) && x.1.all (fun g => kdec F g.1 g.2) with
    | true =>
      rw [hq] at h
      cases h
      simp only [Bool.and_eq_true, Bool.or_eq_true, List.all_eq_true] at hq
      have h1 := hI x List.mem_cons_self (fun g hg => kdec_ok hF (hq.2 g hg))
      rcases hq.1 with e | ⟨e0, e⟩
      · rw [← qqe_ok e]; exact h1
      · rw [← sc_swap (by rcases e0 with e0 | e0; (· exact Or.inl (Nat.eq_of_beq_eq_true e0)); exact Or.inr (Nat.eq_of_beq_eq_true e0)), ← qqe_ok e]; exact h1
    | false =>
      rw [hq] at h
      exact qi_ok hF (fun y hy => hI y (List.mem_cons_of_mem _ hy)) h
theorem qx_ok {F : sFs} {I : sI} (hF : fok X ρ F) (hI : iok X ρ I) {c : sQ} {b : Bool} (h : qx F I c = some b) : sc X ρ c = b := by
  unfold qx at h
  split at h
  · next b' hb => cases h; exact qfind_ok hF.2 hb
  · split at h
    · next b' hb => cases h; exact sdec_ok hF hb
    · split at h
      · next b' hb => cases h; exact qi_ok hF hI hb
      · split at h
        · next b' hb => cases h; exact odec_ok hF.2 hb
        · exact xdecX_ok hF h
theorem isatP_ok {F : sFs} {I : sI} (hF : fok X ρ F) (hI : iok X ρ I) : fok X ρ (isatP F I) := isat_ok hF (fun c hc => hI c (List.mem_filter.mp hc).1)
theorem qdead_ok {F : sFs} {I : sI} (hF : fok X ρ F) (hI : iok X ρ I) (h : qdead F I = true) : False := by
  unfold qdead at h
  exact scon_ok (isat_ok hF hI) h
/-- every step is one over facts that hold -/
theorem qstep_ok {F : sFs} {I : sI} (hF : fok X ρ F) (hI : iok X ρ I) : ∀ (n : Nat) (G : sFs) (s s' : sS), fok X ρ G → qstep K F I n G s = some (.inl s') → ∃ G' : sFs, fok X ρ G' ∧ sstepG ysN K G' pF pdfl mt_all hlp s.1 s.2.1 s.2.2.1 s.2.2.2.1 s.2.2.2.2 = some (.inl s')
  | 0, _, _, _, _, h => by cases h
  | n + 1, G, s, s', hG, h => by
    unfold qstep at h
    split at h
    · next s1 hs => cases h; exact ⟨G, hG, hs⟩
    · next c hs =>
      split at h
      · next b hb => exact qstep_ok hF hI n _ s s' ⟨hG.1, fun f hf => by rcases List.mem_cons.mp hf with e | hf; (· rw [e]; exact qx_ok hF hI hb); exact hG.2 f hf⟩ h
      · cases h
    · cases h
theorem fstep_ok {F : sFs} {I : sI} (hF : fok X ρ F) (hI : iok X ρ I) {s s' : sS} (h : fstep K F I s = some (.inl s')) : ∃ G' : sFs, fok X ρ G' ∧ sstepG ysN K G' pF pdfl mt_all hlp s.1 s.2.1 s.2.2.1 s.2.2.2.1 s.2.2.2.2 = some (.inl s') := by
  unfold fstep at h
  cases hq : qful s with
  | true =>
    rw [hq] at h
    exact qstep_ok hF hI 64 F s s' hF h
  | false =>
    rw [hq] at h
    dsimp only [cond_false] at h
    split at h
    · next r hr => rw [h] at hr; exact qstep_ok hF hI 64 [] s s' ⟨hF.1, fun f hf => by cases hf⟩ hr
    · exact qstep_ok hF hI 64 F s s' hF h
theorem isatQ_ok {F : sFs} {I : sI} {c : sQ} {b : Bool} (hF : fok X ρ F) (hc : sc X ρ c = b) (hI : iok X ρ I) : fok X ρ (isatQ c b F I) := by
  have hF' : fok X ρ ((c, b) :: F) := ⟨hF.1, fun f hf => by rcases List.mem_cons.mp hf with e | hf; (· rw [e]; exact hc); exact hF.2 f hf⟩
  refine ⟨hF.1, fun f hf => ?_⟩
  rcases List.mem_append.mp hf with hf | hf
  · obtain ⟨i, hi, hf⟩ := List.mem_filterMap.mp hf
    cases hq : i.1.any (fun g => qrel c g.1) with
    | false => rw [hq] at hf; cases hf
    | true =>
      rw [hq] at hf
      dsimp only [cond_true] at hf
      split at hf
      · next hg =>
        cases hf
        simp only [Bool.and_eq_true, List.all_eq_true, decide_eq_true_eq] at hg
        exact hI i hi (fun g hgm => sdec_ok hF' (hg.1 g hgm))
      · cases hf
  · exact hF'.2 f hf
theorem fstepB_ok {stp : List (Nat × Nat)} {F : sFs} {I : sI} (hF : fok X ρ F) (hI : iok X ρ I) {s s' : sS} (h : fstepB stp K F I s = some (.inl s')) : ∃ n : Nat, SCHN X K ρ n s s' := by
  unfold fstepB at h
  split at h
  · next s1 hs =>
    cases h
    obtain ⟨G', hG', hs'⟩ := fstep_ok hF hI hs
    obtain ⟨n, hn⟩ := blkS_ok (K := K) (stp := stp) hF.1 s1
    exact ⟨n + 1, G', s1, hG', hs', hn⟩
  · cases h
  · cases h
theorem frun_ok (hx : K.2.2.2 = false) (hk0 : ∀ a l, K.2.2.1 a = some l → a < 1000) {Cs : List (sH × sC)} (hCs : ∀ C ∈ Cs, SREL X pF pdfl mt_all K C.1 C.2) {st1 st2 : List (Nat × Nat)} {leaf : sFs → sI → sS → sS → Bool} {dc dm : Nat} {Zc Zm : sH} {J : sR → List Value → List Value → Prop} {n0 : Nat} {l1 l2 : sH} {A : sR → Prop} (hA : ∀ (off : Nat) (ρ ρ'' : sR), n0 ≤ off → agr off ρ'' ρ → A ρ → A ρ'') (hleaf : ∀ (ρ : sR) (F : sFs) (I : sI) (s1 s2 : sS), kok X ρ K → fok X ρ F → iok X ρ I → A ρ → kdom l1 s1.2.2.2.1 → kdom l2 s2.2.2.2.1 → leaf F I s1 s2 = true → RelP X pF pdfl mt_all dc dm Zc Zm J ρ s1 s2) : ∀ (n off : Nat) (F : sFs) (I : sI) (s1 s2 : sS) (ρ : sR), n0 ≤ off → frun K Cs st1 st2 leaf n off F I s1 s2 = true → kok X ρ K → fok X ρ F → iok X ρ I → A ρ → kdom l1 s1.2.2.2.1 → kdom l2 s2.2.2.2.1 → RelP X pF pdfl mt_all dc dm Zc Zm J ρ s1 s2
  | 0, _, _, _, _, _, _, _, h, _, _, _, _, _, _ => by cases h
  | n + 1, off, F, I, s1, s2, ρ, ho, h, hK, hF, hI, hag, hd1, hd2 => by
    have ih := frun_ok hx hk0 hCs hA hleaf (st1 := st1) (st2 := st2) n
    have split2 : ∀ c : sQ, (frun K Cs st1 st2 leaf n off (isatQ c true F I) I s1 s2 && frun K Cs st1 st2 leaf n off (isatQ c false F I) I s1 s2) = true → RelP X pF pdfl mt_all dc dm Zc Zm J ρ s1 s2 := by
      intro c h
      simp only [Bool.and_eq_true] at h
      cases hc : sc X ρ c with
      | true => exact ih off _ I s1 s2 ρ ho h.1 hK (isatQ_ok hF hc hI) hI hag hd1 hd2
      | false => exact ih off _ I s1 s2 ρ ho h.2 hK (isatQ_ok hF hc hI) hI hag hd1 hd2
    have one : ∀ {r : Bool}, r = (match fstepB st1 K F I s1 with
        | some (.inl s') => frun K Cs st1 st2 leaf n off F I s' s2
        | some (.inr c) => frun K Cs st1 st2 leaf n off (isatQ c true F I) I s1 s2 && frun K Cs st1 st2 leaf n off (isatQ c false F I) I s1 s2
        | none => qdead F I) → r = true → RelP X pF pdfl mt_all dc dm Zc Zm J ρ s1 s2 := by
      intro r e h
      rw [e] at h
      split at h
      · next s' hs =>
        obtain ⟨nB, hs'⟩ := fstepB_ok hF hI hs
        exact RelP.cN hx hK nB hs' (ih off F I s' s2 ρ ho h hK hF hI hag (kdN hx nB hs' hd1) hd2)
      · next c hs => exact split2 c h
      · exact (qdead_ok hF hI h).elim
    have two : ∀ {r : Bool}, r = (match fstepB st2 K F I s2 with
        | some (.inl s') => frun K Cs st1 st2 leaf n off F I s1 s'
        | some (.inr c) => frun K Cs st1 st2 leaf n off (isatQ c true F I) I s1 s2 && frun K Cs st1 st2 leaf n off (isatQ c false F I) I s1 s2
        | none => qdead F I) → r = true → RelP X pF pdfl mt_all dc dm Zc Zm J ρ s1 s2 := by
      intro r e h
      rw [e] at h
      split at h
      · next s' hs =>
        obtain ⟨nB, hs'⟩ := fstepB_ok hF hI hs
        exact RelP.mN hx hK nB hs' (ih off F I s1 s' ρ ho h hK hF hI hag hd1 (kdN hx nB hs' hd2))
      · next c hs => exact split2 c h
      · exact (qdead_ok hF hI h).elim
    have three : ∀ {r : Bool}, r = (match fstepB st1 K F I s1 with
        | some (.inl s') => frun K Cs st1 st2 leaf n off F I s' s2
        | some (.inr c) => frun K Cs st1 st2 leaf n off (isatQ c true F I) I s1 s2 && frun K Cs st1 st2 leaf n off (isatQ c false F I) I s1 s2
        | none => (match fstepB st2 K F I s2 with
          | some (.inl s') => frun K Cs st1 st2 leaf n off F I s1 s'
          | some (.inr c) => frun K Cs st1 st2 leaf n off (isatQ c true F I) I s1 s2 && frun K Cs st1 st2 leaf n off (isatQ c false F I) I s1 s2
          | none => qdead F I)) → r = true → RelP X pF pdfl mt_all dc dm Zc Zm J ρ s1 s2 := by
      intro r e h
      rw [e] at h
      split at h
      · next s' hs =>
        obtain ⟨nB, hs'⟩ := fstepB_ok hF hI hs
        exact RelP.cN hx hK nB hs' (ih off F I s' s2 ρ ho h hK hF hI hag (kdN hx nB hs' hd1) hd2)
      · next c hs => exact split2 c h
      · exact two rfl h
    unfold frun at h
    split at h
    · next r hr =>
      have hr : rone K off F I s1 s2 Cs = some r := by
        cases hq : atcall s1 || atcall s2 with
        | true => rw [hq] at hr; exact hr
        | false => rw [hq] at hr; cases hr
      obtain ⟨F', I', s1', s2'⟩ := r
      refine rone_ok hx hk0 hK hF hI Cs hCs hr (fun ρ'' h1 h2 h3 h4 => ?_)
      exact ih (off + 65536) _ I' s1' s2' ρ'' (by omega) h h2 (isatP_ok h3 h4) h4 (hA off ρ ρ'' ho h1 hag) (rone_dom hd1 hd2 Cs hr).1 (rone_dom hd1 hd2 Cs hr).2
    split at h
    · exact one rfl h
    · split at h
      · exact two rfl h
      · split at h
        · next hlf => exact hleaf ρ F I s1 s2 hK hF hI hag hd1 hd2 hlf
        · split at h
          · next r hr =>
            obtain ⟨F', I', s1', s2'⟩ := r
            obtain ⟨C, hC, hg, hap⟩ := rtry_ok Cs hr
            refine rapp_ok hx hk0 (hCs C hC) hg hK hF hI hap (fun ρ'' h1 h2 h3 h4 => ?_)
            exact ih (off + 65536) _ I' s1' s2' ρ'' (by omega) h h2 (isatP_ok h3 h4) h4 (hA off ρ ρ'' ho h1 hag) (rapp_dom hap hd1 hd2).1 (rapp_dom hap hd1 hd2).2
          · split at h
            · exact two rfl h
            · split at h
              · exact one rfl h
              · split at h
                · exact (qdead_ok hF hI h).elim
                · exact three rfl h
end FRUN
