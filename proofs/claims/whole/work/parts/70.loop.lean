/-! ===== the lowest frame keeps its code ===== -/
theorem pm_seek_drop (C : List pOp) (n : Nat) : ∃ j, pm_seek C n = C.drop j := by
  induction C with
  | nil => exact ⟨0, rfl⟩
  | cons o t ih =>
    unfold pm_seek at ih ⊢
    rw [List.dropWhile_cons]
    split
    · obtain ⟨j, hj⟩ := ih
      exact ⟨j + 1, hj⟩
    · exact ⟨0, rfl⟩
theorem pm_to_drop {C tail cur' : List pOp} {pc len : Nat} {x : Option Int} {i : Nat} (ht : tail = C.drop i) (h : pm_to C tail pc len x = some cur') : ∃ j, cur' = C.drop j := by
  unfold pm_to at h
  split at h
  · split at h
    · split at h
      · cases h; exact ⟨i, ht⟩
      · cases h
    · cases h
  · split at h
    · cases h; exact pm_seek_drop C _
    · cases h
def cI (C : List pOp) (s : sS) : Prop := ∃ f : sF, (s.1 :: s.2.1).getLast? = some f ∧ f.2.2.2.2.1 = C ∧ ∃ j, f.2.2.2.2.2.1 = C.drop j
section CODE
variable {C : List pOp} {k nL : Nat} {ret : Option FieldType} {hs : pHd} {full tail cur' : List pOp} {o : pOp} {lv lv' : sL} {st st' : List sT} {fs : List sF} {d d' : Nat} {G G' : sH} {sl sl' : Nat} {pc len : Nat} {x : Option Int}
theorem cI_top (h : cI C ((k, nL, ret, hs, full, o :: tail, lv, st), fs, d, G, sl)) (hto : pm_to full tail pc len x = some cur') (k' nL' : Nat) (ret' : Option FieldType) (hs' : pHd) : cI C ((k', nL', ret', hs', full, cur', lv', st'), fs, d', G', sl') := by
  obtain ⟨f, h1, h2, j, h3⟩ := h
  cases fs with
  | nil =>
    cases h1
    have h2 : full = C := h2
    have h3 : o :: tail = C.drop j := h3
    have h4 : tail = C.drop (j + 1) := by
      have := congrArg List.tail h3
      rw [List.tail_cons, List.tail_drop] at this
      exact this
    subst h2
    exact ⟨_, rfl, rfl, pm_to_drop h4 hto⟩
  | cons f1 fs1 =>
    refine ⟨f, ?_, h2, j, h3⟩
    rw [List.getLast?_cons_cons] at h1 ⊢
    exact h1
theorem cI_call (h : cI C ((k, nL, ret, hs, full, o :: tail, lv, st), fs, d, G, sl)) (hto : pm_to full tail pc len x = some cur') (k' nL' : Nat) (ret' : Option FieldType) (hs' : pHd) (f0 : sF) : cI C (f0, (k', nL', ret', hs', full, cur', lv', st') :: fs, d', G', sl') := by
  obtain ⟨f, h1, h2⟩ := cI_top (lv' := lv') (st' := st') (d' := d') (G' := G') (sl' := sl') h hto k' nL' ret' hs'
  exact ⟨f, by rw [List.getLast?_cons_cons]; exact h1, h2⟩
theorem cI_pop {f f1 : sF} (h : cI C (f, f1 :: fs, d, G, sl)) : cI C (f1, fs, d', G', sl') := by
  obtain ⟨g, h1, h2⟩ := h
  exact ⟨g, by rw [List.getLast?_cons_cons] at h1; exact h1, h2⟩
theorem cI_st (h : cI C ((k, nL, ret, hs, full, tail, lv, st), fs, d, G, sl)) (st'' : List sT) : cI C ((k, nL, ret, hs, full, tail, lv, st''), fs, d', G', sl') := by
  obtain ⟨g, h1, h2, h3⟩ := h
  cases fs with
  | nil => cases h1; exact ⟨_, rfl, h2, h3⟩
  | cons f1 fs1 => exact ⟨g, by rw [List.getLast?_cons_cons] at h1 ⊢; exact h1, h2, h3⟩
theorem cI_wake {f : sF} {v : Option sT} {s' : sS} (h : cI C (f, fs, d, G, sl)) (hw : swake fs v d' G' sl' = some s') : cI C s' := by
  unfold swake at hw
  split at hw
  · cases hw
    exact cI_st (cI_pop (d' := d) (G' := G) (sl' := sl) h) _
  · cases hw
theorem cI_unw {E : Nat} {s' : sS} : ∀ (fs : List sF) (f : sF) (d d' : Nat), cI C (f, fs, d, G, sl) → sunw E G' sl' fs d' = some s' → cI C s'
  | [], _, _, _, _, h => by cases h
  | f1 :: fs, f, d, d', hc, h => by
    unfold sunw at h
    split at h
    · split at h
      · exact cI_unw fs f1 d (d' + 1) (cI_pop hc) h
      · cases h
    · split at h
      · split at h
        · exact cI_wake (cI_pop (d' := d) (G' := G) (sl' := sl) hc) h
        · cases h
      · cases h
theorem cI_scall {Mt : List pM} {k' y kw : Nat} {hs' : pHd} {as rest : List sT} {s' : sS} {ins : Instr} {r1 r2 : Nat} {r3 : Int} (h : cI C ((k, nL, ret, hs, full, (pc, ins, len, r1, r2, r3) :: tail, lv, st), fs, d, G, sl)) (hto : pm_to full tail pc len none = some cur') (hc : scall Mt k' hs' y as rest (k, nL, ret, hs, full, (pc, ins, len, r1, r2, r3) :: tail, lv, st) cur' kw fs d G sl = some s') : cI C s' := by
  obtain ⟨M, o, t, d1, -, -, -, -, -, rfl⟩ := scall_inv hc
  exact cI_call h hto _ _ _ _ _
theorem cI_step {K : sK} {F : sFs} {Ft : Nat → Nat → FieldType} {dfl : Nat → Nat × List Value} {Mt : List pM} {hl : Nat → Option (pHd × Nat)} {f : sF} {s' : sS} (h : sstep K F Ft dfl Mt hl f fs d G sl = some (.inl s')) (hc : cI C (f, fs, d, G, sl)) : cI C s' := by
  obtain ⟨k, nL, ret, hs, full, cur, lv, st⟩ := f
  unfold sstep at h
  dsimp only at h
  split at h
  · cases h
  · next pc ins len r1 r2 r3 tail =>
    split at h
    · split at h
      · cases h
      · split at h
        · next v hv =>
          split at h
          · split at h
            · split at h
              · obtain ⟨s1, hs1, e1⟩ := Option.map_eq_some_iff.mp h
                cases e1
                exact cI_wake hc hs1
              · cases h
            · cases h
          · obtain ⟨s1, hs1, e1⟩ := Option.map_eq_some_iff.mp h
            cases e1
            exact cI_wake hc hs1
        · cases h
    · split at h
      · split at h
        · next q hq cur' ha hhl hto =>
          obtain ⟨s1, hs1, e1⟩ := Option.map_eq_some_iff.mp h
          cases e1
          exact cI_scall hc hto hs1
        · cases h
      · split at h
        · split at h
          · next cur' hto => cases h; exact cI_top hc hto _ _ _ _
          · cases h
        · cases h
        · split at h
          · split at h
            · next cur' hto => cases h; exact cI_top hc hto _ _ _ _
            · cases h
          · cases h
          · split at h
            · split at h
              · cases h
              · split at h
                · next cur' hto =>
                  obtain ⟨s1, hs1, e1⟩ := Option.map_eq_some_iff.mp h
                  cases e1
                  exact cI_scall hc hto hs1
                · cases h
            · split at h
              · split at h
                · split at h
                  · split at h
                    · split at h
                      · next cur' hto => cases h; exact cI_top hc hto _ _ _ _
                      · cases h
                    · cases h
                  · cases h
                · cases h
              · split at h
                · obtain ⟨s1, hs1, e1⟩ := Option.map_eq_some_iff.mp h
                  cases e1
                  exact cI_unw fs _ _ _ hc hs1
                · cases h
              · cases h
theorem cI_stepF {ys : Nat × Nat × Nat} {K : sK} {F : sFs} {Ft : Nat → Nat → FieldType} {dfl : Nat → Nat × List Value} {Mt : List pM} {hl : Nat → Option (pHd × Nat)} {f : sF} {s' : sS} (h : sstepF ys K F Ft dfl Mt hl f fs d G sl = some (.inl s')) (hc : cI C (f, fs, d, G, sl)) : cI C s' := by
  obtain ⟨k, nL, ret, hs, full, cur, lv, st⟩ := f
  unfold sstepF at h
  dsimp only at h
  split at h
  · next pc i len r1 r2 r3 tail =>
    split at h
    · split at h
      · next q cur' ha hto =>
        split at h
        · cases h; exact cI_top hc hto _ _ _ _
        · split at h
          · cases h; exact cI_top hc hto _ _ _ _
          · exact cI_step h hc
      · cases h
    · exact cI_step h hc
  · exact cI_step h hc
theorem cI_stepG {ys : Nat × Nat × Nat} {K : sK} {F : sFs} {Ft : Nat → Nat → FieldType} {dfl : Nat → Nat × List Value} {Mt : List pM} {hl : Nat → Option (pHd × Nat)} {f : sF} {s' : sS} (h : sstepG ys K F Ft dfl Mt hl f fs d G sl = some (.inl s')) (hc : cI C (f, fs, d, G, sl)) : cI C s' := by
  obtain ⟨k, nL, ret, hs, full, cur, lv, st⟩ := f
  cases cur with
  | nil => cases h
  | cons o tail =>
    obtain ⟨pc, ins, len, r1, r2, r3⟩ := o
    unfold sstepG at h
    dsimp only at h
    split at h
    · next hi => exact cI_step (sstepQ_eq (Mt := Mt) (hl := hl) hi h) hc
    · exact cI_stepF h hc
end CODE
section RUNI
variable {X : pX} {Ft : Nat → Nat → FieldType} {dfl : Nat → Nat × List Value} {Mt : List pM} {lw : Nat × List pOp × Nat} {P : pC → Prop} {hl : Nat → Option (pHd × Nat)} {K : sK} {ρ : sR}
theorem srunI_ok {C : List pOp} {yf : Nat × Nat × Nat} (hfl : flok Mt yf) (hP : Pback X Ft dfl Mt hl lw P) (hK : kok X ρ K) {leaf : sFs → sS → Bool} (hl0 : ∀ F s, fok X ρ F → cI C s → leaf F s = true → GP X Ft dfl Mt lw P ρ s) : ∀ (n : Nat) (F : sFs) (s : sS), srun yf Ft dfl Mt hl K leaf n F s = true → fok X ρ F → cI C s → GP X Ft dfl Mt lw P ρ s
  | 0, F, s, h, hF, hc => hl0 F s hF hc h
  | n + 1, F, (f, fs, d, G, sl), h, hF, hc => by
    unfold srun at h
    dsimp only at h
    split at h
    · next hle => exact hl0 F _ hF hc hle
    · split at h
      · next s' hs => exact fun G hR => sstepG_ok hfl hP hs hK hF hR (srunI_ok hfl hP hK hl0 n F s' h hF (cI_stepG hs hc))
      · next c hs =>
        simp only [Bool.and_eq_true] at h
        cases hcc : sc X ρ c with
        | true => exact srunI_ok hfl hP hK hl0 n _ _ h.1 ⟨hF.1, fun f hf => by rcases List.mem_cons.mp hf with e | hf; (· rw [e]; exact hcc); exact hF.2 f hf⟩ hc
        | false => exact srunI_ok hfl hP hK hl0 n _ _ h.2 ⟨hF.1, fun f hf => by rcases List.mem_cons.mp hf with e | hf; (· rw [e]; exact hcc); exact hF.2 f hf⟩ hc
      · exact (scon_ok hF h).elim
/-- a case of a pattern, whatever the code: the lowest frame alone -/
def finstL (F : sFs) (σ : sM) (f0 f : sF) : Bool := match f0, f with
  | (k0, nL0, ret0, hs0, _, _, lv0, st0), (k, nL, ret, hs, _, _, lv, st) => Nat.beq k0 k && (Nat.beq nL0 nL && (teqs F (st0.map (ssub σ)) st && (st0.all scl && (lv0.all (fun q => scl q.2 && lv.any (fun z => decide (z.1 = q.1) && teq F (ssub σ q.2) z.2)) && (decide ((lv.map (fun q => q.1)).Nodup) && (decide (ret0 = ret) && decide (hs0 = hs)))))))
theorem finstL_ok {F : sFs} (hF : fok X ρ F) {σ : sM} (h : sMok K σ = true) {f0 f : sF} (hf : finstL F σ f0 f = true) (h1 : f0.2.2.2.2.1 = f.2.2.2.2.1) (h2 : f0.2.2.2.2.2.1 = f.2.2.2.2.2.1) : fle X (rsub X ρ σ) ρ f0 f := by
  obtain ⟨k0, nL0, ret0, hs0, full0, cur0, lv0, st0⟩ := f0
  obtain ⟨k, nL, ret, hs, full, cur, lv, st⟩ := f
  simp only [finstL, Bool.and_eq_true, decide_eq_true_eq] at hf
  obtain ⟨e1, e2, e3, e4, e5, e6, e7, e8⟩ := hf
  refine ⟨⟨Nat.eq_of_beq_eq_true e1, Nat.eq_of_beq_eq_true e2, e7, e8, h1, h2⟩, ?_, ?_, ?_⟩
  · intro q hq
    obtain ⟨z, hz, rfl⟩ := List.mem_map.mp hq
    have h1 := List.all_eq_true.mp e5 z hz
    simp only [Bool.and_eq_true, List.any_eq_true, decide_eq_true_eq] at h1
    obtain ⟨h2, w, hw, h3, h4⟩ := h1
    refine List.mem_map.mpr ⟨_, hw, ?_⟩
    rw [← teq_ok hF h4, ssub_v h z.2 h2, h3]
  · unfold lvnd dL
    rw [List.map_map]
    exact e6
  · dsimp only
    rw [← slsub_v h e4]
    exact teqs_ok hF e3
def sinstL (K : sK) (F : sFs) (σ : sM) (F0 : sFs) (s0 s : sS) : Bool := decide (s0.2.2.1 = s.2.2.1) && (decide (s0.2.2.2.2 = s.2.2.2.2) && (sMok K σ && (fhold F σ F0 && (hinst K F σ s0.2.2.2.1 s.2.2.2.1 && (finstL F σ s0.1 s.1 && (s0.2.1.isEmpty && s.2.1.isEmpty))))))
theorem sinstL_ok (hPm : Pmono P) {F F0 : sFs} {σ : sM} {s0 s : sS} (hi : sinstL K F σ F0 s0 s = true) (h1 : s0.1.2.2.2.2.1 = s.1.2.2.2.2.1) (h2 : s0.1.2.2.2.2.2.1 = s.1.2.2.2.2.2.1) {G : pH} (hK : kok X ρ K) (hF : fok X ρ F) (hR : HR X ρ s.2.2.2.1 G) (hg : kok X (rsub X ρ σ) K → fok X (rsub X ρ σ) F0 → HR X (rsub X ρ σ) s0.2.2.2.1 G → GG X Ft dfl Mt lw P (rsub X ρ σ) s0.1 s0.2.1 s0.2.2.1 (s0.2.2.2.2 + rS ρ) G) : GG X Ft dfl Mt lw P ρ s.1 s.2.1 s.2.2.1 (s.2.2.2.2 + rS ρ) G := by
  simp only [sinstL, Bool.and_eq_true, decide_eq_true_eq, List.isEmpty_iff] at hi
  obtain ⟨e1, e2, e3, e4, e5, e6, e7, e8⟩ := hi
  rw [← e1, ← e2]
  exact GG_le hPm (finstL_ok hF e3 e6 h1 h2) (by rw [e7, e8]; trivial) (hg (kok_sub hK e3) (fhold_ok hF e3 e4) (HR_sub hF hK e3 e5 hR))
end RUNI
/-! ===== the law's loop: cells that nobody looks at may have come, and slots ===== -/
def rsh (ρ : sR) (a b : Nat) : sR := (ρ.1, ρ.2.1, ρ.2.2.1, ρ.2.2.2.1, rB ρ, rC ρ + a, rS ρ + b)
section SHIFT
variable {X : pX} {Ft : Nat → Nat → FieldType} {dfl : Nat → Nat × List Value} {Mt : List pM} {lw : Nat × List pOp × Nat} {P : pC → Prop} {ρ : sR} {a b : Nat}
theorem sd_sh (t : sT) : sd X (rsh ρ a b) t = sd X ρ t := by
  induction t <;> simp only [sd, rsh] <;> simp_all only [rsh]
theorem sv_sh (t : sT) : sv X (rsh ρ a b) t = sv X ρ t := by
  unfold sv
  split <;> first | rfl | rw [sd_sh]
theorem dL_sh (lv : sL) : dL X (rsh ρ a b) lv = dL X ρ lv := by
  unfold dL
  exact List.map_congr_left (fun q _ => by rw [sv_sh])
theorem dS_sh (st : List sT) : dS X (rsh ρ a b) st = dS X ρ st := by
  unfold dS
  exact List.map_congr_left (fun t _ => sv_sh t)
theorem KK_sh : ∀ (fs : List sF) (d : Nat) (r : pRes), KK X Ft dfl Mt lw P (rsh ρ a b) fs d r = KK X Ft dfl Mt lw P ρ fs d r
  | [], _, _ => rfl
  | f :: fs, d, (.inl v, G, sl) => by
    have ih : KK X Ft dfl Mt lw P (rsh ρ a b) fs (d + 1) = KK X Ft dfl Mt lw P ρ fs (d + 1) := funext (fun r => KK_sh fs (d + 1) r)
    simp only [KK, dL_sh, dS_sh, ih]
  | f :: fs, d, (.inr E, G, sl) => by
    have ih : KK X Ft dfl Mt lw P (rsh ρ a b) fs (d + 1) = KK X Ft dfl Mt lw P ρ fs (d + 1) := funext (fun r => KK_sh fs (d + 1) r)
    simp only [KK, ih]
theorem GG_sh (f : sF) (fs : List sF) (d sl : Nat) (G : pH) : GG X Ft dfl Mt lw P (rsh ρ a b) f fs d sl G = GG X Ft dfl Mt lw P ρ f fs d sl G := by
  have ih : KK X Ft dfl Mt lw P (rsh ρ a b) fs (d + 1) = KK X Ft dfl Mt lw P ρ fs (d + 1) := funext (fun r => KK_sh fs (d + 1) r)
  simp only [GG, dL_sh, dS_sh, ih]
theorem sn_sh (t : sT) : sn X (rsh ρ a b) t = sn X ρ t := by
  unfold sn
  rw [sd_sh]
theorem fok_sh {F : sFs} (h : fok X ρ F) : fok X (rsh ρ a b) F := ⟨⟨fun i r hr => by rw [sn_sh]; exact h.1.1 i r hr, fun c t r hr => by rw [sn_sh]; exact h.1.2 c t r hr⟩, fun f hf => by
  rw [← h.2 f hf]
  simp only [sc, sd_sh]⟩
theorem aden_sh (base : sT) (j : Nat) : ∀ u : List (sT × sT), aden X (rsh ρ a b) base u j = aden X ρ base u j
  | [] => by
    unfold aden bden
    split
    · rfl
    · exact sv_sh _
  | x :: r => by
    unfold aden
    rw [sd_sh, sv_sh, aden_sh base j r]
theorem CR_sh {e : sE} {y : pE} (h : CR X ρ e y) : CR X (rsh ρ a b) e y := by
  cases e with
  | inl x =>
    cases y with
    | inl z =>
      obtain ⟨h1, h2, h3, h4⟩ := h
      exact ⟨h1, h2, fun j hj => by rw [aden_sh]; exact h3 j hj, fun u hu => by rw [sd_sh]; exact h4 u hu⟩
    | inr z => exact h
  | inr x =>
    cases y with
    | inl z => exact h
    | inr z =>
      have h : z = (x.1, x.2.map (sv X ρ)) := h
      show z = (x.1, x.2.map (sv X (rsh ρ a b)))
      rw [h]
      exact congrArg (fun l => (x.1, l)) (List.map_congr_left (fun t _ => (sv_sh t).symm))
theorem kok_sh {K : sK} (hx : K.2.2.2 = false) (h : kok X ρ K) : kok X (rsh ρ a b) K := ⟨h.1, h.2.1, h.2.2.1, fun h9 => by rw [hx] at h9; cases h9⟩
/-- a state whose own cells and slots are so many -/
def snorm (n m : Nat) (s : sS) : sS := (s.1, s.2.1, s.2.2.1, (s.2.2.2.1.1, n), m)
theorem GP_norm {s : sS} {n m : Nat} (h1 : s.2.2.2.1.2 = n + a) (h2 : s.2.2.2.2 = m + b) (hg : GP X Ft dfl Mt lw P (rsh ρ a b) (snorm n m s)) : GP X Ft dfl Mt lw P ρ s := fun G hR => by
  have := hg G ⟨by
      have := hR.1
      show n + (rC ρ + a) = G.length
      omega, fun k e hk => by
      obtain ⟨y, hy, hc⟩ := hR.2.1 k e hk
      exact ⟨y, hy, CR_sh hc⟩, hR.2.2.1, hR.2.2.2⟩
  rw [GG_sh] at this
  rw [show s.2.2.2.2 + rS ρ = m + (rS ρ + b) by omega]
  exact this
end SHIFT
/-- a place in the code by its number -/
theorem drop_pc {C : List pOp} {n j : Nat} (h1 : (C.filter (fun o => o.1 == n)).length = 1) {o : pOp} {t : List pOp} (hj : C.drop j = o :: t) (ho : o.1 = n) : C.drop j = pm_seek C n := by
  have e : C = C.take j ++ (o :: t) := by rw [← hj]; exact (List.take_append_drop j C).symm
  have hf : (C.take j).filter (fun o => o.1 == n) = [] := by
    rw [e, List.filter_append, List.length_append, List.filter_cons_of_pos (by simpa using ho), List.length_cons] at h1
    exact List.eq_nil_of_length_eq_zero (by omega)
  have key : ∀ l : List pOp, l.filter (fun o => o.1 == n) = [] → List.dropWhile (fun o => !(o.1 == n)) (l ++ o :: t) = o :: t := by
    intro l
    induction l with
    | nil =>
      intro _
      rw [List.nil_append, List.dropWhile_cons, if_neg (by simp [ho])]
    | cons a l ih =>
      intro hl
      rw [List.filter_cons] at hl
      split at hl
      · cases hl
      · next ha =>
        rw [List.cons_append, List.dropWhile_cons, if_pos (by simpa using ha)]
        exact ih hl
  rw [hj]
  unfold pm_seek
  rw [e]
  exact (key _ hf).symm
theorem law33 : (mo_455.filter (fun o => o.1 == 33)).length = 1 := by decide +kernel
section LOOP
variable {L : Nat} {xs : Nat → Int32}
abbrev GPL (L : Nat) (xs : Nat → Int32) (ρ : sR) (s : sS) : Prop := GP (pXs L xs) pF pdfl mt_all lwN (PE L xs) ρ s
/-- where the loop stands, and what has come so far -/
def LB (L : Nat) (kv : Nat) (ρ : sR) : Prop := 1 ≤ (ρ.1 kv).toInt ∧ (ρ.1 kv).toInt ≤ L + 1 ∧ 6 * (rC ρ : Int) + 1 ≤ (ρ.1 kv).toInt ∧ (rS ρ : Int) + 1 ≤ (ρ.1 kv).toInt
/-- what is owed at the loop's head, from there on -/
def LHead (L : Nat) (xs : Nat → Int32) (F0 : sFs) (s0 : sS) (kv : Nat) (N : Int) : Prop := ∀ ρ : sR, N ≤ (ρ.1 kv).toInt → LB L kv ρ → kok (pXs L xs) ρ kE → fok (pXs L xs) ρ F0 → GPL L xs ρ s0
/-- back at the head, six ints on -/
def sBack (F0 : sFs) (s0 : sS) (kv : Nat) (F : sFs) (s : sS) : Bool := decide (spc s0 = spc s) && (decide (s0.2.2.1 = s.2.2.1) && ((Nat.ble s0.2.2.2.1.2 s.2.2.2.1.2 && (Nat.ble s.2.2.2.1.2 (s0.2.2.2.1.2 + 1) && (Nat.ble s0.2.2.2.2 s.2.2.2.2 && Nat.ble s.2.2.2.2 (s0.2.2.2.2 + 6)))) && (decide (sfnd (smat s0 (snorm s0.2.2.2.1.2 s0.2.2.2.2 s)) kv = some (.add (.arg kv) (.int 6))) && sinstL kE F (smat s0 (snorm s0.2.2.2.1.2 s0.2.2.2.2 s)) F0 s0 (snorm s0.2.2.2.1.2 s0.2.2.2.2 s))))
/-- the head's own frame -/
def atHead (s0 : sS) : Prop := s0.1.2.2.2.2.1 = mo_455 ∧ s0.1.2.2.2.2.2.1 = pm_seek mo_455 33 ∧ spc s0 = 33
theorem sBack_ok {F0 : sFs} {s0 : sS} {kv : Nat} {F : sFs} {s : sS} {ρ : sR} (h0 : atHead s0) (hcI : cI mo_455 s) (hL : L ≤ 3073) (hB : LB L kv ρ) (hi : (ρ.1 kv).toInt + 6 ≤ L) (IH : LHead L xs F0 s0 kv ((ρ.1 kv).toInt + 6)) (hK : kok (pXs L xs) ρ kE) (hF : fok (pXs L xs) ρ F) (h : sBack F0 s0 kv F s = true) : GPL L xs ρ s := by
  simp only [sBack, Bool.and_eq_true, decide_eq_true_eq, Nat.ble_eq] at h
  obtain ⟨h7, -, ⟨h1, h2, h3, h4⟩, h5, h6⟩ := h
  have hfs : s.2.1 = [] := by
    have := h6
    simp only [sinstL, Bool.and_eq_true, List.isEmpty_iff] at this
    exact this.2.2.2.2.2.2.2
  obtain ⟨f, c1, c2, j, c3⟩ := hcI
  rw [hfs] at c1
  cases c1
  have c2 : s.1.2.2.2.2.1 = mo_455 := c2
  have c3 : s.1.2.2.2.2.2.1 = mo_455.drop j := c3
  have hcode : s0.1.2.2.2.2.2.1 = s.1.2.2.2.2.2.1 := by
    rw [h0.2.1]
    rw [h0.2.2] at h7
    unfold spc at h7
    split at h7
    · next o t ho =>
      rw [c3] at ho
      rw [c3]
      exact (drop_pc law33 ho h7.symm).symm
    · cases h7
  refine GP_norm (a := s.2.2.2.1.2 - s0.2.2.2.1.2) (b := s.2.2.2.2 - s0.2.2.2.2) (n := s0.2.2.2.1.2) (m := s0.2.2.2.2) (by omega) (by omega) (fun G hR => ?_)
  refine sinstL_ok (PE_mono L xs) h6 (h0.1.trans c2.symm) hcode (kok_sh rfl hK) (fok_sh hF) hR (fun k1 k2 k3 => ?_)
  obtain ⟨b1, b2, b3, b4⟩ := hB
  have e1 : (rsub (pXs L xs) (rsh ρ (s.2.2.2.1.2 - s0.2.2.2.1.2) (s.2.2.2.2 - s0.2.2.2.2)) (smat s0 (snorm s0.2.2.2.1.2 s0.2.2.2.2 s))).1 kv = ρ.1 kv + 6 := by
    simp only [rsub, h5, sd_sh, sd]
  have e2 : (ρ.1 kv + 6).toInt = (ρ.1 kv).toInt + 6 := s_add (y := 6) (by show _ ≤ (ρ.1 kv).toInt + 6; omega) (by show (ρ.1 kv).toInt + 6 ≤ _; omega)
  refine IH _ (by rw [e1, e2]; exact Int.le_refl _) ?_ k1 k2 G k3
  refine ⟨by rw [e1, e2]; omega, by rw [e1, e2]; omega, ?_, ?_⟩
  · rw [e1, e2]
    show 6 * ((rC ρ + (s.2.2.2.1.2 - s0.2.2.2.1.2) : Nat) : Int) + 1 ≤ _
    omega
  · rw [e1, e2]
    show ((rS ρ + (s.2.2.2.2 - s0.2.2.2.2) : Nat) : Int) + 1 ≤ _
    omega
/-- the law's end, with room for what came in the loop -/
def sEndL (s : sS) : Bool := match s with
  | ((k, _, _, _, _, cur, _, st), fs, _, G, sl) => decide (k = 2) && (fs.isEmpty && ((match cur with
    | o :: _ => opeq o (1952, .ireturn, 1, 0, 0, 0)
    | [] => false) && (decide (st = [.int 1]) && (Nat.ble G.2 1000 && Nat.ble sl 200000))))
theorem sEndL_ok {kv : Nat} {ρ : sR} (hL : L ≤ 3073) (hB : LB L kv ρ) {s : sS} (h : sEndL s = true) : GPL L xs ρ s := by
  obtain ⟨⟨k, nL, ret, hs, full, cur, lv, st⟩, fs, d, G, sl⟩ := s
  simp only [sEndL, Bool.and_eq_true, decide_eq_true_eq, Nat.ble_eq] at h
  obtain ⟨h1, h2, h3, h4, h5, h6⟩ := h
  obtain ⟨b1, b2, b3, b4⟩ := hB
  intro H hR
  unfold GG
  dsimp only
  rw [if_pos h1]
  intro _
  cases cur with
  | nil => cases h3
  | cons o t =>
    have ho := opeq_ok h3
    refine ⟨0, fun fuel _ => ⟨0, _, o, t, rfl, rfl, ?_, ?_, ?_, ?_, ?_⟩⟩
    · rw [ho]; exact mem_end
    · rw [ho]
    · show dS (pXs L xs) ρ st = _
      rw [h4]; rfl
    · have := hR.1
      dsimp only at this ⊢
      omega
    · dsimp only
      omega
/-- a road from a place in the loop: back to the head, or to the law's end -/
def lfL (F0 : sFs) (s0 : sS) (kv : Nat) (F : sFs) (s : sS) : Bool := sEndL s || sBack F0 s0 kv F s
noncomputable def runL (F0 : sFs) (s0 : sS) (kv n : Nat) (F : sFs) (s : sS) : Bool := srun ysN pF pdfl mt_all hlp kE (lfL F0 s0 kv) n F s
theorem runL_ok {F0 : sFs} {s0 : sS} {kv n : Nat} {F : sFs} {s : sS} {ρ : sR} (h0 : atHead s0) (hcI : cI mo_455 s) (hL : L ≤ 3073) (hB : LB L kv ρ) (hi : (ρ.1 kv).toInt + 6 ≤ L) (IH : LHead L xs F0 s0 kv ((ρ.1 kv).toInt + 6)) (hK : kok (pXs L xs) ρ kE) (hF : fok (pXs L xs) ρ F) (h : runL F0 s0 kv n F s = true) : GPL L xs ρ s :=
  srunI_ok (C := mo_455) flN (PE_back L xs) hK (fun F s hF hcI h => by
    simp only [lfL, Bool.or_eq_true] at h
    rcases h with h | h
    · exact sEndL_ok hL hB h
    · exact sBack_ok h0 hcI hL hB hi IH hK hF h) n F s h hF hcI
/-- splits ahead of a road -/
def psp (run : sFs → Bool) : List sQ → sFs → Bool
  | [], F => run F
  | c :: cs, F => run ((c, true) :: F) && psp run cs ((c, false) :: F)
theorem psp_ok {ρ : sR} {run : sFs → Bool} {Q : Prop} (hr : ∀ F, fok (pXs L xs) ρ F → run F = true → Q) : ∀ (cs : List sQ) (F : sFs), fok (pXs L xs) ρ F → psp run cs F = true → Q
  | [], F, hF, h => hr F hF h
  | c :: cs, F, hF, h => by
    simp only [psp, Bool.and_eq_true] at h
    cases hc : sc (pXs L xs) ρ c with
    | true => exact hr _ ⟨hF.1, fun f hf => by rcases List.mem_cons.mp hf with e | hf; (· rw [e]; exact hc); exact hF.2 f hf⟩ h.1
    | false => exact psp_ok hr cs _ ⟨hF.1, fun f hf => by rcases List.mem_cons.mp hf with e | hf; (· rw [e]; exact hc); exact hF.2 f hf⟩ h.2
/-- the loop: what it does where there are six ints more, and where not -/
theorem L_loop {F0 : sFs} {s0 : sS} {kv : Nat} (hin : ∀ ρ : sR, LB L kv ρ → kok (pXs L xs) ρ kE → fok (pXs L xs) ρ F0 → (ρ.1 kv).toInt + 6 ≤ L → LHead L xs F0 s0 kv ((ρ.1 kv).toInt + 6) → GPL L xs ρ s0) (hout : ∀ ρ : sR, LB L kv ρ → kok (pXs L xs) ρ kE → fok (pXs L xs) ρ F0 → ¬ (ρ.1 kv).toInt + 6 ≤ L → GPL L xs ρ s0) : ∀ (m : Nat) (N : Int), L < N + m → LHead L xs F0 s0 kv N
  | 0, N, hm, ρ, hN, hB, hK, hF => hout ρ hB hK hF (by omega)
  | m + 1, N, hm, ρ, hN, hB, hK, hF => by
    by_cases h : (ρ.1 kv).toInt + 6 ≤ L
    · exact hin ρ hB hK hF h (L_loop hin hout m _ (by omega))
    · exact hout ρ hB hK hF h
end LOOP
