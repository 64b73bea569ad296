/-! ===== the lowest frame keeps its code ===== -/
theorem pm_seek_drop (C : List pOp) (n : Nat) : ∃ j, pm_seek C n = C.drop j := by
  induction C with
  | nil => exact ⟨0, rfl⟩
  | cons o t ih =>
    unfold pm_seek at ih ⊢
    rw [List.dropWhile_cons]
    split
    · obtain ⟨j, hj⟩ := ih
      exact ⟨j + 1, hj⟩
    · exact ⟨0, rfl⟩
theorem pm_to_drop {C tail cur' : List pOp} {pc len : Nat} {x : Option Int} {i : Nat} (ht : tail = C.drop i) (h : pm_to C tail pc len x = some cur') : ∃ j, cur' = C.drop j := by
  unfold pm_to at h
  split at h
  · split at h
    · split at h
      · cases h; exact ⟨i, ht⟩
      · cases h
    · cases h
  · split at h
    · cases h; exact pm_seek_drop C _
    · cases h
noncomputable def cI (C : List pOp) (s : sS) : Prop := ∃ f : sF, (s.1 :: s.2.1).getLast? = some f ∧ f.2.2.2.2.1 = C ∧ ∃ j, f.2.2.2.2.2.1 = C.drop j
section CODE
variable {C : List pOp} {k nL : Nat} {ret : Option FieldType} {hs : pHd} {full tail cur' : List pOp} {o : pOp} {lv lv' : sL} {st st' : List sT} {fs : List sF} {d d' : Nat} {G G' : sH} {sl sl' : Nat} {pc len : Nat} {x : Option Int}
theorem cI_top (h : cI C ((k, nL, ret, hs, full, o :: tail, lv, st), fs, d, G, sl)) (hto : pm_to full tail pc len x = some cur') (k' nL' : Nat) (ret' : Option FieldType) (hs' : pHd) : cI C ((k', nL', ret', hs', full, cur', lv', st'), fs, d', G', sl') := by
  obtain ⟨f, h1, h2, j, h3⟩ := h
  cases fs with
  | nil =>
    cases h1
    have h2 : full = C := h2
    have h3 : o :: tail = C.drop j := h3
    have h4 : tail = C.drop (j + 1) := by
      have := congrArg List.tail h3
      rw [List.tail_cons, List.tail_drop] at this
      exact this
    subst h2
    exact ⟨_, rfl, rfl, pm_to_drop h4 hto⟩
  | cons f1 fs1 =>
    refine ⟨f, ?_, h2, j, h3⟩
    rw [List.getLast?_cons_cons] at h1 ⊢
    exact h1
theorem cI_call (h : cI C ((k, nL, ret, hs, full, o :: tail, lv, st), fs, d, G, sl)) (hto : pm_to full tail pc len x = some cur') (k' nL' : Nat) (ret' : Option FieldType) (hs' : pHd) (f0 : sF) : cI C (f0, (k', nL', ret', hs', full, cur', lv', st') :: fs, d', G', sl') := by
  obtain ⟨f, h1, h2⟩ := cI_top (lv' := lv') (st' := st') (d' := d') (G' := G') (sl' := sl') h hto k' nL' ret' hs'
  exact ⟨f, by rw [List.getLast?_cons_cons]; exact h1, h2⟩
theorem cI_pop {f f1 : sF} (h : cI C (f, f1 :: fs, d, G, sl)) : cI C (f1, fs, d', G', sl') := by
  obtain ⟨g, h1, h2⟩ := h
  exact ⟨g, by rw [List.getLast?_cons_cons] at h1; exact h1, h2⟩
theorem cI_st (h : cI C ((k, nL, ret, hs, full, tail, lv, st), fs, d, G, sl)) (st'' : List sT) : cI C ((k, nL, ret, hs, full, tail, lv, st''), fs, d', G', sl') := by
  obtain ⟨g, h1, h2, h3⟩ := h
  cases fs with
  | nil => cases h1; exact ⟨_, rfl, h2, h3⟩
  | cons f1 fs1 => exact ⟨g, by rw [List.getLast?_cons_cons] at h1 ⊢; exact h1, h2, h3⟩
theorem cI_wake {f : sF} {v : Option sT} {s' : sS} (h : cI C (f, fs, d, G, sl)) (hw : swake fs v d' G' sl' = some s') : cI C s' := by
  unfold swake at hw
  split at hw
  · cases hw
    exact cI_st (cI_pop (d' := d) (G' := G) (sl' := sl) h) _
  · cases hw
theorem cI_unw {E : Nat} {s' : sS} : ∀ (fs : List sF) (f : sF) (d d' : Nat), cI C (f, fs, d, G, sl) → sunw E G' sl' fs d' = some s' → cI C s'
  | [], _, _, _, _, h => by cases h
  | f1 :: fs, f, d, d', hc, h => by
    unfold sunw at h
    split at h
    · split at h
      · exact cI_unw fs f1 d (d' + 1) (cI_pop hc) h
      · cases h
    · split at h
      · split at h
        · exact cI_wake (cI_pop (d' := d) (G' := G) (sl' := sl) hc) h
        · cases h
      · cases h
theorem cI_scall {Mt : List pM} {k' y kw : Nat} {hs' : pHd} {as rest : List sT} {s' : sS} {ins : Instr} {r1 r2 : Nat} {r3 : Int} (h : cI C ((k, nL, ret, hs, full, (pc, ins, len, r1, r2, r3) :: tail, lv, st), fs, d, G, sl)) (hto : pm_to full tail pc len none = some cur') (hc : scall Mt k' hs' y as rest (k, nL, ret, hs, full, (pc, ins, len, r1, r2, r3) :: tail, lv, st) cur' kw fs d G sl = some s') : cI C s' := by
  obtain ⟨M, o, t, d1, -, -, -, -, -, rfl⟩ := scall_inv hc
  exact cI_call h hto _ _ _ _ _
theorem cI_step {K : sK} {F : sFs} {Ft : Nat → Nat → FieldType} {dfl : Nat → Nat × List Value} {Mt : List pM} {hl : Nat → Option (pHd × Nat)} {f : sF} {s' : sS} (h : sstep K F Ft dfl Mt hl f fs d G sl = some (.inl s')) (hc : cI C (f, fs, d, G, sl)) : cI C s' := by
  obtain ⟨k, nL, ret, hs, full, cur, lv, st⟩ := f
  unfold sstep at h
  dsimp only at h
  split at h
  · cases h
  · next pc ins len r1 r2 r3 tail =>
    split at h
    · split at h
      · cases h
      · split at h
        · next v hv =>
          split at h
          · split at h
            · split at h
              · obtain ⟨s1, hs1, e1⟩ := Option.map_eq_some_iff.mp h
                cases e1
                exact cI_wake hc hs1
              · cases h
            · cases h
          · obtain ⟨s1, hs1, e1⟩ := Option.map_eq_some_iff.mp h
            cases e1
            exact cI_wake hc hs1
        · cases h
    · split at h
      · split at h
        · next q hq cur' ha hhl hto =>
          obtain ⟨s1, hs1, e1⟩ := Option.map_eq_some_iff.mp h
          cases e1
          exact cI_scall hc hto hs1
        · cases h
      · split at h
        · split at h
          · next cur' hto => cases h; exact cI_top hc hto _ _ _ _
          · cases h
        · cases h
        · split at h
          · split at h
            · next cur' hto => cases h; exact cI_top hc hto _ _ _ _
            · cases h
          · cases h
          · split at h
            · split at h
              · cases h
              · split at h
                · next cur' hto =>
                  obtain ⟨s1, hs1, e1⟩ := Option.map_eq_some_iff.mp h
                  cases e1
                  exact cI_scall hc hto hs1
                · cases h
            · split at h
              · split at h
                · split at h
                  · split at h
                    · split at h
                      · next cur' hto => cases h; exact cI_top hc hto _ _ _ _
                      · cases h
                    · cases h
                  · cases h
                · cases h
              · split at h
                · obtain ⟨s1, hs1, e1⟩ := Option.map_eq_some_iff.mp h
                  cases e1
                  exact cI_unw fs _ _ _ hc hs1
                · cases h
              · cases h
theorem cI_stepF {ys : Nat × Nat × Nat} {K : sK} {F : sFs} {Ft : Nat → Nat → FieldType} {dfl : Nat → Nat × List Value} {Mt : List pM} {hl : Nat → Option (pHd × Nat)} {f : sF} {s' : sS} (h : sstepF ys K F Ft dfl Mt hl f fs d G sl = some (.inl s')) (hc : cI C (f, fs, d, G, sl)) : cI C s' := by
  obtain ⟨k, nL, ret, hs, full, cur, lv, st⟩ := f
  unfold sstepF at h
  dsimp only at h
  split at h
  · next pc i len r1 r2 r3 tail =>
    split at h
    · split at h
      · next q cur' ha hto =>
        split at h
        · cases h; exact cI_top hc hto _ _ _ _
        · split at h
          · cases h; exact cI_top hc hto _ _ _ _
          · exact cI_step h hc
      · cases h
    · exact cI_step h hc
  · exact cI_step h hc
theorem cI_stepG {ys : Nat × Nat × Nat} {K : sK} {F : sFs} {Ft : Nat → Nat → FieldType} {dfl : Nat → Nat × List Value} {Mt : List pM} {hl : Nat → Option (pHd × Nat)} {f : sF} {s' : sS} (h : sstepG ys K F Ft dfl Mt hl f fs d G sl = some (.inl s')) (hc : cI C (f, fs, d, G, sl)) : cI C s' := by
  obtain ⟨k, nL, ret, hs, full, cur, lv, st⟩ := f
  cases cur with
  | nil => cases h
  | cons o tail =>
    obtain ⟨pc, ins, len, r1, r2, r3⟩ := o
    unfold sstepG at h
    dsimp only at h
    split at h
    · next hi => exact cI_step (sstepQ_eq (Mt := Mt) (hl := hl) hi h) hc
    · exact cI_stepF h hc
end CODE
section RUNI
variable {X : pX} {Ft : Nat → Nat → FieldType} {dfl : Nat → Nat × List Value} {Mt : List pM} {lw : Nat × List pOp × Nat} {P : pC → Prop} {hl : Nat → Option (pHd × Nat)} {K : sK} {ρ : sR}
theorem srunI_ok {C : List pOp} {yf : Nat × Nat × Nat} (hfl : flok Mt yf) (hP : Pback X Ft dfl Mt hl lw P) (hK : kok X ρ K) {leaf : sFs → sS → Bool} (hl0 : ∀ F s, fok X ρ F → cI C s → leaf F s = true → GP X Ft dfl Mt lw P ρ s) : ∀ (n : Nat) (F : sFs) (s : sS), srun yf Ft dfl Mt hl K leaf n F s = true → fok X ρ F → cI C s → GP X Ft dfl Mt lw P ρ s
  | 0, F, s, h, hF, hc => hl0 F s hF hc h
  | n + 1, F, (f, fs, d, G, sl), h, hF, hc => by
    unfold srun at h
    dsimp only at h
    split at h
    · next hle => exact hl0 F _ hF hc hle
    · split at h
      · next s' hs => exact fun G hR => sstepG_ok hfl hP hs hK hF hR (srunI_ok hfl hP hK hl0 n F s' h hF (cI_stepG hs hc))
      · next c hs =>
        simp only [Bool.and_eq_true] at h
        cases hcc : sc X ρ c with
        | true => exact srunI_ok hfl hP hK hl0 n _ _ h.1 ⟨hF.1, fun f hf => by rcases List.mem_cons.mp hf with e | hf; (· rw [e]; exact hcc); exact hF.2 f hf⟩ hc
        | false => exact srunI_ok hfl hP hK hl0 n _ _ h.2 ⟨hF.1, fun f hf => by rcases List.mem_cons.mp hf with e | hf; (· rw [e]; exact hcc); exact hF.2 f hf⟩ hc
      · exact (scon_ok hF h).elim
/-- a case of a pattern, whatever the code: the lowest frame alone -/
noncomputable def finstL (F : sFs) (σ : sM) (f0 f : sF) : Bool := match f0, f with
  | (k0, nL0, ret0, hs0, _, _, lv0, st0), (k, nL, ret, hs, _, _, lv, st) => Nat.beq k0 k && (Nat.beq nL0 nL && (teqs F (st0.map (ssub σ)) st && (st0.all scl && (lv0.all (fun q => scl q.2 && lv.any (fun z => decide (z.1 = q.1) && teq F (ssub σ q.2) z.2)) && (decide ((lv.map (fun q => q.1)).Nodup) && (decide (ret0 = ret) && decide (hs0 = hs)))))))
theorem finstL_ok {F : sFs} (hF : fok X ρ F) {σ : sM} (h : sMok K σ = true) {f0 f : sF} (hf : finstL F σ f0 f = true) (h1 : f0.2.2.2.2.1 = f.2.2.2.2.1) (h2 : f0.2.2.2.2.2.1 = f.2.2.2.2.2.1) : fle X (rsub X ρ σ) ρ f0 f := by
  obtain ⟨k0, nL0, ret0, hs0, full0, cur0, lv0, st0⟩ := f0
  obtain ⟨k, nL, ret, hs, full, cur, lv, st⟩ := f
  simp only [finstL, Bool.and_eq_true, decide_eq_true_eq] at hf
  obtain ⟨e1, e2, e3, e4, e5, e6, e7, e8⟩ := hf
  refine ⟨⟨Nat.eq_of_beq_eq_true e1, Nat.eq_of_beq_eq_true e2, e7, e8, h1, h2⟩, ?_, ?_, ?_⟩
  · intro q hq
    obtain ⟨z, hz, rfl⟩ := List.mem_map.mp hq
    have h1 := List.all_eq_true.mp e5 z hz
    simp only [Bool.and_eq_true, List.any_eq_true, decide_eq_true_eq] at h1
    obtain ⟨h2, w, hw, h3, h4⟩ := h1
    refine List.mem_map.mpr ⟨_, hw, ?_⟩
    rw [← teq_ok hF h4, ssub_v h z.2 h2, h3]
  · unfold lvnd dL
    rw [List.map_map]
    exact e6
  · dsimp only
    rw [← slsub_v h e4]
    exact teqs_ok hF e3
noncomputable def sinstL (K : sK) (F : sFs) (σ : sM) (F0 : sFs) (s0 s : sS) : Bool := decide (s0.2.2.1 = s.2.2.1) && (decide (s0.2.2.2.2 = s.2.2.2.2) && (sMok K σ && (fhold F σ F0 && (hinst K F σ s0.2.2.2.1 s.2.2.2.1 && (finstL F σ s0.1 s.1 && (s0.2.1.isEmpty && s.2.1.isEmpty))))))
theorem sinstL_ok (hPm : Pmono P) {F F0 : sFs} {σ : sM} {s0 s : sS} (hi : sinstL K F σ F0 s0 s = true) (h1 : s0.1.2.2.2.2.1 = s.1.2.2.2.2.1) (h2 : s0.1.2.2.2.2.2.1 = s.1.2.2.2.2.2.1) {G : pH} (hK : kok X ρ K) (hF : fok X ρ F) (hR : HR X ρ s.2.2.2.1 G) (hg : kok X (rsub X ρ σ) K → fok X (rsub X ρ σ) F0 → HR X (rsub X ρ σ) s0.2.2.2.1 G → GG X Ft dfl Mt lw P (rsub X ρ σ) s0.1 s0.2.1 s0.2.2.1 (s0.2.2.2.2 + rS ρ) G) : GG X Ft dfl Mt lw P ρ s.1 s.2.1 s.2.2.1 (s.2.2.2.2 + rS ρ) G := by
  simp only [sinstL, Bool.and_eq_true, decide_eq_true_eq, List.isEmpty_iff] at hi
  obtain ⟨e1, e2, e3, e4, e5, e6, e7, e8⟩ := hi
  rw [← e1, ← e2]
  exact GG_le hPm (finstL_ok hF e3 e6 h1 h2) (by rw [e7, e8]; trivial) (hg (kok_sub hK e3) (fhold_ok hF e3 e4) (HR_sub hF hK e3 e5 hR))
end RUNI
/-! ===== the law's loop: cells that nobody looks at may have come, and slots ===== -/
noncomputable def rsh (ρ : sR) (a b : Nat) : sR := (ρ.1, ρ.2.1, ρ.2.2.1, ρ.2.2.2.1, rB ρ, rC ρ + a, rS ρ + b)
section SHIFT
variable {X : pX} {Ft : Nat → Nat → FieldType} {dfl : Nat → Nat × List Value} {Mt : List pM} {lw : Nat × List pOp × Nat} {P : pC → Prop} {ρ : sR} {a b : Nat}
theorem sd_sh (t : sT) : sd X (rsh ρ a b) t = sd X ρ t := by
  induction t <;> simp only [sd, rsh] <;> simp_all only [rsh]
theorem sv_sh (t : sT) : sv X (rsh ρ a b) t = sv X ρ t := by
  unfold sv
  split <;> first | rfl | rw [sd_sh]
theorem dL_sh (lv : sL) : dL X (rsh ρ a b) lv = dL X ρ lv := by
  unfold dL
  exact List.map_congr_left (fun q _ => by rw [sv_sh])
theorem dS_sh (st : List sT) : dS X (rsh ρ a b) st = dS X ρ st := by
  unfold dS
  exact List.map_congr_left (fun t _ => sv_sh t)
theorem KK_sh : ∀ (fs : List sF) (d : Nat) (r : pRes), KK X Ft dfl Mt lw P (rsh ρ a b) fs d r = KK X Ft dfl Mt lw P ρ fs d r
  | [], _, _ => rfl
  | f :: fs, d, (.inl v, G, sl) => by
    have ih : KK X Ft dfl Mt lw P (rsh ρ a b) fs (d + 1) = KK X Ft dfl Mt lw P ρ fs (d + 1) := funext (fun r => KK_sh fs (d + 1) r)
    simp only [KK, dL_sh, dS_sh, ih]
  | f :: fs, d, (.inr E, G, sl) => by
    have ih : KK X Ft dfl Mt lw P (rsh ρ a b) fs (d + 1) = KK X Ft dfl Mt lw P ρ fs (d + 1) := funext (fun r => KK_sh fs (d + 1) r)
    simp only [KK, ih]
theorem GG_sh (f : sF) (fs : List sF) (d sl : Nat) (G : pH) : GG X Ft dfl Mt lw P (rsh ρ a b) f fs d sl G = GG X Ft dfl Mt lw P ρ f fs d sl G := by
  have ih : KK X Ft dfl Mt lw P (rsh ρ a b) fs (d + 1) = KK X Ft dfl Mt lw P ρ fs (d + 1) := funext (fun r => KK_sh fs (d + 1) r)
  simp only [GG, dL_sh, dS_sh, ih]
theorem sn_sh (t : sT) : sn X (rsh ρ a b) t = sn X ρ t := by
  unfold sn
  rw [sd_sh]
theorem fok_sh {F : sFs} (h : fok X ρ F) : fok X (rsh ρ a b) F := fok_B (rB ρ, rC ρ + a, rS ρ + b) h
theorem CR_sh {e : sE} {y : pE} (h : CR X ρ e y) : CR X (rsh ρ a b) e y := CR_B (B := ρ.2.2.2.2) (B' := (rB ρ, rC ρ + a, rS ρ + b)) h
theorem kok_sh {K : sK} (hx : K.2.2.2 = false) (h : kok X ρ K) : kok X (rsh ρ a b) K := ⟨h.1, h.2.1, h.2.2.1, fun h9 => by rw [hx] at h9; cases h9⟩
/-- a state whose own cells and slots are so many -/
noncomputable def snorm (n m : Nat) (s : sS) : sS := (s.1, s.2.1, s.2.2.1, (s.2.2.2.1.1, n), m)
theorem GP_norm {s : sS} {n m : Nat} (h1 : s.2.2.2.1.2 = n + a) (h2 : s.2.2.2.2 = m + b) (hg : GP X Ft dfl Mt lw P (rsh ρ a b) (snorm n m s)) : GP X Ft dfl Mt lw P ρ s := fun G hR => by
  have := hg G ⟨by
      have := hR.1
      show n + (rC ρ + a) = G.length
      omega, fun k e hk => by
      obtain ⟨y, hy, hc⟩ := hR.2.1 k e hk
      exact ⟨y, hy, CR_sh hc⟩, hR.2.2.1, hR.2.2.2⟩
  rw [GG_sh] at this
  rw [show s.2.2.2.2 + rS ρ = m + (rS ρ + b) by omega]
  exact this
end SHIFT
/-- a place in the code by its number -/
theorem drop_pc {C : List pOp} {n j : Nat} (h1 : (C.filter (fun o => o.1 == n)).length = 1) {o : pOp} {t : List pOp} (hj : C.drop j = o :: t) (ho : o.1 = n) : C.drop j = pm_seek C n := by
  have e : C = C.take j ++ (o :: t) := by rw [← hj]; exact (List.take_append_drop j C).symm
  have hf : (C.take j).filter (fun o => o.1 == n) = [] := by
    rw [e, List.filter_append, List.length_append, List.filter_cons_of_pos (by simpa using ho), List.length_cons] at h1
    exact List.eq_nil_of_length_eq_zero (by omega)
  have key : ∀ l : List pOp, l.filter (fun o => o.1 == n) = [] → List.dropWhile (fun o => !(o.1 == n)) (l ++ o :: t) = o :: t := by
    intro l
    induction l with
    | nil =>
      intro _
      rw [List.nil_append, List.dropWhile_cons, if_neg (by simp [ho])]
    | cons a l ih =>
      intro hl
      rw [List.filter_cons] at hl
      split at hl
      · cases hl
      · next ha =>
        rw [List.cons_append, List.dropWhile_cons, if_pos (by simpa using ha)]
        exact ih hl
  rw [hj]
  unfold pm_seek
  rw [e]
  exact (key _ hf).symm
theorem law33 : (mo_455.filter (fun o => o.1 == 33)).length = 1 := by decide +kernel

/-! ===== the law over contracts: one call of the class, one of the model ===== -/
set_option maxRecDepth 20000
/-- what lies besides the drives and the model: the law's own cell holds its answer -/
noncomputable def zLw : sH := hset zT 348 (some (.inl (1, 1, .long 0, [(.int 0, .arg 59841)])))
noncomputable def fL8 : List Nat := [348]
theorem PT_ag {X : pX} {t : Int} {ρ ρ' : sR} (h : agr 59000 ρ' ρ) (p : PT X t ρ) : PT X t ρ' := by
  obtain ⟨hd, hb, ⟨s0, s1, s2, s3⟩, s4⟩ := p
  have ee : ∀ j, j < 59000 → ρ'.1 j = ρ.1 j := fun j hj => (h.1 j hj).1
  exact ⟨⟨⟨dr_ag h (by decide +kernel) hd.1.1, dr_ag h (by decide +kernel) hd.1.2.1, dr_ag h (by decide +kernel) hd.1.2.2.1, dr_ag h (by decide +kernel) hd.1.2.2.2⟩, ⟨fall_agr h (by decide +kernel) hd.2.1, iok_agr h (by decide +kernel) hd.2.2⟩⟩, bd_e (ee 1376 (by decide)) (ee 1280 (by decide)) hb, ⟨st0_e (ee 19904 (by decide)) (ee 1728 (by decide)) s0, st0_e (ee 19936 (by decide)) (ee 1760 (by decide)) s1, st0_e (ee 19968 (by decide)) (ee 1792 (by decide)) s2, st0_e (ee 20000 (by decide)) (ee 1824 (by decide)) s3⟩, st0_e (ee 20032 (by decide)) (ee 1856 (by decide)) s4⟩
theorem PT_le {X : pX} {t t' : Int} {ρ : sR} (h : t ≤ t') (p : PT X t ρ) : PT X t' ρ := ⟨p.1, ⟨p.2.1.1, by have := p.2.1.2.1; omega, by have := p.2.1.2.2; omega⟩, p.2.2⟩
theorem GGL_call {X : pX} {P : pC → Prop} {lw : Nat × List pOp × Nat} (hP : Pback X pF pdfl mt_all hlp lw P) {ρ ρ1 : sR} {nL : Nat} {ret : Option FieldType} {hs : pHd} {full : List pOp} {pc len r1 r2 : Nat} {ins : Instr} {r3 : Int} {tail cur' : List pOp} {lv lv1 : sL} {st st1 : List sT} {as rest : List Value} {d sl sl' : Nat} {G G' : pH} {v : Option Value} (hask : pm_ask ins r2 r3 (dS X ρ st) G = some (as, rest)) (hins : ∃ i, ins = .invokevirtual i) (hto : pm_to full tail pc len none = some cur') (hcall : CALL X pF pdfl mt_all d r1 as G sl (.inl v, G', sl')) (h1 : dL X ρ1 lv1 = dL X ρ lv) (h2 : dS X ρ1 st1 = v.toList ++ rest) (hg : GG X pF pdfl mt_all lw P ρ1 (2, nL, ret, hs, full, cur', lv1, st1) [] d sl' G') : GG X pF pdfl mt_all lw P ρ (2, nL, ret, hs, full, (pc, ins, len, r1, r2, r3) :: tail, lv, st) [] d sl G := by
  unfold GG at hg ⊢
  dsimp only at hg ⊢
  rw [if_pos rfl] at hg ⊢
  intro hl
  have hg2 := hg hl
  rw [h1, h2] at hg2
  subst hl
  obtain ⟨N, hN⟩ := hcall
  refine hP _ _ ⟨N, fun fuel hf => ?_⟩ hg2
  obtain ⟨i, rfl⟩ := hins
  have hlop : ∀ lv st, pm_lop nL (.invokevirtual i) lv st = none := fun lv st => pm_nolop (Or.inr (Or.inr (Or.inl ⟨i, rfl⟩))) nL lv st
  have hhop : ∀ st G sl, pm_hop X pF pdfl (.invokevirtual i) r1 r2 r3 st G sl = none := fun st G sl => pm_nohop (Or.inr (Or.inr (Or.inl ⟨i, rfl⟩))) r1 r2 st G sl
  have hh : pm_isHelp (.invokevirtual i) r3 = false := rfl
  have hN := hN fuel hf
  simp only [pm_stepL, hh, pm_step, hlop, hhop, hask, hN, hto, Bool.false_eq_true, if_false]
/-- a part of the cells, all else besides -/
theorem HR_cut {X : pX} {ρ : sR} {Z : sH} {G : pH} {l : List Nat} {sl : Nat} (h : HR X ρ Z G) : HR X (rwB ρ (G, G.length, sl)) (foot Z l) G := by
  refine ⟨by show 0 + G.length = G.length; omega, fun k e hk => ?_, Nat.le_refl _, fun k _ _ => rfl⟩
  rw [foot_get] at hk
  split at hk
  · obtain ⟨y, hy, hc⟩ := h.2.1 k e hk
    exact ⟨y, hy, CR_B (B := ρ.2.2.2.2) hc⟩
  · cases hk
/-- what the law asks of a call of both: the same answer, all else kept -/
noncomputable def QI (X : pX) (t : Int) (_ ρ' : sR) (v1 v2 : Option Value) : Prop := (∃ w : Int32, v1 = some (.int w) ∧ v2 = some (.int w)) ∧ kok X ρ' kR ∧ vok X ρ' ∧ ρ'.1 19232 = 0 ∧ PT X t ρ'
noncomputable def QJ (X : pX) (t : Int) (_ ρ' : sR) (v1 v2 : Option Value) : Prop := (∃ w : Int64, v1 = some (.long w) ∧ v2 = some (.long w)) ∧ kok X ρ' kR ∧ vok X ρ' ∧ ρ'.1 19232 = 0 ∧ PT X t ρ'
noncomputable def QV (X : pX) (t : Int) (_ ρ' : sR) (v1 v2 : Option Value) : Prop := (v1 = none ∧ v2 = none) ∧ kok X ρ' kR ∧ vok X ρ' ∧ ρ'.1 19232 = 0 ∧ PT X t ρ'
/-- numbers of the drives and the model by the one, the law's by the other -/
noncomputable def rIJ (w : Int32) (z : Int64) (ρ' ρ : sR) : sR := (fun i => if i < 59000 then ρ'.1 i else if i = 59808 then w else ρ.1 i, fun i => if i < 59000 then ρ'.2.1 i else if i = 59809 then z else ρ.2.1 i, fun a => if a < 59000 then ρ'.2.2.1 a else ρ.2.2.1 a, fun a => if a < 59000 then ρ'.2.2.2.1 a else ρ.2.2.2.1 a, ρ.2.2.2.2)
theorem rIJ_agr {w : Int32} {z : Int64} {ρ' ρ : sR} : agr 59000 (rIJ w z ρ' ρ) ρ' := ⟨fun i hi => ⟨if_pos hi, if_pos hi⟩, fun a ha => ⟨if_pos ha, if_pos ha⟩⟩
