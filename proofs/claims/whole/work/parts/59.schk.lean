/-! ===== the checker ===== -/
section CHK
variable {X : pX} {Ft : Nat → Nat → FieldType} {dfl : Nat → Nat × List Value} {Mt : List pM} {lw : Nat × List pOp × Nat} {P : pC → Prop} {hl : Nat → Option (pHd × Nat)} {K : sK} {ρ : sR}
/-- from here the run ends well, whatever the cells that the symbolic ones allow -/
noncomputable def GP (X : pX) (Ft : Nat → Nat → FieldType) (dfl : Nat → Nat × List Value) (Mt : List pM) (lw : Nat × List pOp × Nat) (P : pC → Prop) (ρ : sR) (s : sS) : Prop := ∀ G : pH, HR X ρ s.2.2.2.1 G → GG X Ft dfl Mt lw P ρ s.1 s.2.1 s.2.2.1 (s.2.2.2.2 + rS ρ) G
/-- a step; calls of Arrays.fill, the model's whole and Math.floorDiv (their numbers: ys) in one -/
noncomputable def sstepF (ys : Nat × Nat × Nat) (K : sK) (F : sFs) (Ft : Nat → Nat → FieldType) (dfl : Nat → Nat × List Value) (Mt : List pM) (hl : Nat → Option (pHd × Nat)) (f : sF) (fs : List sF) (d : Nat) (G : sH) (sl : Nat) : Option (sS ⊕ sQ) := match f with
  | (k, nL, ret, hs, full, cur, lv, st) => match cur with
    | (pc, .invokestatic i, len, r1, r2, r3) :: tail => if r3 = 0 ∧ 0 < d ∧ (r1 = ys.1 ∨ r1 = ys.2.1 ∨ r1 = ys.2.2) then match sargs r2 st, pm_to full tail pc len none with
        | some q, some cur' => match sfill ys.1 r1 q.1 G with
          | some G' => some (.inl ((k, nL, ret, hs, full, cur', lv, q.2), fs, d, G', sl))
          | none => match spur ys.2.1 ys.2.2 r1 q.1 with
            | some t => some (.inl ((k, nL, ret, hs, full, cur', lv, t :: q.2), fs, d, G, sl))
            | none => sstep K F Ft dfl Mt hl (k, nL, ret, hs, full, (pc, .invokestatic i, len, r1, r2, r3) :: tail, lv, st) fs d G sl
        | _, _ => none
      else sstep K F Ft dfl Mt hl (k, nL, ret, hs, full, (pc, .invokestatic i, len, r1, r2, r3) :: tail, lv, st) fs d G sl
    | cur => sstep K F Ft dfl Mt hl (k, nL, ret, hs, full, cur, lv, st) fs d G sl
noncomputable def flok (Mt : List pM) (ys : Nat × Nat × Nat) : Prop := (∃ M : pM, Mt[ys.1]? = some M ∧ M.2.2.1 = 4 ∧ M.2.2.2.1 = none ∧ M.2.2.2.2 = flC) ∧ (∃ (M : pM) (i : Nat), Mt[ys.2.1]? = some M ∧ M.2.2.1 = 4 ∧ M.2.2.2.1 = some .long ∧ M.2.2.2.2 = whC i) ∧ ∃ M : pM, Mt[ys.2.2]? = some M ∧ M.2.2.1 = 6 ∧ M.2.2.2.1 = some .long ∧ M.2.2.2.2 = fdC
theorem sstepF_ok {ys : Nat × Nat × Nat} (hfl : flok Mt ys) (hP : Pback X Ft dfl Mt hl lw P) {F : sFs} {f : sF} {fs : List sF} {d : Nat} {sG : sH} {sl : Nat} {s' : sS} (h : sstepF ys K F Ft dfl Mt hl f fs d sG sl = some (.inl s')) (hK : kok X ρ K) (hF : fok X ρ F) {G : pH} (hR : HR X ρ sG G) (hg : GP X Ft dfl Mt lw P ρ s') : GG X Ft dfl Mt lw P ρ f fs d (sl + rS ρ) G := by
  obtain ⟨k, nL, ret, hs, full, cur, lv, st⟩ := f
  unfold sstepF at h
  dsimp only at h
  split at h
  · next pc i len r1 r2 r3 tail =>
    split at h
    · next hc =>
      obtain ⟨h3, hd, -⟩ := hc
      subst h3
      split at h
      · next q cur' ha hto =>
        obtain ⟨d', rfl⟩ : ∃ d', d = d' + 1 := ⟨d - 1, by omega⟩
        have hask : pm_ask (.invokestatic i) r2 0 (dS X ρ st) G = some (dS X ρ q.1, dS X ρ q.2) := sargs_ok ha
        split at h
        · next G' hfi =>
          cases h
          obtain ⟨⟨M, m1, m2, m3, m4⟩, -⟩ := hfl
          obtain ⟨H, hcall, hRH⟩ := sfill_ok (X := X) (Ft := Ft) (dfl := dfl) (d := d') (sl := sl + rS ρ) m1 m2 m3 m4 hR hfi
          refine GG_step hP (hl := hl) rfl (fun hh => by simp [pm_isHelp] at hh) ?_ (hg H hRH)
          obtain ⟨N, hN⟩ := hcall
          refine ⟨N, fun fuel hf => ?_⟩
          simp only [pm_step, pm_nolop (Or.inl ⟨i, rfl⟩), pm_nohop (Or.inl ⟨i, rfl, show (0 : Int) ≠ 7 by decide⟩), hask, hN fuel hf, hto]
          rfl
        · split at h
          · next t hsp =>
            cases h
            obtain ⟨-, ⟨M, j, m1, m2, m3, m4⟩, M', n1, n2, n3, n4⟩ := hfl
            have hcall := spur_ok (X := X) (Ft := Ft) (dfl := dfl) (ρ := ρ) (G := G) (d := d') (sl := sl + rS ρ) m1 m2 m3 m4 n1 n2 n3 n4 hsp
            refine GG_step hP (hl := hl) rfl (fun hh => by simp [pm_isHelp] at hh) ?_ (hg G hR)
            obtain ⟨N, hN⟩ := hcall
            refine ⟨N, fun fuel hf => ?_⟩
            simp only [pm_step, pm_nolop (Or.inl ⟨i, rfl⟩), pm_nohop (Or.inl ⟨i, rfl, show (0 : Int) ≠ 7 by decide⟩), hask, hN fuel hf, hto]
            rfl
          · exact sstep_ok hP h hK hF hR hg
      · cases h
    · exact sstep_ok hP h hK hF hR hg
  · exact sstep_ok hP h hK hF hR hg
noncomputable def sstepG (ys : Nat × Nat × Nat) (K : sK) (F : sFs) (Ft : Nat → Nat → FieldType) (dfl : Nat → Nat × List Value) (Mt : List pM) (hl : Nat → Option (pHd × Nat)) (f : sF) (fs : List sF) (d : Nat) (G : sH) (sl : Nat) : Option (sS ⊕ sQ) := match f with
  | (k, nL, ret, hs, full, cur, lv, st) => match cur with
    | [] => none
    | (pc, ins, len, r1, r2, r3) :: tail => if igr ins < 2 then sstepQ K F Ft dfl (igr ins) k nL ret hs full pc ins len r1 r2 r3 tail lv st fs d G sl
      else sstepF ys K F Ft dfl Mt hl (k, nL, ret, hs, full, (pc, ins, len, r1, r2, r3) :: tail, lv, st) fs d G sl
theorem sstepG_ok {ys : Nat × Nat × Nat} (hfl : flok Mt ys) (hP : Pback X Ft dfl Mt hl lw P) {F : sFs} {f : sF} {fs : List sF} {d : Nat} {sG : sH} {sl : Nat} {s' : sS} (h : sstepG ys K F Ft dfl Mt hl f fs d sG sl = some (.inl s')) (hK : kok X ρ K) (hF : fok X ρ F) {G : pH} (hR : HR X ρ sG G) (hg : GP X Ft dfl Mt lw P ρ s') : GG X Ft dfl Mt lw P ρ f fs d (sl + rS ρ) G := by
  obtain ⟨k, nL, ret, hs, full, cur, lv, st⟩ := f
  cases cur with
  | nil => cases h
  | cons o tail =>
    obtain ⟨pc, ins, len, r1, r2, r3⟩ := o
    unfold sstepG at h
    dsimp only at h
    split at h
    · next hi => exact sstep_ok hP (sstepQ_eq hi h) hK hF hR hg
    · exact sstepF_ok hfl hP h hK hF hR hg
/-- steps and splits until each road ends in a leaf -/
noncomputable def srun (yf : Nat × Nat × Nat) (Ft : Nat → Nat → FieldType) (dfl : Nat → Nat × List Value) (Mt : List pM) (hl : Nat → Option (pHd × Nat)) (K : sK) (leaf : sFs → sS → Bool) : Nat → sFs → sS → Bool
  | 0, F, s => leaf F s
  | n + 1, F, s => match s with
    | (f, fs, d, G, sl) => if leaf F (f, fs, d, G, sl) = true then true else match sstepG yf K F Ft dfl Mt hl f fs d G sl with
      | some (.inl s') => srun yf Ft dfl Mt hl K leaf n F s'
      | some (.inr c) => srun yf Ft dfl Mt hl K leaf n ((c, true) :: F) (f, fs, d, G, sl) && srun yf Ft dfl Mt hl K leaf n ((c, false) :: F) (f, fs, d, G, sl)
      | none => scon F
theorem srun_ok {yf : Nat × Nat × Nat} (hfl : flok Mt yf) (hP : Pback X Ft dfl Mt hl lw P) (hK : kok X ρ K) {leaf : sFs → sS → Bool} (hl0 : ∀ F s, fok X ρ F → leaf F s = true → GP X Ft dfl Mt lw P ρ s) : ∀ (n : Nat) (F : sFs) (s : sS), srun yf Ft dfl Mt hl K leaf n F s = true → fok X ρ F → GP X Ft dfl Mt lw P ρ s
  | 0, F, s, h, hF => hl0 F s hF h
  | n + 1, F, (f, fs, d, G, sl), h, hF => by
    unfold srun at h
    dsimp only at h
    split at h
    · next hle => exact hl0 F _ hF hle
    · split at h
      · next s' hs => exact fun G hR => sstepG_ok hfl hP hs hK hF hR (srun_ok hfl hP hK hl0 n F s' h hF)
      · next c hs =>
        simp only [Bool.and_eq_true] at h
        cases hc : sc X ρ c with
        | true => exact srun_ok hfl hP hK hl0 n _ _ h.1 ⟨hF.1, fun f hf => by rcases List.mem_cons.mp hf with e | hf; (· rw [e]; exact hc); exact hF.2 f hf⟩
        | false => exact srun_ok hfl hP hK hl0 n _ _ h.2 ⟨hF.1, fun f hf => by rcases List.mem_cons.mp hf with e | hf; (· rw [e]; exact hc); exact hF.2 f hf⟩
      · exact (scon_ok hF h).elim
/-! what a pattern's variables stand for in a state -/
noncomputable def sm1c (σ : sM) (i : Nat) (t : sT) : sM := @Option.rec sT (fun _ => sM) ((i, t) :: σ.1, σ.2) (fun _ => σ) (sfnd σ i)
noncomputable def sm1b (σ : sM) (i : Nat) (t : sT) : sM := @Bool.rec (fun _ => sM) (sm1c σ i t) (@Bool.rec (fun _ => sM) (sm1c σ i t) σ (Nat.beq i (tpn t))) (Nat.beq (ttag t) 0)
noncomputable def sm1 (σ : sM) (t0 t : sT) : sM := @Bool.rec (fun _ => sM) σ (sm1b σ (tpn t0) t) (Nat.beq (ttag t0) 0)
noncomputable def smL (σ : sM) (x y : List sT) : sM := @List.rec sT (fun _ => sM → List sT → sM) (fun σ _ => σ) (fun t0 _ ih σ y => @List.rec sT (fun _ => sM) σ (fun t r _ => ih (sm1 σ t0 t) r) y) x σ y
noncomputable def smV (σ : sM) (lv0 lv : sL) : sM := lv0.foldl (fun σ q => match sget lv q.1 with
  | some t => sm1 σ q.2 t
  | none => σ) σ
noncomputable def smF (σ : sM) (f0 f : sF) : sM := smL (smV σ f0.2.2.2.2.2.2.1 f.2.2.2.2.2.2.1) f0.2.2.2.2.2.2.2 f.2.2.2.2.2.2.2
noncomputable def smFs (σ : sM) : List sF → List sF → sM
  | f0 :: r0, f :: r => smFs (smF σ f0 f) r0 r
  | _, _ => σ
noncomputable def smU (σ : sM) (b : sT) (u : List (sT × sT)) (x : sT × sT) : sM := bif Nat.beq (ttag x.2) 0 then (match sC1 x.1 with
    | some p => match selc b p.1.toNatClampNeg u with
      | some t => sm1 σ x.2 t
      | none => σ
    | none => match u.find? (fun y => tqe y.1 x.1) with
      | some y => sm1 σ x.2 y.2
      | none => match u.find? (fun y => decide (ldiff y.1 x.1 = some 0)) with
        | some y => sm1 σ x.2 y.2
        | none => σ) else σ
noncomputable def smB (σ : sM) (a : Nat) (b : sT) (u : List (sT × sT)) : sM := bif Nat.beq (ttag b) 0 && (Nat.beq a (tpn b) && u.isEmpty) then σ else bif (afnd σ a).isSome then σ else (σ.1, (a, b, u) :: σ.2)
noncomputable def smC (σ : sM) (e0 e : Option sE) : sM := match e0, e with
  | some (.inl (_, _, b0, u0)), some (.inl (_, _, b, u)) => match b0, u0 with
    | .arg a, [] => smB σ a b u
    | _, u0 => u0.foldl (fun σ x => smU σ b u x) σ
  | some (.inr (_, v0)), some (.inr (_, v)) => smL σ v0 v
  | _, _ => σ
noncomputable def smT : (n : Nat) → sM → TT (Option sE) n → TT (Option sE) n → sM
  | 0, σ, x, y => smC σ x y
  | n + 1, σ, x, y => smT n (smT n σ x.1 y.1) x.2.1 y.2.1
noncomputable def smH (σ : sM) (G0 G : sH) : sM := smT 9 σ G0.1 G.1
noncomputable def smat (s0 s : sS) : sM := smH (smFs (smF ([], []) s0.1 s.1) s0.2.1 s.2.1) s0.2.2.2.1 s.2.2.2.1
noncomputable def spc (s : sS) : Nat := match s.1.2.2.2.2.2.1 with
  | o :: _ => o.1
  | [] => 0
/-- no local that is known to differ -/
noncomputable def lvq (lv0 lv : sL) : Bool := lv0.all (fun q => match sC1 q.2, sget lv q.1 with
  | some p, some t => (match sC1 t with
    | some p' => decide (p.1 = p'.1)
    | none => true)
  | _, _ => true)
/-- the state is a case of one of the patterns -/
noncomputable def scut (K : sK) (C : List (sFs × sS)) (F : sFs) (s : sS) : Bool := C.any (fun c => decide (spc c.2 = spc s) && (decide (c.2.2.2.1 = s.2.2.1) && (decide (c.2.1.2.1 = s.1.2.1) && (lvq c.2.1.2.2.2.2.2.2.1 s.1.2.2.2.2.2.2.1 && sinst K F (smat c.2 s) c.1 c.2 s))))
theorem scut_ok (hPm : Pmono P) (hK : kok X ρ K) {C : List (sFs × sS)} (hC : ∀ c ∈ C, GS X Ft dfl Mt lw P K c.1 c.2) {F : sFs} {s : sS} (hF : fok X ρ F) (h : scut K C F s = true) : GP X Ft dfl Mt lw P ρ s := by
  unfold scut at h
  obtain ⟨c, hc, h1⟩ := List.any_eq_true.mp h
  simp only [Bool.and_eq_true] at h1
  exact fun G hR => sinst_ok hPm h1.2.2.2.2 hK hF hR (fun a b e => hC c hc _ G a b e)
theorem GS_run {yf : Nat × Nat × Nat} (hfl : flok Mt yf) (hP : Pback X Ft dfl Mt hl lw P) (hPm : Pmono P) {C : List (sFs × sS)} (hC : ∀ c ∈ C, GS X Ft dfl Mt lw P K c.1 c.2) (n : Nat) (F : sFs) (s : sS) (h : srun yf Ft dfl Mt hl K (scut K C) n F s = true) : GS X Ft dfl Mt lw P K F s := fun _ G hK hF hR => srun_ok hfl hP hK (fun _ _ hF h => scut_ok hPm hK hC hF h) n F s h hF G hR
/-- a loop that fills an array: k from 0 up to its length -/
theorem GS_fill {yf : Nat × Nat × Nat} (hfl : flok Mt yf) (hP : Pback X Ft dfl Mt hl lw P) (hPm : Pmono P) {F0 Fb : sFs} {s0 : sS} {kv av N ci t n : Nat} {c : Int32} (hkv : kv % 2 = 0) (hav : av % 2 = 0) (hN : N < 2147483647) (hcell : hget s0.2.2.2.1 ci = some (.inl (t, N, .arg av, [])))
    (h0 : F0 = [((2, .arg kv, .int 0), false), ((2, .int (Int32.ofNat N), .arg kv), false)]) (hK0 : K.2.2.1 av = none)
    (hFb : ∀ f ∈ Fb, scl f.1.2.1 = true ∧ scl f.1.2.2 = true ∧ ssub ([(kv, .add (.arg kv) (.int 1))], [(av, .arg av, [(.arg kv, .int c)])]) f.1.2.1 = f.1.2.1 ∧ ssub ([(kv, .add (.arg kv) (.int 1))], [(av, .arg av, [(.arg kv, .int c)])]) f.1.2.2 = f.1.2.2)
    (hE : GS X Ft dfl Mt lw P K (((0, .arg kv, .int (Int32.ofNat N)), true) :: Fb) (s0.1, s0.2.1, s0.2.2.1, hset s0.2.2.2.1 ci (some (.inl (t, N, .int c, []))), s0.2.2.2.2))
    (hrun : srun yf Ft dfl Mt hl K (fun F s => decide (spc s0 = spc s) && sinst K F ([(kv, .add (.arg kv) (.int 1))], [(av, .arg av, [(.arg kv, .int c)])]) F0 s0 s) n (((2, .arg kv, .int (Int32.ofNat N)), true) :: (F0 ++ Fb)) s0 = true) :
    ∀ (m : Nat) (ρ : sR) (G : pH), (ρ.1 kv).toInt + m = N → 0 ≤ (ρ.1 kv).toInt → (∀ j, j < (ρ.1 kv).toInt.toNat → ρ.2.2.1 av j = c) → kok X ρ K → fok X ρ Fb → HR X ρ s0.2.2.2.1 G → GG X Ft dfl Mt lw P ρ s0.1 s0.2.1 s0.2.2.1 (s0.2.2.2.2 + rS ρ) G
  | m, ρ, G, hm, hp, hI, hK, hFB, hR => by
    have hNt : (Int32.ofNat N).toInt = N := Int32.toInt_ofNat_of_lt (by omega)
    have hF0 : fok X ρ F0 := by
      rw [h0]
      refine ⟨hFB.1, fun f hf => ?_⟩
      simp only [List.mem_cons, List.not_mem_nil, or_false] at hf
      rcases hf with rfl | rfl
      · show decide ((ρ.1 kv) < 0) = false
        exact decide_eq_false (fun h => by have := Int32.lt_iff_toInt_lt.mp h; simp at this; omega)
      · show decide (Int32.ofNat N < ρ.1 kv) = false
        exact decide_eq_false (fun h => by have := Int32.lt_iff_toInt_lt.mp h; omega)
    cases m with
    | zero =>
      refine hE ρ G hK ⟨hFB.1, fun f hf => ?_⟩ ?_
      · rcases List.mem_cons.mp hf with rfl | hf
        · show decide (ρ.1 kv = Int32.ofNat N) = true
          exact decide_eq_true (Int32.toInt_inj.mp (by omega))
        · exact hFB.2 f hf
      · obtain ⟨f, h1, h2, -⟩ := hR.arr hcell
        refine ⟨by rw [hset_len]; exact hR.1, fun k e hk => ?_, hR.2.2.1, fun k hk hl => by
          by_cases hj : ci = k
          · subst hj
            rw [hget_self (hget_lt hcell)] at hk
            cases hk
          · rw [hget_ne hj] at hk
            exact hR.2.2.2 k hk hl⟩
        by_cases hj : ci = k
        · subst hj
          rw [hget_self (hget_lt hcell)] at hk
          cases hk
          refine ⟨_, h1, rfl, rfl, fun j hj => ?_, fun u hu => by cases hu⟩
          show f j = .int c
          rw [h2 j hj]
          show bden X ρ (.arg av) j = _
          simp only [bden, hav]
          rw [if_neg (by decide), hI j (by dsimp only at hj; omega)]
        · rw [hget_ne hj] at hk
          exact hR.2.1 k e hk
    | succ m =>
      refine srun_ok hfl hP hK (leaf := fun F s => decide (spc s0 = spc s) && sinst K F ([(kv, .add (.arg kv) (.int 1))], [(av, .arg av, [(.arg kv, .int c)])]) F0 s0 s) (fun F s hF hle => ?_) n _ s0 hrun ⟨hFB.1, fun f hf => ?_⟩ G hR
      · simp only [Bool.and_eq_true] at hle
        refine fun G' hR' => sinst_ok hPm hle.2 hK hF hR' (fun k1 k2 k3 => ?_)
        have e1 : (rsub X ρ ([(kv, .add (.arg kv) (.int 1))], [(av, .arg av, [(.arg kv, .int c)])])).1 kv = ρ.1 kv + 1 := by
          simp [rsub, sfnd_def, sd]
        have e2 : (ρ.1 kv + 1).toInt = (ρ.1 kv).toInt + 1 := s_add (y := 1) (by show _ ≤ (ρ.1 kv).toInt + 1; omega) (by show (ρ.1 kv).toInt + 1 ≤ _; omega)
        have e3 : ∀ j, (rsub X ρ ([(kv, .add (.arg kv) (.int 1))], [(av, .arg av, [(.arg kv, .int c)])])).2.2.1 av j = if (ρ.1 kv).toNatClampNeg = j then c else ρ.2.2.1 av j := by
          intro j
          have e4 : afnd ([(kv, .add (.arg kv) (.int 1))], [(av, .arg av, [(.arg kv, .int c)])]) av = some (.arg av, [(.arg kv, .int c)]) := by simp [afnd_def]
          simp only [rsub, e4]
          unfold aden
          by_cases hjk : (sd X ρ (.arg kv)).1.toNatClampNeg = j
          · rw [if_pos hjk, if_pos (show (ρ.1 kv).toNatClampNeg = j from hjk)]; rfl
          · rw [if_neg hjk, if_neg (show ¬ (ρ.1 kv).toNatClampNeg = j from hjk)]
            simp only [aden, bden, hav]; rfl
        refine GS_fill hfl hP hPm hkv hav hN hcell h0 hK0 hFb hE hrun m _ G' (by rw [e1, e2]; omega) (by rw [e1, e2]; omega) (fun j hj => ?_) k1 ⟨k2.1, fun f hf => ?_⟩ k3
        rotate_left
        · obtain ⟨f1, f2, f3, f4⟩ := hFb f hf
          have h5 := hFB.2 f hf
          rw [← h5]
          exact sc_arr (by rw [← ssub_d _ f1, f3]) (by rw [← ssub_d _ f2, f4]) (aits_sub _ f1 f3)
        rw [e1, e2] at hj
        rw [e3 j]
        split
        · rfl
        · next hne =>
          rw [s_nat] at hne
          exact hI j (by omega)
      · rcases List.mem_cons.mp hf with rfl | hf
        · show decide (ρ.1 kv < Int32.ofNat N) = true
          exact decide_eq_true (Int32.lt_iff_toInt_lt.mpr (by omega))
        · rcases List.mem_append.mp hf with hf | hf
          · exact hF0.2 f hf
          · exact hFB.2 f hf
end CHK
