/-! ===== a variable that has come to a term's value ===== -/
noncomputable def bsub (σ : sM) (b : sT) : sT := match b with
  | .arg a => .arg a
  | b => ssub σ b
noncomputable def csub (σ : sM) (e : Option sE) : Option sE := match e with
  | none => none
  | some (.inl (t, n, b, u)) => some (.inl (t, n, bsub σ b, u.map (fun x => (ssub σ x.1, ssub σ x.2))))
  | some (.inr (c, v)) => some (.inr (c, v.map (ssub σ)))
noncomputable def ccl (e : Option sE) : Bool := match e with
  | none => true
  | some (.inl (_, _, b, u)) => scl b && u.all (fun x => scl x.1 && scl x.2)
  | some (.inr (_, v)) => v.all scl
noncomputable def tsub (σ : sM) : (n : Nat) → TT (Option sE) n → TT (Option sE) n
  | 0, x => csub σ x
  | n + 1, x => (tsub σ n x.1, tsub σ n x.2.1, x.2.2)
noncomputable def tcl : (n : Nat) → TT (Option sE) n → Bool
  | 0, x => ccl x
  | n + 1, x => tcl n x.1 && tcl n x.2.1
theorem tsub_get {σ : sM} : ∀ (n : Nat) (x : TT (Option sE) n) (k : Nat), tget n (tsub σ n x) k = csub σ (tget n x k)
  | 0, x, k => rfl
  | n + 1, x, k => by
    by_cases h : k < 2 ^ n
    · exact (tget_l h).trans ((tsub_get n x.1 k).trans (congrArg (csub σ) (tget_l (x := x) h).symm))
    · exact (tget_r h).trans ((tsub_get n x.2.1 _).trans (congrArg (csub σ) (tget_r (x := x) h).symm))
theorem tcl_get : ∀ (n : Nat) (x : TT (Option sE) n) (k : Nat), tcl n x = true → ccl (tget n x k) = true
  | 0, x, k, h => h
  | n + 1, x, k, h => by
    have h : (tcl n x.1 && tcl n x.2.1) = true := h
    simp only [Bool.and_eq_true] at h
    by_cases hk : k < 2 ^ n
    · exact (congrArg ccl (tget_l (x := x) hk)).trans (tcl_get n x.1 k h.1)
    · exact (congrArg ccl (tget_r (x := x) hk)).trans (tcl_get n x.2.1 _ h.2)
noncomputable def fsub (σ : sM) (f : sF) : sF := (f.1, f.2.1, f.2.2.1, f.2.2.2.1, f.2.2.2.2.1, f.2.2.2.2.2.1, f.2.2.2.2.2.2.1.map (fun q => (q.1, ssub σ q.2)), f.2.2.2.2.2.2.2.map (ssub σ))
noncomputable def fcl (f : sF) : Bool := f.2.2.2.2.2.2.1.all (fun q => scl q.2) && f.2.2.2.2.2.2.2.all scl
noncomputable def ssubS (σ : sM) (s : sS) : sS := (fsub σ s.1, s.2.1.map (fsub σ), s.2.2.1, (tsub σ 9 s.2.2.2.1.1, s.2.2.2.1.2), s.2.2.2.2)
noncomputable def sscl (s : sS) : Bool := fcl s.1 && (s.2.1.all fcl && tcl 9 s.2.2.2.1.1)
section COUNT
variable {X : pX} {Ft : Nat → Nat → FieldType} {dfl : Nat → Nat × List Value} {Mt : List pM} {lw : Nat × List pOp × Nat} {P : pC → Prop} {hl : Nat → Option (pHd × Nat)} {K : sK} {ρ : sR} {σ : sM}
theorem bsub_d {j : Nat} (h : sMok K σ = true) {b : sT} (hb : scl b = true) : (∀ a, b = .arg a → afnd σ a = none) → bden X ρ (bsub σ b) j = bden X (rsub X ρ σ) b j := by
  intro hn
  have e1 : ∀ (ρ : sR) (t : sT), (¬ ∃ a, t = .arg a) → (¬ ∃ a, t = .old a) → bden X ρ t j = sv X ρ t := fun ρ t ht ho => by
    cases t <;> first | (exact absurd ⟨_, rfl⟩ ht) | (exact absurd ⟨_, rfl⟩ ho) | rfl
  by_cases hb0 : ∃ a, b = .arg a
  · obtain ⟨a, rfl⟩ := hb0
    show bden X ρ (.arg a) j = _
    simp only [bden, rsub, hn a rfl]
  · have e2 : bsub σ b = ssub σ b := by cases b <;> first | (exact absurd ⟨_, rfl⟩ hb0) | rfl
    rw [e2, e1 _ b hb0 (by
      rintro ⟨a, rfl⟩
      cases hb), e1 _ (ssub σ b) (by
      rintro ⟨a, ha⟩
      cases b <;> first | (exact hb0 ⟨_, rfl⟩) | (simp only [ssub_arg, ssub_int, ssub_long, ssub_null, ssub_index, ssub_field, ssub_static, ssub_string, ssub_mirror, ssub_length, ssub_elem, ssub_add, ssub_sub, ssub_mul, ssub_div, ssub_rem, ssub_op2, ssub_op1, ssub_sum, ssub_result, ssub_thrown, ssub_old] at ha; cases ha)) (by
      rintro ⟨a, ha⟩
      cases b <;> first | (exact hb0 ⟨_, rfl⟩) | (cases hb; done) | (simp only [ssub_arg, ssub_int, ssub_long, ssub_null, ssub_index, ssub_field, ssub_static, ssub_string, ssub_mirror, ssub_length, ssub_elem, ssub_add, ssub_sub, ssub_mul, ssub_div, ssub_rem, ssub_op2, ssub_op1, ssub_sum, ssub_result, ssub_thrown, ssub_old] at ha; cases ha)), ssub_v h b hb]
theorem fsub_d (h : sMok K σ = true) (hρ : rsub X ρ σ = ρ) {f : sF} (hf : fcl f = true) : dL X ρ (fsub σ f).2.2.2.2.2.2.1 = dL X ρ f.2.2.2.2.2.2.1 ∧ dS X ρ (fsub σ f).2.2.2.2.2.2.2 = dS X ρ f.2.2.2.2.2.2.2 := by
  simp only [fcl, Bool.and_eq_true, List.all_eq_true] at hf
  constructor
  · unfold fsub dL
    dsimp only
    rw [List.map_map]
    apply List.map_congr_left
    intro q hq
    show (q.1, sv X ρ (ssub σ q.2)) = (q.1, sv X ρ q.2)
    rw [ssub_v h q.2 (hf.1 q hq), hρ]
  · unfold fsub dS
    dsimp only
    rw [List.map_map]
    apply List.map_congr_left
    intro t ht
    show sv X ρ (ssub σ t) = sv X ρ t
    rw [ssub_v h t (hf.2 t ht), hρ]
theorem KK_sub (h : sMok K σ = true) (hρ : rsub X ρ σ = ρ) : ∀ (fs : List sF) (d : Nat) (r : pRes), fs.all fcl = true → KK X Ft dfl Mt lw P ρ (fs.map (fsub σ)) d r → KK X Ft dfl Mt lw P ρ fs d r
  | [], d, r, _, hk => hk
  | f :: fs, d, r, hf, hk => by
    simp only [List.all_cons, Bool.and_eq_true] at hf
    obtain ⟨h1, h2⟩ := fsub_d (X := X) (ρ := ρ) h hρ hf.1
    have ih := fun r => KK_sub h hρ fs (d + 1) r hf.2
    obtain ⟨v, G, sl⟩ := r
    rw [List.map_cons] at hk
    unfold KK at hk ⊢
    cases v with
    | inl v =>
      dsimp only at hk ⊢
      rw [h1, h2] at hk
      by_cases hk2 : f.1 = 2
      · rw [if_pos (show (fsub σ f).1 = 2 from hk2)] at hk
        rw [if_pos hk2]
        exact hk
      · rw [if_neg (show ¬ (fsub σ f).1 = 2 from hk2)] at hk
        rw [if_neg hk2]
        obtain ⟨r1, hr, hz⟩ := hk
        exact ⟨r1, hr, ZZ_imp ih hz⟩
    | inr E => exact ⟨hk.1, ZZ_imp ih hk.2⟩
theorem GP_sub (h : sMok K σ = true) (hσ : σ.2 = []) (hρ : rsub X ρ σ = ρ) {s : sS} (hs : sscl s = true) (hg : GP X Ft dfl Mt lw P ρ (ssubS σ s)) : GP X Ft dfl Mt lw P ρ s := fun G hR => by
  simp only [sscl, Bool.and_eq_true] at hs
  obtain ⟨c1, c2, c3⟩ := hs
  have hR' : HR X ρ (ssubS σ s).2.2.2.1 G := by
    refine ⟨hR.1, fun k e hk => ?_, hR.2.2.1, fun k hk hl => hR.2.2.2 k (by
      rw [hget_def] at hk ⊢
      by_cases hlt : k < 512
      · rw [if_pos hlt] at hk ⊢
        have hk : csub σ (tget 9 s.2.2.2.1.1 k) = none := (tsub_get 9 _ k).symm.trans hk
        cases hx : tget 9 s.2.2.2.1.1 k with
        | none => rfl
        | some e0 =>
          rw [hx] at hk
          cases e0 with
          | inl a => obtain ⟨t, n, b, u⟩ := a; cases hk
          | inr a => obtain ⟨c, v⟩ := a; cases hk
      · rw [if_neg hlt]) hl⟩
    have hlt := hget_lt hk
    rw [hget_def] at hk
    rw [if_pos hlt] at hk
    have hk : csub σ (tget 9 s.2.2.2.1.1 k) = some e := (tsub_get 9 _ k).symm.trans hk
    have hcl := tcl_get 9 _ k c3
    have h0 : hget s.2.2.2.1 k = tget 9 s.2.2.2.1.1 k := by rw [hget_def, if_pos hlt]
    cases hx : tget 9 s.2.2.2.1.1 k with
    | none => rw [hx] at hk; cases hk
    | some e0 =>
      rw [hx] at hk hcl h0
      obtain ⟨y, hy, hc⟩ := hR.2.1 k e0 h0
      refine ⟨y, hy, ?_⟩
      cases e0 with
      | inl a =>
        obtain ⟨t, n, b, u⟩ := a
        simp only [csub] at hk
        simp only [ccl, Bool.and_eq_true, List.all_eq_true] at hcl
        cases hk
        cases y with
        | inr z => exact hc.elim
        | inl z =>
          obtain ⟨q1, q2, q3, q4⟩ := hc
          refine ⟨q1, q2, fun j hj => ?_, fun w hw => ?_⟩
          · rw [q3 j hj]
            have e := aden_sub (X := X) (ρ := ρ) h (j := j) (bsub_d (X := X) (ρ := ρ) (j := j) h hcl.1 (fun a _ => by rw [afnd_def]; rw [hσ]; rfl)) u (fun x hx => by have := hcl.2 x hx; simpa using this)
            rw [hρ] at e
            exact e.symm
          · obtain ⟨x, hx, rfl⟩ := List.mem_map.mp hw
            have h5 : scl x.1 = true ∧ scl x.2 = true := by have := hcl.2 x hx; simpa using this
            dsimp only
            rw [ssub_d x.1 h5.1, hρ]
            exact q4 x hx
      | inr a =>
        obtain ⟨c, v⟩ := a
        simp only [csub] at hk
        simp only [ccl] at hcl
        cases hk
        cases y with
        | inl z => exact hc.elim
        | inr z =>
          have hc : z = (c, v.map (sv X ρ)) := hc
          show z = (c, (v.map (ssub σ)).map (sv X ρ))
          rw [hc]
          have := slsub_v (X := X) (ρ := ρ) h hcl
          unfold dS slsub at this
          rw [this, hρ]
  have hg := hg G hR'
  obtain ⟨d1, d2⟩ := fsub_d (X := X) (ρ := ρ) h hρ c1
  unfold GG at hg ⊢
  rw [show (ssubS σ s).1 = fsub σ s.1 from rfl, d1, d2] at hg
  by_cases hk2 : s.1.1 = 2
  · rw [if_pos (show (fsub σ s.1).1 = 2 from hk2)] at hg
    rw [if_pos hk2]
    exact hg
  · rw [if_neg (show ¬ (fsub σ s.1).1 = 2 from hk2)] at hg
    rw [if_neg hk2]
    obtain ⟨r1, hr, hz⟩ := hg
    exact ⟨r1, hr, ZZ_imp (fun r => KK_sub h hρ _ _ r c2) hz⟩
/-- a loop that counts k up to a term's value -/
theorem GS_count {yf : Nat × Nat × Nat} (hfl : flok Mt yf) (hP : Pback X Ft dfl Mt hl lw P) (hPm : Pmono P) {Fb : sFs} {s0 : sS} {kv n : Nat} {B : Int32} {T : sT} (hkv : kv % 2 = 0) (hT : sk T = 0) (hT2 : ∀ ρ : sR, (sd X ρ T).2 = 0) (hTs : scl T = true) (hTn : ssub ([(kv, .add (.arg kv) (.int 1))], []) T = T) (hB : ((2, .int B, T), false) ∈ Fb) (hB2 : B.toInt < 2147483647) (hs : sscl s0 = true)
    (hFb : ∀ f ∈ Fb, scl f.1.2.1 = true ∧ scl f.1.2.2 = true ∧ ssub ([(kv, .add (.arg kv) (.int 1))], []) f.1.2.1 = f.1.2.1 ∧ ssub ([(kv, .add (.arg kv) (.int 1))], []) f.1.2.2 = f.1.2.2)
    (hE : GS X Ft dfl Mt lw P K Fb (ssubS ([(kv, T)], []) s0))
    (hrun : srun yf Ft dfl Mt hl K (fun F s => decide (spc s0 = spc s) && sinst K F ([(kv, .add (.arg kv) (.int 1))], []) [((2, .arg kv, .int 0), false)] s0 s) n (((2, .arg kv, .int B), true) :: ((2, .arg kv, T), true) :: ((2, .arg kv, .int 0), false) :: Fb) s0 = true) :
    ∀ (m : Nat) (ρ : sR) (G : pH), (ρ.1 kv).toInt + m = (sd X ρ T).1.toInt → 0 ≤ (ρ.1 kv).toInt → ρ.2.1 kv = 0 → kok X ρ K → fok X ρ Fb → HR X ρ s0.2.2.2.1 G → GG X Ft dfl Mt lw P ρ s0.1 s0.2.1 s0.2.2.1 (s0.2.2.2.2 + rS ρ) G
  | m, ρ, G, hm, hp, hz, hK, hF, hR => by
    have hTB : (sd X ρ T).1.toInt ≤ B.toInt := by
      have h1 : decide (B < (sd X ρ T).1) = false := hF.2 _ hB
      exact Int32.le_iff_toInt_le.mp (Int32.not_lt.mp (of_decide_eq_false h1))
    cases m with
    | zero =>
      have e1 : ρ.1 kv = (sd X ρ T).1 := Int32.toInt_inj.mp (by omega)
      have eρ : rsub X ρ ([(kv, T)], []) = ρ := by
        obtain ⟨r1, r2, r3, r4⟩ := ρ
        simp only [rsub, afnd_nil, Prod.mk.injEq]
        refine ⟨funext fun i => ?_, funext fun i => ?_, trivial⟩
        · by_cases hi : kv = i
          · subst hi
            simp only [sfnd_def, List.find?_cons_of_pos, beq_self_eq_true]
            exact e1.symm
          · have : sfnd ([(kv, T)], []) i = none := by
              rw [sfnd_def]
              rw [List.find?_cons_of_neg (by simpa using hi)]
              rfl
            rw [this]
        · by_cases hi : kv = i
          · subst hi
            simp only [sfnd_def, List.find?_cons_of_pos, beq_self_eq_true]
            rw [hT2]
            exact hz.symm
          · have : sfnd ([(kv, T)], []) i = none := by
              rw [sfnd_def]
              rw [List.find?_cons_of_neg (by simpa using hi)]
              rfl
            rw [this]
      have hM : sMok K ([(kv, T)], []) = true := by
        simp [sMok, hT, hkv]
      exact GP_sub hM rfl eρ hs (fun G' hR' => hE ρ G' hK hF hR') G hR
    | succ m =>
      refine srun_ok hfl hP hK (leaf := fun F s => decide (spc s0 = spc s) && sinst K F ([(kv, .add (.arg kv) (.int 1))], []) [((2, .arg kv, .int 0), false)] s0 s) (fun F s hF' hle => ?_) n _ s0 hrun ⟨hF.1, fun f hf => ?_⟩ G hR
      · simp only [Bool.and_eq_true] at hle
        refine fun G' hR' => sinst_ok hPm hle.2 hK hF' hR' (fun k1 k2 k3 => ?_)
        have hi := hle.2
        simp only [sinst, Bool.and_eq_true] at hi
        have hM := hi.2.2.1
        have e1 : (rsub X ρ ([(kv, .add (.arg kv) (.int 1))], [])).1 kv = ρ.1 kv + 1 := by
          simp [rsub, sfnd_def, sd]
        have e2 : (ρ.1 kv + 1).toInt = (ρ.1 kv).toInt + 1 := s_add (y := 1) (by show _ ≤ (ρ.1 kv).toInt + 1; omega) (by show (ρ.1 kv).toInt + 1 ≤ _; omega)
        have e3 : sd X (rsub X ρ ([(kv, .add (.arg kv) (.int 1))], [])) T = sd X ρ T := by rw [← ssub_d T hTs, hTn]
        refine GS_count hfl hP hPm hkv hT hT2 hTs hTn hB hB2 hs hFb hE hrun m _ G' (by rw [e1, e2, e3]; omega) (by rw [e1, e2]; omega) (by simp [rsub, sfnd_def, sd]) k1 ⟨k2.1, fun f hf => ?_⟩ k3
        obtain ⟨f1, f2, f3, f4⟩ := hFb f hf
        have h5 := hF.2 f hf
        rw [← h5]
        exact sc_arr (by rw [← ssub_d _ f1, f3]) (by rw [← ssub_d _ f2, f4]) (aits_sub _ f1 f3)
      · rcases List.mem_cons.mp hf with rfl | hf
        · show decide (ρ.1 kv < B) = true
          exact decide_eq_true (Int32.lt_iff_toInt_lt.mpr (by omega))
        · rcases List.mem_cons.mp hf with rfl | hf
          · show decide (ρ.1 kv < (sd X ρ T).1) = true
            exact decide_eq_true (Int32.lt_iff_toInt_lt.mpr (by omega))
          · rcases List.mem_cons.mp hf with rfl | hf
            · show decide (ρ.1 kv < 0) = false
              exact decide_eq_false (fun h => by have := Int32.lt_iff_toInt_lt.mp h; simp at this; omega)
            · exact hF.2 f hf
end COUNT
