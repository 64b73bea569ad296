/-! ===== a contract used: both stand at their calls ===== -/
/-- new numbers: those of ρ' lie off places higher -/
noncomputable def rnew (off : Nat) (ρ ρ' : sR) : sR := (fun i => if off + 1000 ≤ i then ρ'.1 (i - off) else ρ.1 i, fun i => if off + 1000 ≤ i then ρ'.2.1 (i - off) else ρ.2.1 i, fun a => if off + 1000 ≤ a then ρ'.2.2.1 (a - off) else ρ.2.2.1 a, fun a => if off + 1000 ≤ a then ρ'.2.2.2.1 (a - off) else ρ.2.2.2.1 a, ρ.2.2.2.2)
section RAP
variable {X : pX} {Ft : Nat → Nat → FieldType} {dfl : Nat → Nat × List Value} {Mt : List pM} {hl : Nat → Option (pHd × Nat)} {K : sK} {ρ ρ' : sR} {off : Nat} {σ : sM}
theorem rnew_agr : agr off (rnew off ρ ρ') ρ := by
  constructor
  · intro i hi
    have : ¬ off + 1000 ≤ i := by omega
    simp only [rnew, if_neg this, and_self]
  · intro i hi
    have : ¬ off + 1000 ≤ i := by omega
    simp only [rnew, if_neg this, and_self]
theorem vrng_off (h32 : off % 32 = 0) {i : Nat} (hi : off + 1000 ≤ i) : vrng (i - off) = vrng i := by
  rw [vrng_def, vrng_def]
  unfold vrngO
  rw [if_neg (by omega), if_neg (by omega)]
  have : (i - off) / 2 % 16 = i / 2 % 16 := by omega
  rw [this]
theorem rnew_vok (h32 : off % 32 = 0) (h : vok X ρ) (h' : vok X ρ') : vok X (rnew off ρ ρ') := by
  constructor
  · intro i r hr
    by_cases hi : off + 1000 ≤ i
    · have h1 := h'.1 (i - off) r (by rw [vrng_off h32 hi]; exact hr)
      have e : sn X (rnew off ρ ρ') (.arg i) = sn X ρ' (.arg (i - off)) := by
        have hp : i % 2 = (i - off) % 2 := by omega
        show (if i % 2 = 1 then ((rnew off ρ ρ').2.1 i).toInt else ((rnew off ρ ρ').1 i).toInt) = if (i - off) % 2 = 1 then (ρ'.2.1 (i - off)).toInt else (ρ'.1 (i - off)).toInt
        simp only [rnew, if_pos hi, hp]
      rw [e]
      exact h1
    · have e : sn X (rnew off ρ ρ') (.arg i) = sn X ρ (.arg i) := by
        show (if i % 2 = 1 then ((rnew off ρ ρ').2.1 i).toInt else ((rnew off ρ ρ').1 i).toInt) = if i % 2 = 1 then (ρ.2.1 i).toInt else (ρ.1 i).toInt
        simp only [rnew, if_neg hi]
      rw [e]
      exact h.1 i r hr
  · intro a t r hr
    by_cases hi : off + 1000 ≤ a
    · have h1 := h'.2 (a - off) (.int (sd X (rnew off ρ ρ') t).1) r (by rw [vrng_off h32 hi]; exact hr)
      have e : sn X (rnew off ρ ρ') (.elem (.arg a) t) = sn X ρ' (.elem (.arg (a - off)) (.int (sd X (rnew off ρ ρ') t).1)) := by
        have hp : a % 2 = (a - off) % 2 := by omega
        have e1 : (rnew off ρ ρ').2.2.1 a = ρ'.2.2.1 (a - off) := by simp only [rnew, if_pos hi]
        have e2 : (rnew off ρ ρ').2.2.2.1 a = ρ'.2.2.2.1 (a - off) := by simp only [rnew, if_pos hi]
        show (if a % 2 = 1 then ((rnew off ρ ρ').2.2.2.1 a (sd X (rnew off ρ ρ') t).1.toNatClampNeg).toInt else ((rnew off ρ ρ').2.2.1 a (sd X (rnew off ρ ρ') t).1.toNatClampNeg).toInt) = if (a - off) % 2 = 1 then (ρ'.2.2.2.1 (a - off) (sd X (rnew off ρ ρ') t).1.toNatClampNeg).toInt else (ρ'.2.2.1 (a - off) (sd X (rnew off ρ ρ') t).1.toNatClampNeg).toInt
        rw [e1, e2, hp]
      rw [e]
      exact h1
    · have e : sn X (rnew off ρ ρ') (.elem (.arg a) t) = sn X ρ (.elem (.arg a) (.int (sd X (rnew off ρ ρ') t).1)) := by
        have e1 : (rnew off ρ ρ').2.2.1 a = ρ.2.2.1 a := by simp only [rnew, if_neg hi]
        have e2 : (rnew off ρ ρ').2.2.2.1 a = ρ.2.2.2.1 a := by simp only [rnew, if_neg hi]
        show (if a % 2 = 1 then ((rnew off ρ ρ').2.2.2.1 a (sd X (rnew off ρ ρ') t).1.toNatClampNeg).toInt else ((rnew off ρ ρ').2.2.1 a (sd X (rnew off ρ ρ') t).1.toNatClampNeg).toInt) = if a % 2 = 1 then (ρ.2.2.2.1 a (sd X (rnew off ρ ρ') t).1.toNatClampNeg).toInt else (ρ.2.2.1 a (sd X (rnew off ρ ρ') t).1.toNatClampNeg).toInt
        rw [e1, e2]
      rw [e]
      exact h.2 a _ r hr
/-- what the pattern's variables are set to behind the call -/
noncomputable def sig2 (off : Nat) (mods moda : List Nat) (σ : sM) : sM := (mods.map (fun i => (i, .arg (i + off))) ++ σ.1, moda.map (fun a => (a, .arg (a + off), [])) ++ σ.2)
theorem sfnd_sig2 {mods moda : List Nat} (i : Nat) : sfnd (sig2 off mods moda σ) i = if i ∈ mods then some (.arg (i + off)) else sfnd σ i := by
  rw [sfnd_def, sfnd_def]
  unfold sig2
  dsimp only
  rw [List.find?_append]
  by_cases h : i ∈ mods
  · rw [if_pos h]
    have : (mods.map (fun i => ((i, .arg (i + off)) : Nat × sT))).find? (fun q => q.1 == i) = some (i, .arg (i + off)) := by
      induction mods with
      | nil => cases h
      | cons k r ih =>
        rw [List.map_cons, List.find?_cons]
        by_cases hk : k = i
        · subst hk
          simp
        · have hb : (k == i) = false := by simp [hk]
          simp only [hb]
          exact ih (by rcases List.mem_cons.mp h with e | e; (· exact absurd e.symm hk); exact e)
    rw [this]
    rfl
  · rw [if_neg h]
    have : (mods.map (fun i => ((i, .arg (i + off)) : Nat × sT))).find? (fun q => q.1 == i) = none := by
      rw [List.find?_eq_none]
      intro x hx
      obtain ⟨k, hk, rfl⟩ := List.mem_map.mp hx
      simp only [beq_iff_eq]
      intro e
      exact h (e ▸ hk)
    rw [this]
    rfl
theorem afnd_sig2 {mods moda : List Nat} (a : Nat) : afnd (sig2 off mods moda σ) a = if a ∈ moda then some (.arg (a + off), []) else afnd σ a := by
  rw [afnd_def, afnd_def]
  unfold sig2
  dsimp only
  rw [List.find?_append]
  by_cases h : a ∈ moda
  · rw [if_pos h]
    have : (moda.map (fun a => ((a, .arg (a + off), []) : Nat × sT × List (sT × sT)))).find? (fun q => q.1 == a) = some (a, .arg (a + off), []) := by
      induction moda with
      | nil => cases h
      | cons k r ih =>
        rw [List.map_cons, List.find?_cons]
        by_cases hk : k = a
        · subst hk
          simp
        · have hb : (k == a) = false := by simp [hk]
          simp only [hb]
          exact ih (by rcases List.mem_cons.mp h with e | e; (· exact absurd e.symm hk); exact e)
    rw [this]
    rfl
  · rw [if_neg h]
    have : (moda.map (fun a => ((a, .arg (a + off), []) : Nat × sT × List (sT × sT)))).find? (fun q => q.1 == a) = none := by
      rw [List.find?_eq_none]
      intro x hx
      obtain ⟨k, hk, rfl⟩ := List.mem_map.mp hx
      simp only [beq_iff_eq]
      intro e
      exact h (e ▸ hk)
    rw [this]
    rfl
/-- all that a substitution sets lies below n -/
noncomputable def vltM (n : Nat) (σ : sM) : Bool := σ.1.all (fun q => vlt n q.2) && σ.2.all (fun q => vltB n q.2.1 && q.2.2.all (fun x => vlt n x.1 && vlt n x.2))
theorem REP_new {mods moda : List Nat} (h2 : off % 2 = 0) (hms : mods.all (fun i => Nat.ble 1000 i) = true) (hma : moda.all (fun i => Nat.ble 1000 i) = true) (hM : sMok K σ = true) (hv : vltM off σ = true) (hs : ∀ i, i ∉ mods → ρ'.1 i = (rsub X ρ σ).1 i ∧ ρ'.2.1 i = (rsub X ρ σ).2.1 i) (ha : ∀ a, a ∉ moda → ∀ j, bden X ρ' (.arg a) j = bden X (rsub X ρ σ) (.arg a) j) : REP X off ρ' (rnew off ρ ρ') (sig2 off mods moda σ) := by
  have hag : agr off (rnew off ρ ρ') ρ := rnew_agr
  simp only [vltM, Bool.and_eq_true, List.all_eq_true] at hv
  constructor
  · intro i hi
    show sd X (rnew off ρ ρ') (match sfnd (sig2 off mods moda σ) i with
      | some u => u
      | none => .arg i) = _
    rw [sfnd_sig2]
    by_cases hm : i ∈ mods
    · rw [if_pos hm]
      have h1 : 1000 ≤ i := Nat.le_of_ble_eq_true (List.all_eq_true.mp hms i hm)
      have h3 : off + 1000 ≤ i + off := by omega
      have h4 : i + off - off = i := by omega
      simp only [sd, rnew, if_pos h3, h4]
    · rw [if_neg hm]
      obtain ⟨e1, e2⟩ := hs i hm
      rw [e1, e2]
      cases hf : sfnd σ i with
      | none =>
        simp only [sd, rsub, hf]
        have := hag.1 i hi
        rw [this.1, this.2]
      | some u =>
        have hu : vlt off u = true := by
          rw [sfnd_def] at hf
          split at hf
          · next q hq => cases hf; exact hv.1 q (List.mem_of_find?_eq_some hq)
          · cases hf
        dsimp only
        rw [vlt_d hag u hu]
        simp only [rsub, hf]
  · intro a hl j
    unfold aval
    rw [afnd_sig2]
    by_cases hm : a ∈ moda
    · rw [if_pos hm]
      have h1 : 1000 ≤ a := Nat.le_of_ble_eq_true (List.all_eq_true.mp hma a hm)
      have h3 : off + 1000 ≤ a + off := by omega
      have h4 : a + off - off = a := by omega
      have h5 : (a + off) % 2 = a % 2 := by omega
      simp only [aden, bden, rnew, if_pos h3, h4, h5]
    · rw [if_neg hm, ha a hm j]
      cases hf : afnd σ a with
      | none =>
        have := hag.2 a hl
        simp only [bden, rsub, hf, this.1, this.2]
      | some p =>
        have hp : vltB off p.1 = true ∧ ∀ x ∈ p.2, vlt off x.1 = true ∧ vlt off x.2 = true := by
          rw [afnd_def] at hf
          split at hf
          · next q hq =>
            cases hf
            have := hv.2 q (List.mem_of_find?_eq_some hq)
            exact ⟨this.1, fun x hx => by simpa using this.2 x hx⟩
          · cases hf
        dsimp only
        rw [vlt_aden hag hp.1 j p.2 hp.2]
        obtain ⟨m1, m2, m3⟩ := sMok_arr hM hf
        rw [aden_kind (X := X) (ρ := ρ) (j := j) m2 p.2 m3]
        simp only [bden, rsub, hf]
/-- every cell that is known is such -/
noncomputable def hall (p : sE → Bool) (n : Nat) : TT (Option sE) n → Bool := @Nat.rec (fun n => TT (Option sE) n → Bool) (fun x => match x with
  | none => true
  | some e => p e) (fun _ ih x => ih x.1 && ih x.2.1) n
theorem hall_t {p : sE → Bool} {e : sE} : ∀ (n : Nat) (x : TT (Option sE) n) (k : Nat), hall p n x = true → tget n x k = some e → p e = true
  | 0, x, k, h, hx => by
    have hx : x = some e := hx
    subst hx
    exact h
  | n + 1, x, k, h, hx => by
    have h : (hall p n x.1 && hall p n x.2.1) = true := h
    simp only [Bool.and_eq_true] at h
    by_cases hk : k < 2 ^ n
    · exact hall_t n x.1 k h.1 ((tget_l hk).symm.trans hx)
    · exact hall_t n x.2.1 _ h.2 ((tget_r hk).symm.trans hx)
theorem hall_get {p : sE → Bool} {G : sH} (h : hall p 9 G.1 = true) {k : Nat} {e : sE} (hk : hget G k = some e) : p e = true := by
  have h1 := hget_lt hk
  rw [hget_def] at hk
  rw [if_pos h1] at hk
  exact hall_t 9 G.1 k h hk
/-- the contract's cells anew -/
noncomputable def hupd (F : sFs) (σ : sM) (Z : sH) (G : sH) (l : List Nat) : sH := l.foldr (fun k H => hset H k (match hget Z k with
  | some e0 => csubX F σ e0
  | none => none)) G
theorem hupd_get {F : sFs} {Z G : sH} {k : Nat} : ∀ l : List Nat, hget (hupd F σ Z G l) k = if k ∈ l ∧ k < 512 then (match hget Z k with
    | some e0 => csubX F σ e0
    | none => none) else hget G k
  | [] => by rw [if_neg (fun h => by cases h.1)]; rfl
  | a :: l => by
    show hget (hset (hupd F σ Z G l) a _) k = _
    rw [hset_get, hupd_get l]
    by_cases h : a = k
    · subst h
      by_cases h5 : a < 512
      · rw [if_pos ⟨rfl, h5⟩, if_pos ⟨List.mem_cons_self, h5⟩]
      · rw [if_neg (fun q => h5 q.2), if_neg (fun q => h5 q.2), if_neg (fun q => h5 q.2)]
    · rw [if_neg (fun q => h q.1)]
      by_cases hm : k ∈ l ∧ k < 512
      · rw [if_pos hm, if_pos ⟨List.mem_cons_of_mem _ hm.1, hm.2⟩]
      · rw [if_neg hm, if_neg (fun q => hm ⟨by rcases List.mem_cons.mp q.1 with e | e; (· exact absurd e.symm h); exact e, q.2⟩)]
theorem hupd_len {F : sFs} {Z G : sH} : ∀ l : List Nat, (hupd F σ Z G l).2 = G.2
  | [] => rfl
  | a :: l => by
    show (hset (hupd F σ Z G l) a _).2 = _
    rw [hset_len]
    exact hupd_len l
/-- the cells of a contract are there, as the pattern has them -/
noncomputable def fpok (K : sK) (F : sFs) (σ : sM) (Z G : sH) (l : List Nat) : Bool := l.all (fun k => match hget Z k with
  | some e0 => (match hget G k with
    | some e => cinsX K F σ e0 e
    | none => false)
  | none => false)
/-- ... and what they become can be written -/
noncomputable def fpnew (n : Nat) (F : sFs) (σ : sM) (Z : sH) (l : List Nat) : Bool := l.all (fun k => match hget Z k with
  | some e0 => vltE n e0 && (csubX F σ e0).isSome
  | none => false)
theorem CR_B {B B' : pB} {e : sE} {y : pE} (h : CR X (rwB ρ B) e y) : CR X (rwB ρ B') e y := by
  cases e with
  | inl a =>
    cases y with
    | inr z => exact h.elim
    | inl z =>
      obtain ⟨q1, q2, q3, q4⟩ := h
      exact ⟨q1, q2, fun j hj => by rw [q3 j hj, aden_B, aden_B], fun u hu => by rw [sd_B]; have := q4 u hu; rw [sd_B] at this; exact this⟩
  | inr a =>
    cases y with
    | inl z => exact h.elim
    | inr z =>
      have h : z = (a.1, a.2.map (sv X (rwB ρ B))) := h
      show z = (a.1, a.2.map (sv X (rwB ρ B')))
      rw [h]
      exact congrArg (fun l => (a.1, l)) (List.map_congr_left (fun t _ => by rw [sv_B, sv_B]))
theorem CR_0 {B : pB} {e : sE} {y : pE} (h : CR X ρ e y) : CR X (rwB ρ B) e y := CR_B (ρ := ρ) (B := ρ.2.2.2.2) h
theorem CR_1 {B : pB} {e : sE} {y : pE} (h : CR X (rwB ρ B) e y) : CR X ρ e y := CR_B (ρ := ρ) (B' := ρ.2.2.2.2) h
/-- before the call -/
theorem HR_fp {F : sFs} (hF : fok X ρ F) (hK : kok X ρ K) (hM : sMok K σ = true) {Z sG : sH} {l : List Nat} {G : pH} {B : pB} (hf : fpok K F σ Z sG l = true) (hR : HR X (rwB ρ B) sG G) (s : Nat) : HR X (rwB (rsub X ρ σ) (G, G.length, s)) (foot Z l) G := by
  have hf := List.all_eq_true.mp hf
  refine ⟨?_, fun k e0 hk => ?_, Nat.le_refl _, fun k _ _ => rfl⟩
  · rw [foot_len]
    exact Nat.zero_add _
  · rw [foot_get] at hk
    split at hk
    · next hm =>
      have h1 := hf k hm
      rw [hk] at h1
      dsimp only at h1
      split at h1
      · next e he =>
        obtain ⟨y, hy, hc⟩ := hR.2.1 k e he
        exact ⟨y, hy, CR_0 (cinsX_ok hF hK hM h1 (CR_1 hc))⟩
      · cases h1
    · cases hk
/-- behind it -/
theorem HR_new {ρ'' : sR} {F : sFs} (hF : fok X ρ'' F) (hag : agr off ρ'' ρ) {σ2 : sM} (hrep : REP X off ρ' ρ'' σ2) (hk2 : ∀ i u, sfnd σ2 i = some u → sk u = i % 2) {Z sG : sH} {l : List Nat} {G G' : pH} {B : pB} {s : Nat} (hfp : fpnew off F σ2 Z l = true) (hall' : hall (vltE off) 9 sG.1 = true) (hR : HR X (rwB ρ B) sG G) (hN : HR X (rwB ρ' (G, G.length, s)) (foot Z l) G') : HR X (rwB ρ'' B) (hupd F σ2 Z sG l) G' := by
  have hfp := List.all_eq_true.mp hfp
  have hlen : G'.length = G.length := by
    have := hN.1
    rw [foot_len] at this
    have h9 : 0 + G.length = G'.length := this
    omega
  have hsame : ∀ k, k ∉ l → G'[k]? = G[k]? := fun k hk => by
    by_cases hl : k < G.length
    · exact hN.2.2.2 k (by rw [foot_get, if_neg hk]) hl
    · rw [List.getElem?_eq_none (by omega), List.getElem?_eq_none (by omega)]
  refine ⟨?_, fun k e hk => ?_, ?_, fun k hk hl => ?_⟩
  · rw [hupd_len, hlen]
    exact hR.1
  · rw [hupd_get] at hk
    split at hk
    · next hm =>
      have h1 := hfp k hm.1
      split at hk
      · next e0 he0 =>
        rw [he0] at h1
        simp only [Bool.and_eq_true] at h1
        obtain ⟨y, hy, hc⟩ := hN.2.1 k e0 (by rw [foot_get, if_pos hm.1]; exact he0)
        exact ⟨y, hy, CR_0 (csubX_ok hF hrep hk2 h1.1 hk (CR_1 hc))⟩
      · cases hk
    · next hm =>
      have hkl : k ∉ l := fun q => hm ⟨q, hget_lt hk⟩
      obtain ⟨y, hy, hc⟩ := hR.2.1 k e hk
      refine ⟨y, by rw [hsame k hkl]; exact hy, CR_0 (CR_agr (n := off) (ρ1 := ρ) (ρ2 := ρ'') ⟨fun i hi => ⟨(hag.1 i hi).1.symm, (hag.1 i hi).2.symm⟩, fun a ha => ⟨(hag.2 a ha).1.symm, (hag.2 a ha).2.symm⟩⟩ (hall_get hall' hk) (CR_1 hc))⟩
  · rw [hlen]
    exact hR.2.2.1
  · rw [hupd_get] at hk
    split at hk
    · next hm =>
      exfalso
      have h1 := hfp k hm.1
      split at hk
      · next e0 he0 =>
        rw [he0] at h1
        simp only [Bool.and_eq_true] at h1
        rw [hk] at h1
        cases h1.2
      · next he0 =>
        rw [he0] at h1
        cases h1
    · next hm =>
      by_cases hkl : k ∈ l
      · have hb : ¬ k < 512 := fun q => hm ⟨hkl, q⟩
        exfalso
        have h1 := hfp k hkl
        rw [hget_big hb] at h1
        cases h1
      · rw [hsame k hkl]
        exact hR.2.2.2 k hk hl
end RAP
