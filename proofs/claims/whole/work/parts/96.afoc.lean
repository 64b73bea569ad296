/-! ===== one drive among the others: a contract over its own view ===== -/
/-- a term that speaks of none of these numbers, of none of these arrays -/
noncomputable def nod (V R : Nat → Bool) : sT → Bool
  | .arg i => !(V i)
  | .int _ => true
  | .long _ => true
  | .null => true
  | .index _ => true
  | .string _ _ => true
  | .elem (.string _ _) i => nod V R i
  | .elem (.arg a) i => !(R a) && nod V R i
  | .length (.string _ _) => true
  | .add a b => nod V R a && nod V R b
  | .sub a b => nod V R a && nod V R b
  | .mul a b => nod V R a && nod V R b
  | .div a b => nod V R a && nod V R b
  | .rem a b => nod V R a && nod V R b
  | .op2 _ a b => nod V R a && nod V R b
  | .op1 _ a => nod V R a
  | _ => false
/-- alike but for these -/
noncomputable def alk (V R : Nat → Bool) (ρ1 ρ2 : sR) : Prop := (∀ i, V i = false → ρ1.1 i = ρ2.1 i ∧ ρ1.2.1 i = ρ2.2.1 i) ∧ ∀ a, R a = false → ρ1.2.2.1 a = ρ2.2.2.1 a ∧ ρ1.2.2.2.1 a = ρ2.2.2.2.1 a
section FOC
variable {X : pX} {V R : Nat → Bool} {ρ1 ρ2 : sR}
theorem alk_symm (h : alk V R ρ1 ρ2) : alk V R ρ2 ρ1 := ⟨fun i hi => ⟨(h.1 i hi).1.symm, (h.1 i hi).2.symm⟩, fun a ha => ⟨(h.2 a ha).1.symm, (h.2 a ha).2.symm⟩⟩
theorem nod_d (h : alk V R ρ1 ρ2) : ∀ t : sT, nod V R t = true → sd X ρ1 t = sd X ρ2 t := by
  intro t
  induction t with
  | arg i =>
    intro ht
    have hi : V i = false := by simpa [nod] using ht
    simp only [sd, (h.1 i hi).1, (h.1 i hi).2]
  | add a b iha ihb =>
    intro ht
    simp only [nod, Bool.and_eq_true] at ht
    simp only [sd, iha ht.1, ihb ht.2]
  | sub a b iha ihb =>
    intro ht
    simp only [nod, Bool.and_eq_true] at ht
    simp only [sd, iha ht.1, ihb ht.2]
  | mul a b iha ihb =>
    intro ht
    simp only [nod, Bool.and_eq_true] at ht
    simp only [sd, iha ht.1, ihb ht.2]
  | div a b iha ihb =>
    intro ht
    simp only [nod, Bool.and_eq_true] at ht
    simp only [sd, iha ht.1, ihb ht.2]
  | rem a b iha ihb =>
    intro ht
    simp only [nod, Bool.and_eq_true] at ht
    simp only [sd, iha ht.1, ihb ht.2]
  | op2 o a b iha ihb =>
    intro ht
    simp only [nod, Bool.and_eq_true] at ht
    simp only [sd, iha ht.1, ihb ht.2]
  | op1 o a iha =>
    intro ht
    simp only [nod] at ht
    simp only [sd, iha ht]
  | elem t i iht ihi =>
    intro ht
    cases t with
    | string c k =>
      simp only [nod] at ht
      simp only [sd, ihi ht]
    | arg a =>
      simp only [nod, Bool.and_eq_true, Bool.not_eq_true'] at ht
      simp only [sd, ihi ht.2, (h.2 a ht.1).1, (h.2 a ht.1).2]
    | _ => simp [nod] at ht
  | length t iht =>
    intro ht
    cases t with
    | string c k => rfl
    | _ => simp [nod] at ht
  | _ => first | (intro _; rfl) | (intro ht; simp [nod] at ht)
theorem nod_v (h : alk V R ρ1 ρ2) {t : sT} (ht : nod V R t = true) : sv X ρ1 t = sv X ρ2 t := by
  unfold sv
  split
  · rfl
  · rfl
  · rfl
  · rw [nod_d h t ht]
theorem nod_r (h : alk V R ρ1 ρ2) {t : sT} (ht : nod V R t = true) : aarr ρ1 t = aarr ρ2 t := by
  unfold aarr
  split
  · next a i =>
    simp only [nod, Bool.and_eq_true, Bool.not_eq_true'] at ht
    rw [(h.2 a ht.1).1, (h.2 a ht.1).2]
  · rfl
theorem nod_a (h : alk V R ρ1 ρ2) : ∀ t : sT, nod V R t = true → aits X ρ1 t = aits X ρ2 t := by
  have other : ∀ t : sT, (∀ a b, t ≠ .add a b) → nod V R t = true → aits X ρ1 t = aits X ρ2 t := fun t h0 ht => by
    rw [aits_one h0, aits_one h0, nod_r h ht]
    unfold sn
    rw [nod_d h t ht]
  intro t
  induction t with
  | add a b _ ihb =>
    intro ht
    simp only [nod, Bool.and_eq_true] at ht
    show (aarr ρ1 a, _) :: aits X ρ1 b = (aarr ρ2 a, _) :: aits X ρ2 b
    rw [ihb ht.2, nod_r h ht.1, nod_d h a ht.1]
  | _ => exact other _ (fun _ _ e => by cases e)
noncomputable def nodF (V R : Nat → Bool) (F : sFs) : Bool := F.all (fun g => nod V R g.1.2.1 && nod V R g.1.2.2)
noncomputable def nodI (V R : Nat → Bool) (I : sI) : Bool := I.all (fun c => nodF V R c.1 && (nod V R c.2.1.2.1 && nod V R c.2.1.2.2))
theorem nod_sc (h : alk V R ρ1 ρ2) {c : sQ} (h1 : nod V R c.2.1 = true) (h2 : nod V R c.2.2 = true) : sc X ρ1 c = sc X ρ2 c := sc_arr (nod_d h _ h1) (nod_d h _ h2) (nod_a h _ h1)
theorem nod_fall (h : alk V R ρ1 ρ2) {F : sFs} (hF : nodF V R F = true) (hf : fall X ρ2 F) : fall X ρ1 F := fun f hm => by
  have h1 := List.all_eq_true.mp hF f hm
  simp only [Bool.and_eq_true] at h1
  rw [nod_sc h h1.1 h1.2]
  exact hf f hm
theorem nod_iok (h : alk V R ρ1 ρ2) {I : sI} (hI : nodI V R I = true) (hi : iok X ρ2 I) : iok X ρ1 I := fun c hc hg => by
  have h1 := List.all_eq_true.mp hI c hc
  simp only [Bool.and_eq_true] at h1
  rw [nod_sc h h1.2.1 h1.2.2]
  exact hi c hc (nod_fall (alk_symm h) h1.1 hg)
/-- arrays in a row, none of these -/
noncomputable def nodL (R : Nat → Bool) : sT → Bool
  | .index a => !(R a)
  | .add (.index a) r => !(R a) && nodL R r
  | _ => false
noncomputable def nodB (V R : Nat → Bool) (b : sT) : Bool := match b with
  | .arg a => !(R a)
  | .old (.mul (.sub (.index _) (.index _)) l) => nodL R l
  | .old _ => false
  | b => nod V R b
noncomputable def nodE (V R : Nat → Bool) (e : sE) : Bool := match e with
  | .inr o => o.2.all (nod V R)
  | .inl a => nodB V R a.2.2.1 && a.2.2.2.all (fun u => nod V R u.1 && nod V R u.2)
theorem nodL_c : ∀ (l : sT) (b a : Nat), nodL R l = true → catA l b = some a → R a = false := by
  intro l
  induction l with
  | index c =>
    intro b a h hc
    cases b with
    | zero => simp only [catA, Option.some.injEq] at hc; rw [← hc]; simpa [nodL] using h
    | succ b => simp [catA] at hc
  | add x y ihx ihy =>
    intro b a h hc
    cases x with
    | index c =>
      simp only [nodL, Bool.and_eq_true, Bool.not_eq_true'] at h
      cases b with
      | zero => simp only [catA, Option.some.injEq] at hc; rw [← hc]; exact h.1
      | succ b => exact ihy b a h.2 (by simpa [catA] using hc)
    | _ => simp [nodL] at h
  | _ => intro b a h _; simp [nodL] at h
theorem nod_row (h : alk V R ρ1 ρ2) {m w : Nat} {l : sT} (hl : nodL R l = true) (j : Nat) : cden ρ1 (.mul (.sub (.index m) (.index w)) l) j = cden ρ2 (.mul (.sub (.index m) (.index w)) l) j := by
  unfold cden
  dsimp only
  split
  · next a ha =>
    have h1 := h.2 a (nodL_c l _ a hl ha)
    rw [h1.1, h1.2]
  · rfl
theorem nod_bden (h : alk V R ρ1 ρ2) {b : sT} (hb : nodB V R b = true) (j : Nat) : bden X ρ1 b j = bden X ρ2 b j := by
  unfold nodB at hb
  split at hb
  · next a =>
    have ha : R a = false := by simpa using hb
    show (if a % 2 = 1 then Value.long (ρ1.2.2.2.1 a j) else .int (ρ1.2.2.1 a j)) = if a % 2 = 1 then Value.long (ρ2.2.2.2.1 a j) else .int (ρ2.2.2.1 a j)
    rw [(h.2 a ha).1, (h.2 a ha).2]
  · next m w l => exact nod_row h hb j
  · cases hb
  · next h1 h2 h3 =>
    have e : ∀ ρ : sR, bden X ρ b j = sv X ρ b := fun ρ => by
      unfold bden
      split
      · next a => exact absurd rfl (h1 a)
      · next c => exact absurd rfl (h3 c)
      · rfl
    rw [e, e, nod_v h hb]
theorem nod_aden (h : alk V R ρ1 ρ2) {b : sT} (hb : nodB V R b = true) (j : Nat) : ∀ u : List (sT × sT), u.all (fun u => nod V R u.1 && nod V R u.2) = true → aden X ρ1 b u j = aden X ρ2 b u j
  | [], _ => nod_bden h hb j
  | x :: r, hu => by
    simp only [List.all_cons, Bool.and_eq_true] at hu
    show (if (sd X ρ1 x.1).1.toNatClampNeg = j then sv X ρ1 x.2 else aden X ρ1 b r j) = if (sd X ρ2 x.1).1.toNatClampNeg = j then sv X ρ2 x.2 else aden X ρ2 b r j
    rw [nod_d h _ hu.1.1, nod_v h hu.1.2, nod_aden h hb j r hu.2]
theorem nod_CR (h : alk V R ρ1 ρ2) {e : sE} (he : nodE V R e = true) {y : pE} (hc : CR X ρ1 e y) : CR X ρ2 e y := by
  cases e with
  | inr o =>
    cases y with
    | inl z => exact hc.elim
    | inr z =>
      have he : o.2.all (nod V R) = true := he
      have hc : z = (o.1, o.2.map (sv X ρ1)) := hc
      show z = (o.1, o.2.map (sv X ρ2))
      rw [hc]
      congr 1
      exact List.map_congr_left (fun t ht => nod_v h (List.all_eq_true.mp he t ht))
  | inl a =>
    cases y with
    | inr z => exact hc.elim
    | inl z =>
      obtain ⟨q1, q2, q3, q4⟩ := hc
      have he : (nodB V R a.2.2.1 && a.2.2.2.all (fun u => nod V R u.1 && nod V R u.2)) = true := he
      simp only [Bool.and_eq_true] at he
      refine ⟨q1, q2, fun j hj => by rw [q3 j hj, nod_aden h he.1 j _ he.2], fun u hu => ?_⟩
      have hu1 := List.all_eq_true.mp he.2 u hu
      simp only [Bool.and_eq_true] at hu1
      rw [← nod_d h _ hu1.1]
      exact q4 u hu
end FOC
section FOV
variable {X : pX} {Ft : Nat → Nat → FieldType} {dfl : Nat → Nat × List Value} {Mt : List pM} {K : sK}
theorem HR_view {Z1 Z2 : sH} {l : List Nat} {ρ1 ρ2 : sR} (dom : ∀ c ∈ l, hget Z2 c = none → hget Z1 c = none) (hc : ∀ c ∈ l, ∀ (e1 e2 : sE) (y : pE), hget Z1 c = some e1 → hget Z2 c = some e2 → CR X ρ1 e1 y → CR X ρ2 e2 y) (dom2 : ∀ c ∈ l, hget Z1 c = none → hget Z2 c = none) {B : pB} {G : pH} (hR : HR X (rwB ρ1 B) (foot Z1 l) G) : HR X (rwB ρ2 B) (foot Z2 l) G := by
  refine ⟨?_, fun c e2 h2 => ?_, hR.2.2.1, fun c hn hl => hR.2.2.2 c ?_ hl⟩
  · have h := hR.1
    rw [foot_len] at h ⊢
    exact h
  · rw [foot_get] at h2
    by_cases hm : c ∈ l
    · rw [if_pos hm] at h2
      cases h1 : hget Z1 c with
      | none => rw [dom2 c hm h1] at h2; cases h2
      | some e1 =>
        obtain ⟨y, hy, hcr⟩ := hR.2.1 c e1 (by rw [foot_get, if_pos hm]; exact h1)
        exact ⟨y, hy, CR_0 (hc c hm e1 e2 y h1 h2 (CR_1 hcr))⟩
    · rw [if_neg hm] at h2
      cases h2
  · rw [foot_get] at hn ⊢
    by_cases hm : c ∈ l
    · rw [if_pos hm] at hn ⊢
      exact dom c hm hn
    · rw [if_neg hm]
/-- what is not in a contract's lists stays -/
noncomputable def stay (X : pX) (C : sC) (ρ' ρ : sR) : Prop := (∀ i, i ∉ C.2.2.2.2.1.1 → ρ'.1 i = ρ.1 i ∧ ρ'.2.1 i = ρ.2.1 i) ∧ ∀ a, a ∉ C.2.2.2.2.1.2 → ∀ j, bden X ρ' (.arg a) j = bden X ρ (.arg a) j
theorem SREL_foc {Z1 Z2 : sH} {C : sC} {D : Nat} {k : Int32} {R : List Nat} {pre1 : sFs} (hp : C.2.2.2.1 = ((0, .arg D, .int k), true) :: pre1) (f : sR → sR) (hf : ∀ ρ, alk (fun i => i == D) (fun a => R.contains a) (f ρ) ρ) (hD : ∀ ρ, (f ρ).1 D = k) (hv : ∀ ρ, vok X ρ → vok X (f ρ)) (hk : ∀ ρ, kok X ρ K → kok X (f ρ) K) (n1 : nodF (fun i => i == D) (fun a => R.contains a) pre1 = true) (n2 : nodI (fun i => i == D) (fun a => R.contains a) C.2.2.2.2.2.2.2.1 = true) (n3 : C.2.1.1.all (nod (fun i => i == D) (fun a => R.contains a)) = true) (n4 : C.2.1.2.all (nod (fun i => i == D) (fun a => R.contains a)) = true)
    (dm : ∀ c, c ∈ C.2.2.1.1 ∨ c ∈ C.2.2.1.2 → (hget Z1 c = none ↔ hget Z2 c = none))
    (fw : ∀ ρ, vok X ρ → ∀ c, c ∈ C.2.2.1.1 ∨ c ∈ C.2.2.1.2 → ∀ (e1 e2 : sE) (y : pE), hget Z1 c = some e1 → hget Z2 c = some e2 → CR X ρ e1 y → CR X (f ρ) e2 y)
    (bk : ∀ ρ ρ', vok X ρ → stay X C ρ' (f ρ) → ∀ c, c ∈ C.2.2.1.1 ∨ c ∈ C.2.2.1.2 → ∀ (e1 e2 : sE) (y : pE), hget Z1 c = some e1 → hget Z2 c = some e2 → CR X ρ' e2 y → CR X ρ' e1 y)
    (h : SREL X Ft dfl Mt K Z2 C) : SREL X Ft dfl Mt K Z1 (C.1, C.2.1, C.2.2.1, pre1, (D :: C.2.2.2.2.1.1, R ++ C.2.2.2.2.1.2), C.2.2.2.2.2) := by
  intro ρ k1 k2 k3
  have k2 : fok X ρ pre1 := k2
  have k3 : iok X ρ C.2.2.2.2.2.2.2.1 := k3
  have hF : fok X (f ρ) C.2.2.2.1 := ⟨hv ρ k2.1, by
    rw [hp]
    intro g hg
    rcases List.mem_cons.mp hg with hg | hg
    · rw [hg]
      exact decide_eq_true (show (f ρ).1 D = k from hD ρ)
    · exact nod_fall (hf ρ) n1 k2.2 g hg⟩
  obtain ⟨ρ', m, q1, q2, c1, c2⟩ := h (f ρ) (hk ρ k1) hF (nod_iok (hf ρ) n2 k3)
  have ea : ∀ l : List sT, l.all (nod (fun i => i == D) (fun a => R.contains a)) = true → dS X ρ l = dS X (f ρ) l := fun l hl => List.map_congr_left (fun t ht => (nod_v (hf ρ) (List.all_eq_true.mp hl t ht)).symm)
  refine ⟨ρ', ⟨fun i hi => ?_, fun a ha j => ?_⟩, q1, q2, fun B G hR => ?_, fun B G hR => ?_⟩
  · have h1 : i ≠ D := fun e => hi (by rw [e]; exact List.mem_cons_self)
    have h2 : i ∉ C.2.2.2.2.1.1 := fun e => hi (List.mem_cons_of_mem _ e)
    have h3 := (hf ρ).1 i (by simpa using h1)
    exact ⟨(m.1 i h2).1.trans h3.1, (m.1 i h2).2.trans h3.2⟩
  · have h1 : a ∉ R := fun e => ha (List.mem_append.mpr (Or.inl e))
    have h2 : a ∉ C.2.2.2.2.1.2 := fun e => ha (List.mem_append.mpr (Or.inr e))
    have h3 := (hf ρ).2 a (by simpa using h1)
    rw [m.2 a h2 j]
    show (if a % 2 = 1 then Value.long ((f ρ).2.2.2.1 a j) else .int ((f ρ).2.2.1 a j)) = if a % 2 = 1 then Value.long (ρ.2.2.2.1 a j) else .int (ρ.2.2.1 a j)
    rw [h3.1, h3.2]
  · obtain ⟨G', g1, g2⟩ := c1 B G (HR_view (fun c hc e => (dm c (Or.inl hc)).mpr e) (fun c hc e1 e2 y h1 h2 h3 => fw ρ k2.1 c (Or.inl hc) e1 e2 y h1 h2 h3) (fun c hc e => (dm c (Or.inl hc)).mp e) hR)
    refine ⟨G', ?_, HR_view (fun c hc e => (dm c (Or.inl hc)).mp e) (fun c hc e2 e1 y h2 h1 h3 => bk ρ ρ' k2.1 m c (Or.inl hc) e1 e2 y h1 h2 h3) (fun c hc e => (dm c (Or.inl hc)).mpr e) g2⟩
    rw [ea _ n3]
    exact g1
  · obtain ⟨G', g1, g2⟩ := c2 B G (HR_view (fun c hc e => (dm c (Or.inr hc)).mpr e) (fun c hc e1 e2 y h1 h2 h3 => fw ρ k2.1 c (Or.inr hc) e1 e2 y h1 h2 h3) (fun c hc e => (dm c (Or.inr hc)).mp e) hR)
    refine ⟨G', ?_, HR_view (fun c hc e => (dm c (Or.inr hc)).mp e) (fun c hc e2 e1 y h2 h1 h3 => bk ρ ρ' k2.1 m c (Or.inr hc) e1 e2 y h1 h2 h3) (fun c hc e => (dm c (Or.inr hc)).mpr e) g2⟩
    rw [ea _ n4]
    exact g1
end FOV
/-! what the drive's view is: its number, and what lies besides -/
noncomputable def vI (v : Value) : Int32 := match v with
  | .int x => x
  | _ => 0
noncomputable def vL (v : Value) : Int64 := match v with
  | .long x => x
  | _ => 0
noncomputable def fco (X : pX) (Z : sH) (ρ : sR) (c j : Nat) : Value := match hget Z c with
  | some (.inl a) => aden X ρ a.2.2.1 a.2.2.2 j
  | _ => .int 0
noncomputable def rfd (RL : List (Nat × Nat)) (a : Nat) : Option (Nat × Nat) := RL.find? (fun p => p.1 == a)
noncomputable def rfo (X : pX) (Z : sH) (D : Nat) (k : Int32) (RL : List (Nat × Nat)) (ρ : sR) : sR := (fun i => if i = D then k else ρ.1 i, ρ.2.1, fun a => match rfd RL a with
  | some p => fun j => vI (fco X Z ρ p.2 j)
  | none => ρ.2.2.1 a, fun a => match rfd RL a with
  | some p => fun j => vL (fco X Z ρ p.2 j)
  | none => ρ.2.2.2.1 a, ρ.2.2.2.2)
section FOX
variable {X : pX} {Z : sH} {D : Nat} {k : Int32} {RL : List (Nat × Nat)} {ρ ρ' : sR}
theorem rfo_alk : alk (fun i => i == D) (fun a => (RL.map (fun p => p.1)).contains a) (rfo X Z D k RL ρ) ρ := by
  refine ⟨fun i hi => ⟨if_neg (by simpa using hi), rfl⟩, fun a ha => ?_⟩
  have e : rfd RL a = none := by
    unfold rfd
    rw [List.find?_eq_none]
    intro p hp h
    have h : p.1 = a := by simpa using h
    have hm : a ∈ RL.map (fun p => p.1) := h ▸ List.mem_map_of_mem hp
    have ha : (RL.map (fun p => p.1)).contains a = false := ha
    rw [List.contains_iff_mem.mpr hm] at ha
    cases ha
  constructor
  · show (match rfd RL a with
      | some p => fun j => vI (fco X Z ρ p.2 j)
      | none => ρ.2.2.1 a) = _
    rw [e]
  · show (match rfd RL a with
      | some p => fun j => vL (fco X Z ρ p.2 j)
      | none => ρ.2.2.2.1 a) = _
    rw [e]
theorem rfo_D : (rfo X Z D k RL ρ).1 D = k := if_pos rfl
/-- the rest: what the cell holds -/
theorem rfo_r {r c j : Nat} (h : rfd RL r = some (r, c)) : bden X (rfo X Z D k RL ρ) (.arg r) j = if r % 2 = 1 then .long (vL (fco X Z ρ c j)) else .int (vI (fco X Z ρ c j)) := by
  show (if r % 2 = 1 then Value.long ((rfo X Z D k RL ρ).2.2.2.1 r j) else .int ((rfo X Z D k RL ρ).2.2.1 r j)) = _
  have e1 : (rfo X Z D k RL ρ).2.2.1 r j = vI (fco X Z ρ c j) := by
    show (match rfd RL r with
      | some p => fun j => vI (fco X Z ρ p.2 j)
      | none => ρ.2.2.1 r) j = _
    rw [h]
  have e2 : (rfo X Z D k RL ρ).2.2.2.1 r j = vL (fco X Z ρ c j) := by
    show (match rfd RL r with
      | some p => fun j => vL (fco X Z ρ p.2 j)
      | none => ρ.2.2.2.1 r) j = _
    rw [h]
  rw [e1, e2]
noncomputable def kdB (r : Nat) (b : sT) : Bool := match b with
  | .arg a => a % 2 == r % 2
  | .old _ => false
  | b => sk b == r % 2
theorem kd_sv {r : Nat} {t : sT} (h : sk t = r % 2) : sv X ρ t = if r % 2 = 1 then .long (vL (sv X ρ t)) else .int (vI (sv X ρ t)) := by
  by_cases h1 : r % 2 = 1
  · rw [if_pos h1, sv_long (h.trans h1)]
    rfl
  · rw [if_neg h1, sv_int (h.trans (by omega))]
    rfl
theorem kd_aden {r : Nat} {b : sT} (hb : kdB r b = true) (j : Nat) : ∀ u : List (sT × sT), u.all (fun x => sk x.2 == r % 2) = true → aden X ρ b u j = if r % 2 = 1 then .long (vL (aden X ρ b u j)) else .int (vI (aden X ρ b u j))
  | [], _ => by
    show bden X ρ b j = if r % 2 = 1 then .long (vL (bden X ρ b j)) else .int (vI (bden X ρ b j))
    unfold kdB at hb
    split at hb
    · next a =>
      have ha : a % 2 = r % 2 := by simpa using hb
      show (if a % 2 = 1 then Value.long (ρ.2.2.2.1 a j) else .int (ρ.2.2.1 a j)) = if r % 2 = 1 then Value.long (vL (if a % 2 = 1 then Value.long (ρ.2.2.2.1 a j) else .int (ρ.2.2.1 a j))) else .int (vI (if a % 2 = 1 then Value.long (ρ.2.2.2.1 a j) else .int (ρ.2.2.1 a j)))
      rw [ha]
      by_cases h1 : r % 2 = 1
      · rw [if_pos h1, if_pos h1]; rfl
      · rw [if_neg h1, if_neg h1]; rfl
    · cases hb
    · next h1 h2 =>
      have e : bden X ρ b j = sv X ρ b := by
        unfold bden
        split
        · next a => exact absurd rfl (h1 a)
        · next c => exact absurd rfl (h2 c)
        · rfl
      rw [e]
      exact kd_sv (by simpa using hb)
  | x :: r', hu => by
    simp only [List.all_cons, Bool.and_eq_true, beq_iff_eq] at hu
    have ih := kd_aden hb j r' hu.2
    show (if (sd X ρ x.1).1.toNatClampNeg = j then sv X ρ x.2 else aden X ρ b r' j) = _
    by_cases h : (sd X ρ x.1).1.toNatClampNeg = j
    · have e : aden X ρ b (x :: r') j = sv X ρ x.2 := if_pos h
      rw [if_pos h, e]
      exact kd_sv hu.1
    · have e : aden X ρ b (x :: r') j = aden X ρ b r' j := if_neg h
      rw [if_neg h, e]
      exact ih
/-- a place, where the drive's number is known -/
noncomputable def pevI (D : Nat) (k : Int32) (t : sT) : Option Int32 := match t with
  | .arg i => if i = D then some k else none
  | .mul (.arg i) (.int m) => if i = D then some (k * m) else none
  | .add (.mul (.arg i) (.int m)) (.int j) => if i = D then some (k * m + j) else none
  | _ => none
theorem pevI_ok (hD : ρ.1 D = k) {t : sT} {v : Int32} (h : pevI D k t = some v) : (sd X ρ t).1 = v := by
  unfold pevI at h
  split at h
  · next i =>
    split at h
    · next e => cases h; rw [e]; exact hD
    · cases h
  · next i m =>
    split at h
    · next e => cases h; rw [e]; show ρ.1 D * m = _; rw [hD]
    · cases h
  · next i m j =>
    split at h
    · next e => cases h; rw [e]; show ρ.1 D * m + j = _; rw [hD]
    · cases h
  · cases h
noncomputable def lk1 (c : Nat) : List (sT × sT) → Option sT
  | [] => none
  | (.int v, t) :: r => if v.toNatClampNeg = c then some t else lk1 c r
  | _ => none
theorem lk1_ok {b : sT} {c : Nat} : ∀ (u : List (sT × sT)) (t : sT), lk1 c u = some t → aden X ρ b u c = sv X ρ t
  | [], t, h => by cases h
  | (x, y) :: r, t, h => by
    cases x with
    | int v =>
      simp only [lk1] at h
      by_cases e : v.toNatClampNeg = c
      · rw [if_pos e] at h
        cases h
        exact if_pos e
      · rw [if_neg e] at h
        exact (if_neg e).trans (lk1_ok r t h)
    | _ => simp [lk1] at h
/-- a small array: the drive's places, the rest besides -/
noncomputable def fsm (D : Nat) (k : Int32) (u1 : List (sT × sT)) (x : sT × sT) : Bool := match pevI D k x.1 with
  | some v => decide (¬ v < 0) && (match lk1 v.toNatClampNeg u1 with
    | some t => tqe t x.2
    | none => false)
  | none => false
theorem foc_fw {r c t n j : Nat} {b1 : sT} {u1 u2 : List (sT × sT)} (hr : rfd RL r = some (r, c)) (hZ : hget Z c = some (.inl (t, n, b1, u1))) (hb : kdB r b1 = true) (hk : u1.all (fun x => sk x.2 == r % 2) = true) (hu : ∀ x ∈ u2, fsm D k u1 x = true ∧ nod (fun i => i == D) (fun a => (RL.map (fun p => p.1)).contains a) x.2 = true) : ∀ w : List (sT × sT), (∀ x ∈ w, x ∈ u2) → aden X (rfo X Z D k RL ρ) (.arg r) w j = aden X ρ b1 u1 j
  | [], _ => by
    show bden X (rfo X Z D k RL ρ) (.arg r) j = _
    rw [rfo_r hr]
    have e : fco X Z ρ c j = aden X ρ b1 u1 j := by
      unfold fco
      rw [hZ]
    rw [e]
    exact (kd_aden hb j u1 hk).symm
  | x :: w, hw => by
    have hx := hu x (hw x List.mem_cons_self)
    have ih := foc_fw (j := j) hr hZ hb hk hu w (fun y hy => hw y (List.mem_cons_of_mem _ hy))
    show (if (sd X (rfo X Z D k RL ρ) x.1).1.toNatClampNeg = j then sv X (rfo X Z D k RL ρ) x.2 else aden X (rfo X Z D k RL ρ) (.arg r) w j) = _
    by_cases h : (sd X (rfo X Z D k RL ρ) x.1).1.toNatClampNeg = j
    · rw [if_pos h, nod_v rfo_alk hx.2]
      have h1 := hx.1
      unfold fsm at h1
      split at h1
      · next v hv =>
        simp only [Bool.and_eq_true, decide_eq_true_eq] at h1
        have hv := pevI_ok (X := X) (ρ := rfo X Z D k RL ρ) rfo_D hv
        rw [hv] at h
        have h2 := h1.2
        split at h2
        · next y hy =>
          rw [← tqe_ok _ _ h2, ← h]
          exact (lk1_ok u1 y hy).symm
        · cases h2
      · cases h1
    · rw [if_neg h]
      exact ih
theorem aden_no {b : sT} {j : Nat} : ∀ u : List (sT × sT), (∀ x ∈ u, ¬ (sd X ρ x.1).1.toNatClampNeg = j) → aden X ρ b u j = bden X ρ b j
  | [], _ => rfl
  | x :: r, h => (if_neg (h x List.mem_cons_self)).trans (aden_no r (fun y hy => h y (List.mem_cons_of_mem _ hy)))
/-- places that are numbers, and what is written there stays -/
noncomputable def fkp (D : Nat) (k : Int32) (mods : List Nat) (u2 : List (sT × sT)) (x : sT × sT) : Bool := match x.1 with
  | .int v => u2.any (fun y => match pevI D k y.1 with
      | some q => decide (q.toNatClampNeg = v.toNatClampNeg)
      | none => false) || nod (fun i => i == D || mods.contains i) (fun _ => true) x.2
  | _ => false
theorem fkp_ok {mods : List Nat} {u2 : List (sT × sT)} {b1 : sT} {j : Nat} (hD : ρ'.1 D = k) (ha : alk (fun i => i == D || mods.contains i) (fun _ => true) ρ ρ') (hb : bden X ρ b1 j = bden X ρ' b1 j) (hx : ¬ ∃ x ∈ u2, (sd X ρ' x.1).1.toNatClampNeg = j) : ∀ w : List (sT × sT), w.all (fkp D k mods u2) = true → aden X ρ b1 w j = aden X ρ' b1 w j
  | [], _ => hb
  | x :: r, hw => by
    simp only [List.all_cons, Bool.and_eq_true] at hw
    have ih := fkp_ok hD ha hb hx r hw.2
    have h1 := hw.1
    unfold fkp at h1
    split at h1
    · next v hv =>
      show (if (sd X ρ x.1).1.toNatClampNeg = j then sv X ρ x.2 else aden X ρ b1 r j) = if (sd X ρ' x.1).1.toNatClampNeg = j then sv X ρ' x.2 else aden X ρ' b1 r j
      rw [hv]
      show (if v.toNatClampNeg = j then sv X ρ x.2 else aden X ρ b1 r j) = if v.toNatClampNeg = j then sv X ρ' x.2 else aden X ρ' b1 r j
      by_cases e : v.toNatClampNeg = j
      · rw [if_pos e, if_pos e]
        rcases Bool.or_eq_true _ _ ▸ h1 with h2 | h2
        · exfalso
          obtain ⟨y, hy, h3⟩ := List.any_eq_true.mp h2
          split at h3
          · next q hq =>
            have h4 := pevI_ok (X := X) hD hq
            exact hx ⟨y, hy, by rw [h4, of_decide_eq_true h3]; exact e⟩
          · cases h3
        · exact nod_v ha h2
      · rw [if_neg e, if_neg e]
        exact ih
    · cases h1
theorem foc_bk {C : sC} {r c t n j : Nat} {b1 : sT} {u1 u2 : List (sT × sT)} (hs : stay X C ρ' (rfo X Z D k RL ρ)) (hDm : D ∉ C.2.2.2.2.1.1) (hrm : r ∉ C.2.2.2.2.1.2) (hr : rfd RL r = some (r, c)) (hZ : hget Z c = some (.inl (t, n, b1, u1))) (hb : kdB r b1 = true) (hbn : ∀ ρ1 ρ2 : sR, bden X ρ1 b1 j = bden X ρ2 b1 j) (hk : u1.all (fun x => sk x.2 == r % 2) = true) (hu : ∀ x ∈ u2, fsm D k u1 x = true) (hw : u1.all (fkp D k C.2.2.2.2.1.1 u2) = true) : aden X ρ' (.arg r) u2 j = aden X ρ' b1 u1 j := by
  have hD : ρ'.1 D = k := ((hs.1 D hDm).1).trans rfo_D
  by_cases hx : ∃ x ∈ u2, (sd X ρ' x.1).1.toNatClampNeg = j
  · obtain ⟨x, hx2, hj, hv⟩ := aden_first (X := X) (ρ := ρ') (b := .arg r) u2 hx
    rw [hv]
    have h1 := hu x hx2
    unfold fsm at h1
    split at h1
    · next v hq =>
      simp only [Bool.and_eq_true, decide_eq_true_eq] at h1
      rw [pevI_ok (X := X) hD hq] at hj
      have h2 := h1.2
      split at h2
      · next y hy =>
        rw [← tqe_ok _ _ h2, ← hj]
        exact (lk1_ok u1 y hy).symm
      · cases h2
    · cases h1
  · rw [aden_no u2 (fun x hx2 e => hx ⟨x, hx2, e⟩), hs.2 r hrm j, rfo_r hr]
    have e : fco X Z ρ c j = aden X ρ b1 u1 j := by
      unfold fco
      rw [hZ]
    rw [e, ← kd_aden hb j u1 hk]
    refine fkp_ok hD ⟨fun i hi => ?_, fun a ha => by cases ha⟩ (hbn ρ ρ') hx u1 hw
    have hi : i ≠ D ∧ i ∉ C.2.2.2.2.1.1 := by
      simp only [Bool.or_eq_false_iff, beq_eq_false_iff_ne, ne_eq] at hi
      exact ⟨hi.1, fun e => by rw [List.contains_iff_mem.mpr e] at hi; exact absurd hi.2 (by decide)⟩
    have h1 := hs.1 i hi.2
    have h2 : (rfo X Z D k RL ρ).1 i = ρ.1 i := if_neg hi.1
    exact ⟨(h1.1.trans h2).symm, h1.2.symm⟩
/-- arrays in a row: the drive's block, the rest besides -/
theorem row_in {m w len kn j : Nat} {l1 l2 : sT} {ρa ρb : sR} (hw : 0 < w) (hl : ∀ b, b < len → catA l2 b = catA l1 (kn * len + b)) (hR : ∀ b a, catA l2 b = some a → ρa.2.2.1 a = ρb.2.2.1 a ∧ ρa.2.2.2.1 a = ρb.2.2.2.1 a) (h1 : kn * (w * len) ≤ j) (h2 : j < kn * (w * len) + w * len) : rden ρa m w l2 (j - kn * (w * len)) = rden ρb m w l1 j := by
  obtain ⟨i, hi⟩ : ∃ i, j = kn * (w * len) + i := ⟨j - kn * (w * len), by omega⟩
  have e0 : kn * (w * len) = w * (kn * len) := by rw [Nat.mul_left_comm]
  subst hi
  have hil : i < w * len := by omega
  rw [Nat.add_sub_cancel_left]
  have e1 : (kn * (w * len) + i) / w = kn * len + i / w := by
    rw [e0, Nat.add_comm, Nat.add_mul_div_left _ _ hw, Nat.add_comm]
  have e2 : (kn * (w * len) + i) % w = i % w := by
    rw [e0, Nat.mul_add_mod]
  have hb : i / w < len := Nat.div_lt_of_lt_mul hil
  unfold rden
  rw [e1, e2, ← hl _ hb]
  cases hc : catA l2 (i / w) with
  | none => rfl
  | some a =>
    obtain ⟨q1, q2⟩ := hR _ a hc
    dsimp only
    rw [q1, q2]
theorem rden_k {m w j r : Nat} {l : sT} (h : ∃ a, catA l (j / w) = some a ∧ a % 2 = r % 2) : rden ρ m w l j = if r % 2 = 1 then .long (vL (rden ρ m w l j)) else .int (vI (rden ρ m w l j)) := by
  obtain ⟨a, ha, hp⟩ := h
  have e : rden ρ m w l j = if a % 2 = 1 then .long (ρ.2.2.2.1 a (j % w)) else .int (cmap m (ρ.2.2.1 a (j % w))) := by
    unfold rden
    rw [ha]
  rw [e, hp]
  by_cases h1 : r % 2 = 1
  · rw [if_pos h1, if_pos h1]; rfl
  · rw [if_neg h1, if_neg h1]; rfl
theorem row_fw {r c t n m w len : Nat} {l1 l2 : sT} (hr : rfd RL r = some (r, c)) (hZ : hget Z c = some (.inl (t, n, .old (.mul (.sub (.index m) (.index w)) l1), []))) (hw : 0 < w) (hl : ∀ b, b < len → catA l2 b = catA l1 (k.toNatClampNeg * len + b)) (hn : nodL (fun a => (RL.map (fun p => p.1)).contains a) l2 = true) {j : Nat} (hp : ∃ a, catA l1 (j / w) = some a ∧ a % 2 = r % 2) : bden X (rfo X Z D k RL ρ) (.old (.add (.sub (.arg D) (.index (w * len))) (.add (.mul (.sub (.index m) (.index w)) l2) (.index r)))) j = bden X ρ (.old (.mul (.sub (.index m) (.index w)) l1)) j := by
  show (if ((rfo X Z D k RL ρ).1 D).toNatClampNeg * (w * len) ≤ j ∧ j < ((rfo X Z D k RL ρ).1 D).toNatClampNeg * (w * len) + w * len then rden (rfo X Z D k RL ρ) m w l2 (j - ((rfo X Z D k RL ρ).1 D).toNatClampNeg * (w * len)) else bden X (rfo X Z D k RL ρ) (.arg r) j) = rden ρ m w l1 j
  rw [rfo_D]
  by_cases h : k.toNatClampNeg * (w * len) ≤ j ∧ j < k.toNatClampNeg * (w * len) + w * len
  · rw [if_pos h]
    exact row_in hw hl (fun b a hb => rfo_alk.2 a (nodL_c l2 b a hn hb)) h.1 h.2
  · rw [if_neg h, rfo_r hr]
    have e : fco X Z ρ c j = rden ρ m w l1 j := by
      unfold fco
      rw [hZ]
      rfl
    rw [e]
    exact (rden_k hp).symm
theorem row_bk {C : sC} {r c t n m w len : Nat} {l1 l2 : sT} (hs : stay X C ρ' (rfo X Z D k RL ρ)) (hDm : D ∉ C.2.2.2.2.1.1) (hrm : r ∉ C.2.2.2.2.1.2) (hr : rfd RL r = some (r, c)) (hZ : hget Z c = some (.inl (t, n, .old (.mul (.sub (.index m) (.index w)) l1), []))) (hw : 0 < w) (hl : ∀ b, b < len → catA l2 b = catA l1 (k.toNatClampNeg * len + b)) {j : Nat} (hp : ∃ a, catA l1 (j / w) = some a ∧ a % 2 = r % 2) (ho : ∀ a, catA l1 (j / w) = some a → (k.toNatClampNeg * (w * len) ≤ j ∧ j < k.toNatClampNeg * (w * len) + w * len) ∨ (a ∉ C.2.2.2.2.1.2 ∧ (RL.map (fun p => p.1)).contains a = false)) : bden X ρ' (.old (.add (.sub (.arg D) (.index (w * len))) (.add (.mul (.sub (.index m) (.index w)) l2) (.index r)))) j = bden X ρ' (.old (.mul (.sub (.index m) (.index w)) l1)) j := by
  have hD : ρ'.1 D = k := ((hs.1 D hDm).1).trans rfo_D
  show (if (ρ'.1 D).toNatClampNeg * (w * len) ≤ j ∧ j < (ρ'.1 D).toNatClampNeg * (w * len) + w * len then rden ρ' m w l2 (j - (ρ'.1 D).toNatClampNeg * (w * len)) else bden X ρ' (.arg r) j) = rden ρ' m w l1 j
  rw [hD]
  by_cases h : k.toNatClampNeg * (w * len) ≤ j ∧ j < k.toNatClampNeg * (w * len) + w * len
  · rw [if_pos h]
    exact row_in hw hl (fun _ _ _ => ⟨rfl, rfl⟩) h.1 h.2
  · rw [if_neg h, hs.2 r hrm j, rfo_r hr]
    have e : fco X Z ρ c j = rden ρ m w l1 j := by
      unfold fco
      rw [hZ]
      rfl
    rw [e, ← rden_k hp]
    obtain ⟨a, ha, hpa⟩ := hp
    rcases ho a ha with h1 | ⟨h1, h2⟩
    · exact absurd h1 h
    · have h3 : bden X ρ' (.arg a) (j % w) = bden X ρ (.arg a) (j % w) := by
        rw [hs.2 a h1 (j % w)]
        show (if a % 2 = 1 then Value.long ((rfo X Z D k RL ρ).2.2.2.1 a (j % w)) else .int ((rfo X Z D k RL ρ).2.2.1 a (j % w))) = if a % 2 = 1 then Value.long (ρ.2.2.2.1 a (j % w)) else .int (ρ.2.2.1 a (j % w))
        rw [(rfo_alk.2 a h2).1, (rfo_alk.2 a h2).2]
      have h3 : (if a % 2 = 1 then Value.long (ρ'.2.2.2.1 a (j % w)) else .int (ρ'.2.2.1 a (j % w))) = if a % 2 = 1 then Value.long (ρ.2.2.2.1 a (j % w)) else .int (ρ.2.2.1 a (j % w)) := h3
      unfold rden
      rw [ha]
      dsimp only
      by_cases h4 : a % 2 = 1
      · rw [if_pos h4, if_pos h4] at h3 ⊢
        exact h3.symm
      · rw [if_neg h4, if_neg h4] at h3 ⊢
        rw [Value.int.inj h3]
end FOX
