/-! ===== cases of patterns ===== -/
/-- what the variables stand for: numbers; arrays (base and stores) -/
abbrev sM : Type := List (Nat × sT) × List (Nat × sT × List (sT × sT))
def sfnd (σ : sM) (i : Nat) : Option sT := match σ.1.find? (fun q => q.1 == i) with
  | some q => some q.2
  | none => none
def afnd (σ : sM) (a : Nat) : Option (sT × List (sT × sT)) := match σ.2.find? (fun q => q.1 == a) with
  | some q => some q.2
  | none => none
def vi (v : Value) : Int32 := match v with
  | .int x => x
  | _ => 0
def vl (v : Value) : Int64 := match v with
  | .long x => x
  | _ => 0
def rsub (X : pX) (ρ : sR) (σ : sM) : sR :=
  (fun i => match sfnd σ i with
    | some u => (sd X ρ u).1
    | none => ρ.1 i,
   fun i => match sfnd σ i with
    | some u => (sd X ρ u).2
    | none => ρ.2.1 i,
   fun a j => match afnd σ a with
    | some b => vi (aden X ρ b.1 b.2 j)
    | none => ρ.2.2.1 a j,
   fun a j => match afnd σ a with
    | some b => vl (aden X ρ b.1 b.2 j)
    | none => ρ.2.2.2 a j)
def ssub (σ : sM) : sT → sT
  | .arg i => match sfnd σ i with
    | some u => u
    | none => .arg i
  | .add a b => .add (ssub σ a) (ssub σ b)
  | .sub a b => .sub (ssub σ a) (ssub σ b)
  | .mul a b => .mul (ssub σ a) (ssub σ b)
  | .div a b => .div (ssub σ a) (ssub σ b)
  | .rem a b => .rem (ssub σ a) (ssub σ b)
  | .op2 o a b => .op2 o (ssub σ a) (ssub σ b)
  | .op1 o a => .op1 o (ssub σ a)
  | .elem t i => .elem t (ssub σ i)
  | t => t
def scl : sT → Bool
  | .int _ => true
  | .long _ => true
  | .arg _ => true
  | .index _ => true
  | .string _ _ => true
  | .null => true
  | .add a b => scl a && scl b
  | .sub a b => scl a && scl b
  | .mul a b => scl a && scl b
  | .div a b => scl a && scl b
  | .rem a b => scl a && scl b
  | .op2 _ a b => scl a && scl b
  | .op1 _ a => scl a
  | .elem t i => match t with
    | .string _ _ => scl i
    | _ => false
  | .length t => match t with
    | .string _ _ => true
    | _ => false
  | _ => false
/-- a number for a number, a long for a long; no known array is renamed -/
def sMok (K : sK) (σ : sM) : Bool := σ.1.all (fun q => sk q.2 == q.1 % 2) && σ.2.all (fun q => (K.2.2 q.1).isNone && ((match q.2.1 with
  | .arg b => b % 2 == q.1 % 2
  | t => sk t == q.1 % 2) && q.2.2.all (fun u => sk u.2 == q.1 % 2)))
theorem sfnd_k {K : sK} {σ : sM} (h : sMok K σ = true) {i : Nat} {u : sT} (hf : sfnd σ i = some u) : sk u = i % 2 := by
  unfold sfnd at hf
  split at hf
  · next q hq =>
    cases hf
    have h1 := List.mem_of_find?_eq_some hq
    have h2 := List.find?_some hq
    simp only [beq_iff_eq] at h2
    simp only [sMok, Bool.and_eq_true, List.all_eq_true, beq_iff_eq] at h
    rw [h.1 q h1, h2]
  · cases hf
theorem ssub_k {K : sK} {σ : sM} (h : sMok K σ = true) : ∀ t : sT, sk (ssub σ t) = sk t
  | .arg i => by
    simp only [ssub]
    split
    · next u hu => exact sfnd_k h hu
    · rfl
  | .int _ => rfl
  | .long _ => rfl
  | .null => rfl
  | .index _ => rfl
  | .field _ _ _ _ => rfl
  | .static _ _ _ => rfl
  | .string _ _ => rfl
  | .mirror _ => rfl
  | .length _ => rfl
  | .elem _ _ => rfl
  | .add _ _ => rfl
  | .sub _ _ => rfl
  | .mul _ _ => rfl
  | .div _ _ => rfl
  | .rem _ _ => rfl
  | .op2 _ _ _ => rfl
  | .op1 _ _ => rfl
  | .sum _ => rfl
  | .result => rfl
  | .thrown => rfl
  | .old _ => rfl
theorem ssub_d {X : pX} {ρ : sR} {σ : sM} : ∀ t : sT, scl t = true → sd X ρ (ssub σ t) = sd X (rsub X ρ σ) t := by
  intro t
  induction t with
  | arg i =>
    intro _
    simp only [ssub, sd, rsub]
    cases sfnd σ i <;> rfl
  | int v => intro _; rfl
  | long v => intro _; rfl
  | add a b iha ihb | sub a b iha ihb | mul a b iha ihb | div a b iha ihb | rem a b iha ihb =>
    intro h
    simp only [scl, Bool.and_eq_true] at h
    simp only [ssub, sd, iha h.1, ihb h.2]
  | op2 o a b iha ihb =>
    intro h
    simp only [scl, Bool.and_eq_true] at h
    simp only [ssub, sd, iha h.1, ihb h.2]
  | op1 o a iha =>
    intro h
    simp only [scl] at h
    simp only [ssub, sd, iha h]
  | elem t i _ ihi =>
    intro h
    cases t <;> simp only [scl] at h <;> first | (cases h; done) | (simp only [ssub, sd, ihi h])
  | length t _ =>
    intro h
    cases t <;> first | rfl | (cases h; done)
  | _ => intro h; first | rfl | (cases h; done)
theorem ssub_v {X : pX} {ρ : sR} {K : sK} {σ : sM} (h : sMok K σ = true) (t : sT) (ht : scl t = true) : sv X ρ (ssub σ t) = sv X (rsub X ρ σ) t := by
  have h1 := ssub_d (X := X) (ρ := ρ) (σ := σ) t ht
  have h2 := ssub_k h t
  by_cases h0 : sk t = 0
  · rw [sv_int h0, sv_int (h2.trans h0), h1]
  · by_cases h9 : sk t = 1
    · rw [sv_long h9, sv_long (h2.trans h9), h1]
    · cases t with
      | arg i => exfalso; simp only [sk] at h0 h9; omega
      | index k => rfl
      | string c i => rfl
      | null => rfl
      | op2 o a b =>
        show (if sk2 o = 1 then Value.long (sd X ρ (ssub σ (.op2 o a b))).2 else .int (sd X ρ (ssub σ (.op2 o a b))).1) = _
        rw [h1]; rfl
      | op1 o a =>
        show (if sk1 o = 1 then Value.long (sd X ρ (ssub σ (.op1 o a))).2 else .int (sd X ρ (ssub σ (.op1 o a))).1) = _
        rw [h1]; rfl
      | elem a i => cases a <;> first | (cases ht; done) | exact absurd rfl h0
      | _ => exfalso; first | exact h0 rfl | exact h9 rfl | (cases ht; done)
def slsub (σ : sM) (st : List sT) : List sT := st.map (ssub σ)
theorem slsub_v {X : pX} {ρ : sR} {K : sK} {σ : sM} (h : sMok K σ = true) {st : List sT} (hs : st.all scl = true) : dS X ρ (slsub σ st) = dS X (rsub X ρ σ) st := by
  unfold dS slsub
  rw [List.map_map]
  apply List.map_congr_left
  intro t ht
  exact ssub_v h t (List.all_eq_true.mp hs t ht)
/-- two terms are one, by the facts -/
def teq (F : sFs) (a b : sT) : Bool := decide (a = b) || ((sk a == 0 && (sk b == 0 && decide (sdec F (0, a, b) = some true))) || (sk a == 1 && (sk b == 1 && decide (sdec F (6, a, b) = some true))))
theorem teq_ok {X : pX} {ρ : sR} {F : sFs} (hF : fok X ρ F) {a b : sT} (h : teq F a b = true) : sv X ρ a = sv X ρ b := by
  simp only [teq, Bool.or_eq_true, Bool.and_eq_true, decide_eq_true_eq, beq_iff_eq] at h
  rcases h with rfl | ⟨h1, h2, h3⟩ | ⟨h1, h2, h3⟩
  · rfl
  · have h4 : decide ((sd X ρ a).1 = (sd X ρ b).1) = true := sdec_ok hF h3
    rw [sv_int h1, sv_int h2, of_decide_eq_true h4]
  · have h4 : decide ((sd X ρ a).2 = (sd X ρ b).2) = true := sdec_ok hF h3
    rw [sv_long h1, sv_long h2, of_decide_eq_true h4]
def teqs (F : sFs) : List sT → List sT → Bool
  | [], [] => true
  | a :: x, b :: y => teq F a b && teqs F x y
  | _, _ => false
theorem teqs_ok {X : pX} {ρ : sR} {F : sFs} (hF : fok X ρ F) : ∀ {x y : List sT}, teqs F x y = true → x.map (sv X ρ) = y.map (sv X ρ)
  | [], [], _ => rfl
  | [], _ :: _, h => by cases h
  | _ :: _, [], h => by cases h
  | a :: x, b :: y, h => by
    simp only [teqs, Bool.and_eq_true] at h
    rw [List.map_cons, List.map_cons, teq_ok hF h.1, teqs_ok hF h.2]
/-- a frame is a case of the pattern's -/
def finst (F : sFs) (σ : sM) (f0 f : sF) : Bool := match f0, f with
  | (k0, nL0, ret0, hs0, full0, cur0, lv0, st0), (k, nL, ret, hs, full, cur, lv, st) => decide (k0 = k) && (decide (nL0 = nL) && (teqs F (st0.map (ssub σ)) st && (st0.all scl && (lv0.all (fun q => scl q.2 && lv.any (fun z => decide (z.1 = q.1) && teq F (ssub σ q.2) z.2)) && (decide ((lv.map (fun q => q.1)).Nodup) && (decide (ret0 = ret) && (decide (hs0 = hs) && (opseq cur0 cur && opseq full0 full))))))))
theorem finst_ok {X : pX} {ρ : sR} {K : sK} {F : sFs} (hF : fok X ρ F) {σ : sM} (h : sMok K σ = true) {f0 f : sF} (hf : finst F σ f0 f = true) : fle X (rsub X ρ σ) ρ f0 f := by
  obtain ⟨k0, nL0, ret0, hs0, full0, cur0, lv0, st0⟩ := f0
  obtain ⟨k, nL, ret, hs, full, cur, lv, st⟩ := f
  simp only [finst, Bool.and_eq_true, decide_eq_true_eq] at hf
  obtain ⟨e1, e2, e3, e4, e5, e6, e7, e8, e9, e10⟩ := hf
  refine ⟨⟨e1, e2, e7, e8, opseq_ok e10, opseq_ok e9⟩, ?_, ?_, ?_⟩
  · intro q hq
    obtain ⟨z, hz, rfl⟩ := List.mem_map.mp hq
    have h1 := List.all_eq_true.mp e5 z hz
    simp only [Bool.and_eq_true, List.any_eq_true, decide_eq_true_eq] at h1
    obtain ⟨h2, w, hw, h3, h4⟩ := h1
    refine List.mem_map.mpr ⟨_, hw, ?_⟩
    rw [← teq_ok hF h4, ssub_v h z.2 h2, h3]
  · unfold lvnd dL
    rw [List.map_map]
    exact e6
  · dsimp only
    rw [← slsub_v h e4]
    exact teqs_ok hF e3
def finsts (F : sFs) (σ : sM) : List sF → List sF → Bool
  | [], [] => true
  | f0 :: fs0, f :: fs => finst F σ f0 f && finsts F σ fs0 fs
  | _, _ => false
theorem finsts_ok {X : pX} {ρ : sR} {K : sK} {F : sFs} (hF : fok X ρ F) {σ : sM} (h : sMok K σ = true) : ∀ {fs0 fs : List sF}, finsts F σ fs0 fs = true → fles X (rsub X ρ σ) ρ fs0 fs
  | [], [], _ => trivial
  | [], _ :: _, hf => by cases hf
  | _ :: _, [], hf => by cases hf
  | f0 :: fs0, f :: fs, hf => by
    simp only [finsts, Bool.and_eq_true] at hf
    exact ⟨finst_ok hF h hf.1, finsts_ok hF h hf.2⟩
/-- two arrays are one: same base, and at every place stored to the same value -/
def aeq1 (K : sK) (F : sFs) (b : sT) (u w : List (sT × sT)) (i : sT) : Bool := match ssel K F b i u, ssel K F b i w with
  | .inl x, .inl y => decide (x = y)
  | _, _ => false
def aeq (K : sK) (F : sFs) (p q : sT × List (sT × sT)) : Bool := decide (p = q) || (decide (p.1 = q.1) && (p.2.all (fun u => aeq1 K F p.1 p.2 q.2 u.1) && q.2.all (fun u => aeq1 K F p.1 p.2 q.2 u.1)))
theorem aden_base {X : pX} {ρ : sR} {b : sT} {j : Nat} : ∀ (u : List (sT × sT)), (∀ x ∈ u, ¬ (sd X ρ x.1).1.toNatClampNeg = j) → aden X ρ b u j = bden X ρ b j
  | [], _ => rfl
  | x :: u, h => by
    unfold aden
    rw [if_neg (h x List.mem_cons_self)]
    exact aden_base u (fun y hy => h y (List.mem_cons_of_mem _ hy))
theorem aeq_ok {X : pX} {ρ : sR} {K : sK} {F : sFs} (hF : fok X ρ F) (hK : kok X ρ K) {p q : sT × List (sT × sT)} (hp : ∀ u ∈ p.2, ¬ (sd X ρ u.1).1 < 0) (hq : ∀ u ∈ q.2, ¬ (sd X ρ u.1).1 < 0) (h : aeq K F p q = true) (j : Nat) : aden X ρ p.1 p.2 j = aden X ρ q.1 q.2 j := by
  simp only [aeq, Bool.or_eq_true, decide_eq_true_eq, Bool.and_eq_true, List.all_eq_true] at h
  rcases h with rfl | ⟨hb, h1, h2⟩
  · rfl
  · have at1 : ∀ i : sT, ¬ (sd X ρ i).1 < 0 → aeq1 K F p.1 p.2 q.2 i = true → (sd X ρ i).1.toNatClampNeg = j → aden X ρ p.1 p.2 j = aden X ρ q.1 q.2 j := by
      intro i hi ha hj
      unfold aeq1 at ha
      split at ha
      · next x y hx hy =>
        have e := of_decide_eq_true ha
        subst e
        have g1 := ssel_ok hF hK hi p.2 x hp hx
        have g2 := ssel_ok hF hK hi q.2 x hq hy
        rw [hj] at g1 g2
        rw [← hb, ← g1, ← g2]
      · cases ha
    by_cases c1 : ∃ u ∈ p.2, (sd X ρ u.1).1.toNatClampNeg = j
    · obtain ⟨u, hu, hj⟩ := c1
      exact at1 u.1 (hp u hu) (h1 u hu) hj
    · by_cases c2 : ∃ u ∈ q.2, (sd X ρ u.1).1.toNatClampNeg = j
      · obtain ⟨u, hu, hj⟩ := c2
        exact at1 u.1 (hq u hu) (h2 u hu) hj
      · rw [aden_base p.2 (fun x hx e => c1 ⟨x, hx, e⟩), aden_base q.2 (fun x hx e => c2 ⟨x, hx, e⟩), hb]
/-- a cell is a case of the pattern's -/
def cinst (K : sK) (F : sFs) (σ : sM) (e0 e : sE) : Bool := match e0, e with
  | .inl (t0, n0, b0, u0), .inl (t, n, b, u) => decide (t0 = t) && (decide (n0 = n) && (match b0 with
    | .arg a => match afnd σ a with
      | some p => decide (u0 = []) && (p.2.all (fun x => sk x.1 == 0 && decide (0 ≤ (sivl F x.1).1)) && aeq K F p (b, u))
      | none => decide (b = .arg a) && (decide (u0.map (fun x => (ssub σ x.1, ssub σ x.2)) = u) && u0.all (fun x => scl x.1 && scl x.2))
    | b0 => decide (ssub σ b0 = b) && (scl b0 && (decide (u0.map (fun x => (ssub σ x.1, ssub σ x.2)) = u) && u0.all (fun x => scl x.1 && scl x.2)))))
  | .inr (c0, v0), .inr (c, v) => decide (c0 = c) && (teqs F (v0.map (ssub σ)) v && v0.all scl)
  | _, _ => false
theorem aden_sub {X : pX} {ρ : sR} {K : sK} {σ : sM} (h : sMok K σ = true) {b0 b : sT} {j : Nat} (hb : bden X ρ b j = bden X (rsub X ρ σ) b0 j) : ∀ u0 : List (sT × sT), (∀ x ∈ u0, scl x.1 = true ∧ scl x.2 = true) → aden X ρ b (u0.map (fun x => (ssub σ x.1, ssub σ x.2))) j = aden X (rsub X ρ σ) b0 u0 j
  | [], _ => hb
  | x :: u, hu => by
    have h1 := hu x List.mem_cons_self
    simp only [List.map_cons, aden]
    rw [ssub_d x.1 h1.1, ssub_v h x.2 h1.2, aden_sub h hb u (fun y hy => hu y (List.mem_cons_of_mem _ hy))]
theorem sMok_arr {K : sK} {σ : sM} (h : sMok K σ = true) {a : Nat} {p : sT × List (sT × sT)} (hp : afnd σ a = some p) : K.2.2 a = none ∧ (match p.1 with
  | .arg b => b % 2 == a % 2
  | t => sk t == a % 2) = true ∧ ∀ u ∈ p.2, sk u.2 = a % 2 := by
  unfold afnd at hp
  split at hp
  · next q hq =>
    cases hp
    have h1 := List.mem_of_find?_eq_some hq
    have h2 := List.find?_some hq
    simp only [beq_iff_eq] at h2
    simp only [sMok, Bool.and_eq_true, List.all_eq_true, Option.isNone_iff_eq_none] at h
    obtain ⟨h3, h4, h5⟩ := h.2 q h1
    subst h2
    exact ⟨h3, h4, fun u hu => by simpa using h5 u hu⟩
  · cases hp
theorem aden_kind {X : pX} {ρ : sR} {a : Nat} {b : sT} {j : Nat} (hb : (match b with
  | .arg c => c % 2 == a % 2
  | t => sk t == a % 2) = true) : ∀ u : List (sT × sT), (∀ x ∈ u, sk x.2 = a % 2) → aden X ρ b u j = if a % 2 = 1 then .long (vl (aden X ρ b u j)) else .int (vi (aden X ρ b u j))
  | [], _ => by
    simp only [aden]
    cases b with
    | arg c =>
      simp only [beq_iff_eq] at hb
      simp only [bden, hb]
      split <;> rfl
    | _ =>
      simp only [beq_iff_eq] at hb
      simp only [bden]
      split
      · next h1 => rw [sv_long (hb.trans h1)]; rfl
      · next h1 => rw [sv_int (hb.trans (by omega))]; rfl
  | x :: u, hu => by
    simp only [aden]
    split
    · have h1 := hu x List.mem_cons_self
      split
      · next h2 => rw [sv_long (h1.trans h2)]; rfl
      · next h2 => rw [sv_int (h1.trans (by omega))]; rfl
    · exact aden_kind hb u (fun y hy => hu y (List.mem_cons_of_mem _ hy))
theorem cinst_ok {X : pX} {ρ : sR} {K : sK} {F : sFs} (hF : fok X ρ F) (hK : kok X ρ K) {σ : sM} (h : sMok K σ = true) {e0 e : sE} (hc : cinst K F σ e0 e = true) {y : pE} (hy : CR X ρ e y) : CR X (rsub X ρ σ) e0 y := by
  have same : ∀ {t0 n0 t n : Nat} {b0 b : sT} {u0 u : List (sT × sT)} {y : pE}, t0 = t → n0 = n → (∀ j, bden X ρ b j = bden X (rsub X ρ σ) b0 j) → u0.map (fun x => (ssub σ x.1, ssub σ x.2)) = u → (∀ x ∈ u0, (scl x.1 && scl x.2) = true) → CR X ρ (.inl (t, n, b, u)) y → CR X (rsub X ρ σ) (.inl (t0, n0, b0, u0)) y := by
    intro t0 n0 t n b0 b u0 u y h1 h2 h3 h4 h5 hy
    subst h1 h2 h4
    cases y with
    | inr z => exact hy.elim
    | inl z =>
      obtain ⟨q1, q2, q3, q4⟩ := hy
      have h6 : ∀ x ∈ u0, scl x.1 = true ∧ scl x.2 = true := fun x hx => by
        have := h5 x hx
        simpa using this
      refine ⟨q1, q2, fun j hj => ?_, fun x hx => ?_⟩
      · rw [q3 j hj]
        exact aden_sub h (h3 j) u0 h6
      · have := q4 _ (List.mem_map.mpr ⟨x, hx, rfl⟩)
        dsimp only at this
        rw [ssub_d x.1 (h6 x hx).1] at this
        exact this
  cases e0 with
  | inl p0 =>
    obtain ⟨t0, n0, b0, u0⟩ := p0
    cases e with
    | inr q => cases hc
    | inl p =>
      obtain ⟨t, n, b, u⟩ := p
      simp only [cinst, Bool.and_eq_true, decide_eq_true_eq] at hc
      obtain ⟨c1, c2, c3⟩ := hc
      by_cases hb0 : ∃ a, b0 = .arg a
      · obtain ⟨a, rfl⟩ := hb0
        dsimp only at c3
        split at c3
        · next p hp =>
          simp only [Bool.and_eq_true, decide_eq_true_eq, List.all_eq_true, beq_iff_eq] at c3
          obtain ⟨rfl, d2, d3⟩ := c3
          subst c1 c2
          obtain ⟨m1, m2, m3⟩ := sMok_arr h hp
          cases y with
          | inr z => exact hy.elim
          | inl z =>
            obtain ⟨q1, q2, q3, q4⟩ := hy
            refine ⟨q1, q2, fun j hj => ?_, fun x hx => by cases hx⟩
            have g1 := aeq_ok hF hK (p := p) (q := (b, u)) (fun x hx => by
              obtain ⟨k1, k2⟩ := d2 x hx
              have k3 := sivl_ok hF x.1
              rw [sn_i k1] at k3
              exact s_nn (by omega)) q4 d3 j
            rw [q3 j hj]
            dsimp only
            rw [← g1]
            show _ = bden X (rsub X ρ σ) (.arg a) j
            rw [aden_kind (X := X) (ρ := ρ) (j := j) m2 p.2 m3]
            simp only [bden, rsub, hp]
        · next hp =>
          simp only [Bool.and_eq_true, decide_eq_true_eq, List.all_eq_true] at c3
          obtain ⟨rfl, d2, d3⟩ := c3
          refine same c1 c2 (fun j => ?_) d2 (fun x hx => by have := d3 x hx; simpa using this) hy
          simp only [bden, rsub, hp]
      · have c4 : (decide (ssub σ b0 = b) && (scl b0 && (decide (u0.map (fun x => (ssub σ x.1, ssub σ x.2)) = u) && u0.all (fun x => scl x.1 && scl x.2)))) = true := by
          cases b0 <;> first | (exact absurd ⟨_, rfl⟩ hb0) | exact c3
        simp only [Bool.and_eq_true, decide_eq_true_eq, List.all_eq_true] at c4
        obtain ⟨d1, d2, d3, d4⟩ := c4
        refine same c1 c2 (fun j => ?_) d3 (fun x hx => by have := d4 x hx; simpa using this) hy
        have e1 : ∀ (ρ : sR) (t : sT), (¬ ∃ a, t = .arg a) → bden X ρ t j = sv X ρ t := fun ρ t ht => by
          cases t <;> first | (exact absurd ⟨_, rfl⟩ ht) | rfl
        rw [← d1, e1 _ b0 hb0, e1 _ (ssub σ b0) (by
          rintro ⟨a, ha⟩
          cases b0 <;> first | (exact hb0 ⟨_, rfl⟩) | (simp only [ssub] at ha; cases ha)), ssub_v h b0 d2]
  | inr p0 =>
    obtain ⟨c0, v0⟩ := p0
    cases e with
    | inl q => cases hc
    | inr p =>
      obtain ⟨c, v⟩ := p
      simp only [cinst, Bool.and_eq_true, decide_eq_true_eq] at hc
      obtain ⟨d1, d2, d3⟩ := hc
      subst d1
      cases y with
      | inl z => exact hy.elim
      | inr z =>
        have hy : z = (c0, v.map (sv X ρ)) := hy
        show z = (c0, v0.map (sv X (rsub X ρ σ)))
        rw [hy, ← teqs_ok hF d2]
        have := slsub_v (X := X) (ρ := ρ) h d3
        unfold dS slsub at this
        rw [this]
def tinst (K : sK) (F : sFs) (σ : sM) : (n : Nat) → TT (Option sE) n → TT (Option sE) n → Bool
  | 0, x, y => match x with
    | none => true
    | some e0 => match y with
      | some e => cinst K F σ e0 e
      | none => false
  | n + 1, x, y => tinst K F σ n x.1 y.1 && tinst K F σ n x.2 y.2
theorem tinst_ok {K : sK} {F : sFs} {σ : sM} {e0 : sE} : ∀ (n : Nat) (x y : TT (Option sE) n) (k : Nat), tinst K F σ n x y = true → tget n x k = some e0 → ∃ e : sE, tget n y k = some e ∧ cinst K F σ e0 e = true
  | 0, x, y, k, h, hx => by
    have hx : x = some e0 := hx
    subst hx
    exact (match (y : Option sE), h with
      | some e, h => ⟨e, rfl, h⟩
      | none, h => nomatch h)
  | n + 1, x, y, k, h, hx => by
    have h : (tinst K F σ n x.1 y.1 && tinst K F σ n x.2 y.2) = true := h
    simp only [Bool.and_eq_true] at h
    by_cases hk : k < 2 ^ n
    · obtain ⟨e, h1, h2⟩ := tinst_ok n x.1 y.1 k h.1 ((tget_l hk).symm.trans hx)
      exact ⟨e, (tget_l hk).trans h1, h2⟩
    · obtain ⟨e, h1, h2⟩ := tinst_ok n x.2 y.2 _ h.2 ((tget_r hk).symm.trans hx)
      exact ⟨e, (tget_r hk).trans h1, h2⟩
def hinst (K : sK) (F : sFs) (σ : sM) (G0 G : sH) : Bool := decide (G0.2 = G.2) && tinst K F σ 9 G0.1 G.1
theorem hinst_ok {K : sK} {F : sFs} {σ : sM} {G0 G : sH} (h : hinst K F σ G0 G = true) : G0.2 = G.2 ∧ ∀ (k : Nat) (e0 : sE), hget G0 k = some e0 → ∃ e : sE, hget G k = some e ∧ cinst K F σ e0 e = true := by
  simp only [hinst, Bool.and_eq_true, decide_eq_true_eq] at h
  refine ⟨h.1, fun k e0 hk => ?_⟩
  have h1 := hget_lt hk
  unfold hget at hk ⊢
  rw [if_pos h1] at hk ⊢
  exact tinst_ok 9 G0.1 G.1 k h.2 hk
def fhold (F : sFs) (σ : sM) (F0 : sFs) : Bool := F0.all (fun f => scl f.1.2.1 && (scl f.1.2.2 && decide (sdec F (f.1.1, ssub σ f.1.2.1, ssub σ f.1.2.2) = some f.2)))
theorem fhold_ok {X : pX} {ρ : sR} {F : sFs} (hF : fok X ρ F) {σ : sM} {F0 : sFs} (h : fhold F σ F0 = true) : fok X (rsub X ρ σ) F0 := fun f hf => by
  have h1 := List.all_eq_true.mp h f hf
  simp only [Bool.and_eq_true, decide_eq_true_eq] at h1
  obtain ⟨h2, h3, h4⟩ := h1
  have h5 := sdec_ok hF h4
  simp only [sc, ssub_d _ h2, ssub_d _ h3] at h5
  exact h5
/-- a state is a case of a pattern -/
def sinst (K : sK) (F : sFs) (σ : sM) (F0 : sFs) (s0 s : sS) : Bool := decide (s0.2.2.1 = s.2.2.1) && (decide (s0.2.2.2.2 = s.2.2.2.2) && (sMok K σ && (fhold F σ F0 && (hinst K F σ s0.2.2.2.1 s.2.2.2.1 && (finst F σ s0.1 s.1 && finsts F σ s0.2.1 s.2.1)))))
theorem kok_sub {X : pX} {ρ : sR} {K : sK} (hK : kok X ρ K) {σ : sM} (h : sMok K σ = true) : kok X (rsub X ρ σ) K := by
  refine ⟨hK.1, hK.2.1, fun a l hl j => ?_⟩
  have h1 := hK.2.2 a l hl j
  cases hp : afnd σ a with
  | some p => rw [(sMok_arr h hp).1] at hl; cases hl
  | none =>
    simp only [rsub, hp]
    exact h1
section INST
variable {X : pX} {Ft : Nat → Nat → FieldType} {dfl : Nat → Nat × List Value} {Mt : List pM} {lw : Nat × List pOp × Nat} {P : pC → Prop} {hl : Nat → Option (pHd × Nat)} {K : sK}
/-- from every state that the facts allow, the run ends well -/
def GS (X : pX) (Ft : Nat → Nat → FieldType) (dfl : Nat → Nat × List Value) (Mt : List pM) (lw : Nat × List pOp × Nat) (P : pC → Prop) (K : sK) (F : sFs) (s : sS) : Prop := ∀ (ρ : sR) (G : pH), kok X ρ K → fok X ρ F → HR X ρ s.2.2.2.1 G → GG X Ft dfl Mt lw P ρ s.1 s.2.1 s.2.2.1 s.2.2.2.2 G
theorem HR_sub {ρ : sR} {F : sFs} (hF : fok X ρ F) (hK : kok X ρ K) {σ : sM} (h : sMok K σ = true) {G0 G : sH} (hh : hinst K F σ G0 G = true) {H : pH} (hR : HR X ρ G H) : HR X (rsub X ρ σ) G0 H := by
  obtain ⟨h1, h2⟩ := hinst_ok hh
  refine ⟨h1.trans hR.1, fun k e0 hk => ?_⟩
  obtain ⟨e, he, hc⟩ := h2 k e0 hk
  obtain ⟨y, hy, hcr⟩ := hR.2 k e he
  exact ⟨y, hy, cinst_ok hF hK h hc hcr⟩
theorem sinst_ok (hPm : Pmono P) {F F0 : sFs} {σ : sM} {s0 s : sS} (hi : sinst K F σ F0 s0 s = true) {ρ : sR} {G : pH} (hK : kok X ρ K) (hF : fok X ρ F) (hR : HR X ρ s.2.2.2.1 G) (hg : kok X (rsub X ρ σ) K → fok X (rsub X ρ σ) F0 → HR X (rsub X ρ σ) s0.2.2.2.1 G → GG X Ft dfl Mt lw P (rsub X ρ σ) s0.1 s0.2.1 s0.2.2.1 s0.2.2.2.2 G) : GG X Ft dfl Mt lw P ρ s.1 s.2.1 s.2.2.1 s.2.2.2.2 G := by
  simp only [sinst, Bool.and_eq_true, decide_eq_true_eq] at hi
  obtain ⟨e1, e2, e3, e4, e5, e6, e7⟩ := hi
  rw [← e1, ← e2]
  exact GG_le hPm (finst_ok hF e3 e6) (finsts_ok hF e3 e7) (hg (kok_sub hK e3) (fhold_ok hF e4) (HR_sub hF hK e3 e5 hR))
theorem GS.inst (hPm : Pmono P) {F F0 : sFs} {σ : sM} {s0 s : sS} (hg : GS X Ft dfl Mt lw P K F0 s0) (hi : sinst K F σ F0 s0 s = true) : GS X Ft dfl Mt lw P K F s := fun ρ G hK hF hR => sinst_ok hPm hi hK hF hR (fun a b c => hg _ G a b c)
theorem GS.step (hP : Pback X Ft dfl Mt hl lw P) {F : sFs} {s s' : sS} (h : sstep K F Ft dfl Mt hl s.1 s.2.1 s.2.2.1 s.2.2.2.1 s.2.2.2.2 = some (.inl s')) (hg : GS X Ft dfl Mt lw P K F s') : GS X Ft dfl Mt lw P K F s := fun ρ G hK hF hR => sstep_ok hP h hK hF hR (fun G' h' => hg ρ G' hK hF h')
theorem GS.split {F : sFs} {s : sS} (c : sQ) (h1 : GS X Ft dfl Mt lw P K ((c, true) :: F) s) (h2 : GS X Ft dfl Mt lw P K ((c, false) :: F) s) : GS X Ft dfl Mt lw P K F s := fun ρ G hK hF hR => by
  cases hc : sc X ρ c with
  | true => exact h1 ρ G hK (fun f hf => by rcases List.mem_cons.mp hf with e | hf; (· rw [e]; exact hc); exact hF f hf) hR
  | false => exact h2 ρ G hK (fun f hf => by rcases List.mem_cons.mp hf with e | hf; (· rw [e]; exact hc); exact hF f hf) hR
end INST
