/-! ===== symbolic steps that touch cells ===== -/
/-! ===== cells as a tree of nine levels ===== -/
noncomputable def TT (α : Type) : Nat → Type
  | 0 => α
  | n + 1 => TT α n × TT α n × Bool
noncomputable def tnew {α : Type} (a : α) : (n : Nat) → TT α n
  | 0 => a
  | n + 1 => (tnew a n, tnew a n, false)
noncomputable def tget {α : Type} (n : Nat) : TT α n → Nat → α := @Nat.rec (fun n => TT α n → Nat → α) (fun x _ => x) (fun n ih x k => @Bool.rec (fun _ => α) (ih x.1 k) (ih x.2.1 (Nat.sub k (Nat.pow 2 n))) (Nat.ble (Nat.pow 2 n) k)) n
noncomputable def tset {α : Type} (n : Nat) : TT α n → Nat → α → TT α n := @Nat.rec (fun n => TT α n → Nat → α → TT α n) (fun _ _ a => a) (fun n ih x k a => @Bool.rec (fun _ => TT α n × TT α n × Bool) (ih x.1 k a, x.2.1, true) (x.1, ih x.2.1 (Nat.sub k (Nat.pow 2 n)) a, true) (Nat.ble (Nat.pow 2 n) k)) n
theorem t_if {β : Type} {k m : Nat} {x y : β} (h : k < m) : @Bool.rec (fun _ => β) x y (Nat.ble m k) = x := by
  rw [show Nat.ble m k = false from Bool.eq_false_iff.mpr (fun e => Nat.not_le.mpr h (Nat.le_of_ble_eq_true e))]
theorem t_nf {β : Type} {k m : Nat} {x y : β} (h : ¬ k < m) : @Bool.rec (fun _ => β) x y (Nat.ble m k) = y := by
  rw [show Nat.ble m k = true from Nat.ble_eq.mpr (Nat.not_lt.mp h)]
theorem tset_l {α : Type} {a : α} {n k : Nat} {x : TT α (n + 1)} (h : k < 2 ^ n) : tset (n + 1) x k a = ((tset n x.1 k a, x.2.1, true) : TT α n × TT α n × Bool) := t_if h
theorem tset_r {α : Type} {a : α} {n k : Nat} {x : TT α (n + 1)} (h : ¬ k < 2 ^ n) : tset (n + 1) x k a = ((x.1, tset n x.2.1 (k - 2 ^ n) a, true) : TT α n × TT α n × Bool) := t_nf h
theorem tget_l {α : Type} {n k : Nat} {x : TT α (n + 1)} (h : k < 2 ^ n) : tget (n + 1) x k = tget n x.1 k := t_if h
theorem tget_r {α : Type} {n k : Nat} {x : TT α (n + 1)} (h : ¬ k < 2 ^ n) : tget (n + 1) x k = tget n x.2.1 (k - 2 ^ n) := t_nf h
theorem tget_self {α : Type} {a : α} : ∀ (n : Nat) (x : TT α n) (k : Nat), tget n (tset n x k a) k = a
  | 0, x, k => rfl
  | n + 1, x, k => by
    by_cases h : k < 2 ^ n
    · exact (congrArg (fun z => tget (n + 1) z k) (tset_l h)).trans ((tget_l h).trans (tget_self n x.1 k))
    · exact (congrArg (fun z => tget (n + 1) z k) (tset_r h)).trans ((tget_r h).trans (tget_self n x.2.1 (k - 2 ^ n)))
theorem tget_ne {α : Type} {a : α} : ∀ (n : Nat) (x : TT α n) (k j : Nat), k < 2 ^ n → j < 2 ^ n → k ≠ j → tget n (tset n x k a) j = tget n x j
  | 0, x, k, j, h1, h2, h => by omega
  | n + 1, x, k, j, h1, h2, h => by
    have e : 2 ^ (n + 1) = 2 ^ n + 2 ^ n := by rw [Nat.pow_succ]; omega
    by_cases hk : k < 2 ^ n
    · refine (congrArg (fun z => tget (n + 1) z j) (tset_l hk)).trans ?_
      by_cases hj : j < 2 ^ n
      · exact (tget_l hj).trans ((tget_ne n x.1 k j hk hj h).trans (tget_l hj).symm)
      · exact (tget_r hj).trans (tget_r (x := x) hj).symm
    · refine (congrArg (fun z => tget (n + 1) z j) (tset_r hk)).trans ?_
      by_cases hj : j < 2 ^ n
      · exact (tget_l hj).trans (tget_l (x := x) hj).symm
      · exact (tget_r hj).trans ((tget_ne n x.2.1 (k - 2 ^ n) (j - 2 ^ n) (by omega) (by omega) (by omega)).trans (tget_r hj).symm)
/-- y is x but where it says that it was written to -/
noncomputable def cln {α : Type} : (n : Nat) → TT α n → TT α n → Prop
  | 0, _, _ => True
  | n + 1, x, y => (y.2.2 = false → y = x) ∧ (cln n x.1 y.1 ∧ cln n x.2.1 y.2.1)
theorem cln_rfl {α : Type} : ∀ (n : Nat) (x : TT α n), cln n x x
  | 0, _ => trivial
  | n + 1, x => ⟨fun _ => rfl, cln_rfl n x.1, cln_rfl n x.2.1⟩
theorem cln_set {α : Type} {a : α} : ∀ (n : Nat) (x y : TT α n) (k : Nat), cln n x y → cln n x (tset n y k a)
  | 0, _, _, _, _ => trivial
  | n + 1, x, y, k, h => by
    by_cases hk : k < 2 ^ n
    · rw [tset_l (x := y) hk]
      exact ⟨(fun e => by cases e), cln_set n x.1 y.1 k h.2.1, h.2.2⟩
    · rw [tset_r (x := y) hk]
      exact ⟨(fun e => by cases e), h.2.1, cln_set n x.2.1 y.2.1 _ h.2.2⟩
/-- the places of the mask alone -/
noncomputable def tflt {α : Type} (none_ : α) (n : Nat) (m : Nat) (x : TT α n) : TT α n := @Nat.rec (fun n => Nat → TT α n → TT α n) (fun m x => @Bool.rec (fun _ => α) x none_ (Nat.beq m 0)) (fun n ih m x => @Bool.rec (fun _ => TT α n × TT α n × Bool) (ih (Nat.mod m (Nat.pow 2 (Nat.pow 2 n))) x.1, ih (Nat.shiftRight m (Nat.pow 2 n)) x.2.1, false) (tnew none_ (n + 1)) (Nat.beq m 0)) n m x
theorem tnew_get {α : Type} {a : α} : ∀ (n k : Nat), tget n (tnew a n) k = a
  | 0, _ => rfl
  | n + 1, k => by
    by_cases h : k < 2 ^ n
    · exact (tget_l h).trans (tnew_get n k)
    · exact (tget_r h).trans (tnew_get n _)
theorem tflt_get {α : Type} {d : α} : ∀ (n m k : Nat) (x : TT α n), m < 2 ^ (2 ^ n) → k < 2 ^ n → tget n (tflt d n m x) k = if m.testBit k = true then tget n x k else d
  | 0, m, k, x, hm, hk => by
    have hk : k = 0 := by simpa using hk
    subst hk
    have hm : m < 2 := by simpa using hm
    rcases (show m = 0 ∨ m = 1 by omega) with rfl | rfl <;> rfl
  | n + 1, m, k, x, hm, hk => by
    cases h0 : Nat.beq m 0 with
    | true =>
      have e := Nat.eq_of_beq_eq_true h0
      subst e
      rw [if_neg (by simp)]
      exact tnew_get (n + 1) k
    | false =>
      have e : tflt d (n + 1) m x = ((tflt d n (m % 2 ^ 2 ^ n) x.1, tflt d n (m >>> 2 ^ n) x.2.1, false) : TT α n × TT α n × Bool) := by
        show @Bool.rec (fun _ => TT α n × TT α n × Bool) _ _ (Nat.beq m 0) = _
        rw [h0]
        rfl
      have hp : 2 ^ (2 ^ (n + 1)) = 2 ^ (2 ^ n) * 2 ^ (2 ^ n) := by rw [← Nat.pow_add, Nat.pow_succ]; congr 1; omega
      have hp2 : 2 ^ (n + 1) = 2 ^ n + 2 ^ n := by rw [Nat.pow_succ]; omega
      rw [e]
      by_cases hl : k < 2 ^ n
      · refine (tget_l hl).trans ((tflt_get n _ k x.1 (Nat.mod_lt _ (Nat.two_pow_pos _)) hl).trans ?_)
        rw [Nat.testBit_mod_two_pow, decide_eq_true hl, Bool.true_and]
        congr 1
        exact (tget_l (x := x) hl).symm
      · refine (tget_r hl).trans ((tflt_get n _ _ x.2.1 ?_ (by omega)).trans ?_)
        · rw [Nat.shiftRight_eq_div_pow]
          exact Nat.div_lt_of_lt_mul (by rw [← hp]; exact hm)
        · rw [Nat.testBit_shiftRight, show 2 ^ n + (k - 2 ^ n) = k by omega]
          congr 1
          exact (tget_r (x := x) hl).symm
theorem tflt_ext {α : Type} {d : α} : ∀ (n m : Nat) (x y : TT α n), m < 2 ^ (2 ^ n) → (∀ k, k < 2 ^ n → m.testBit k = true → tget n x k = tget n y k) → tflt d n m x = tflt d n m y
  | 0, m, x, y, hm, h => by
    have hm : m < 2 := by simpa using hm
    rcases (show m = 0 ∨ m = 1 by omega) with rfl | rfl
    · rfl
    · exact h 0 (by decide) (by decide)
  | n + 1, m, x, y, hm, h => by
    cases h0 : Nat.beq m 0 with
    | true =>
      have e := Nat.eq_of_beq_eq_true h0
      subst e
      rfl
    | false =>
      have e : ∀ z : TT α (n + 1), tflt d (n + 1) m z = ((tflt d n (m % 2 ^ 2 ^ n) z.1, tflt d n (m >>> 2 ^ n) z.2.1, false) : TT α n × TT α n × Bool) := fun z => by
        show @Bool.rec (fun _ => TT α n × TT α n × Bool) _ _ (Nat.beq m 0) = _
        rw [h0]
        rfl
      have hp : 2 ^ (2 ^ (n + 1)) = 2 ^ (2 ^ n) * 2 ^ (2 ^ n) := by rw [← Nat.pow_add, Nat.pow_succ]; congr 1; omega
      have hp2 : 2 ^ (n + 1) = 2 ^ n + 2 ^ n := by rw [Nat.pow_succ]; omega
      rw [e, e]
      rw [tflt_ext n (m % 2 ^ 2 ^ n) x.1 y.1 (Nat.mod_lt _ (Nat.two_pow_pos _)) (fun k hk hb => by
        rw [Nat.testBit_mod_two_pow, decide_eq_true hk, Bool.true_and] at hb
        exact (tget_l (x := x) hk).symm.trans ((h k (by omega) hb).trans (tget_l (x := y) hk)))]
      rw [tflt_ext n (m >>> 2 ^ n) x.2.1 y.2.1 (by
        rw [Nat.shiftRight_eq_div_pow]
        exact Nat.div_lt_of_lt_mul (by rw [← hp]; exact hm)) (fun k hk hb => by
        rw [Nat.testBit_shiftRight] at hb
        have h1 := h (2 ^ n + k) (by omega) hb
        have h2 : ¬ 2 ^ n + k < 2 ^ n := by omega
        have h3 : 2 ^ n + k - 2 ^ n = k := by omega
        have a1 := tget_r (x := x) h2
        have a2 := tget_r (x := y) h2
        rw [h3] at a1 a2
        exact a1.symm.trans (h1.trans a2))]
abbrev sE : Type := (Nat × Nat × sT × List (sT × sT)) ⊕ (Nat × List sT)
abbrev sH : Type := TT (Option sE) 9 × Nat
noncomputable def hnil : sH := (tnew none 9, 0)
noncomputable def hget (G : sH) (k : Nat) : Option sE := @Bool.rec (fun _ => Option sE) (tget 9 G.1 k) none (Nat.ble 512 k)
theorem hget_def (G : sH) (k : Nat) : hget G k = if k < 512 then tget 9 G.1 k else none := by
  by_cases h : k < 512
  · rw [if_pos h]; exact t_if h
  · rw [if_neg h]; exact t_nf h
noncomputable def hset (G : sH) (k : Nat) (e : Option sE) : sH := @Bool.rec (fun _ => sH) (tset 9 G.1 k e, G.2) G (Nat.ble 512 k)
theorem hset_def (G : sH) (k : Nat) (e : Option sE) : hset G k e = if k < 512 then (tset 9 G.1 k e, G.2) else G := by
  by_cases h : k < 512
  · rw [if_pos h]; exact t_if (β := sH) h
  · rw [if_neg h]; exact t_nf (β := sH) h
noncomputable def hpush (G : sH) (e : Option sE) : sH := ((hset G G.2 e).1, G.2 + 1)
noncomputable def happ (e : Option sE) : Nat → sH → sH
  | 0, G => G
  | n + 1, G => happ e n (hpush G e)
theorem hget_self {G : sH} {k : Nat} {e : Option sE} (h : k < 512) : hget (hset G k e) k = e := by
  rw [hget_def, hset_def]
  rw [if_pos h, if_pos h]
  exact tget_self 9 G.1 k
theorem hget_ne {G : sH} {k j : Nat} {e : Option sE} (h : k ≠ j) : hget (hset G k e) j = hget G j := by
  rw [hget_def, hget_def, hset_def]
  by_cases hj : j < 512
  · rw [if_pos hj, if_pos hj]
    by_cases hk : k < 512
    · rw [if_pos hk]; exact tget_ne 9 G.1 k j hk hj h
    · rw [if_neg hk]
  · rw [if_neg hj, if_neg hj]
theorem hget_lt {G : sH} {k : Nat} {e : sE} (h : hget G k = some e) : k < 512 := by
  rw [hget_def] at h
  split at h
  · next hk => exact hk
  · cases h
theorem hset_len (G : sH) (k : Nat) (e : Option sE) : (hset G k e).2 = G.2 := by
  rw [hset_def]
  split <;> rfl
theorem hpush_at {G : sH} {e : Option sE} {x : sE} (h : hget (hpush G e) G.2 = some x) : e = some x := by
  have h1 := hget_lt h
  have h2 : hget (hpush G e) G.2 = hget (hset G G.2 e) G.2 := rfl
  rw [h2, hget_self h1] at h
  exact h
theorem hpush_ne {G : sH} {e : Option sE} {j : Nat} (h : G.2 ≠ j) : hget (hpush G e) j = hget G j := by
  have h2 : hget (hpush G e) j = hget (hset G G.2 e) j := rfl
  rw [h2, hget_ne h]
/-- what is known ahead: lengths and contents of the arrays from before; contents of array variables -/
abbrev sK : Type := (Nat → Option Nat) × (Nat → Option (List Int32)) × (Nat → Option (List Int)) × Bool
noncomputable def kok (X : pX) (ρ : sR) (K : sK) : Prop := (∀ k n, K.1 k = some n → ∃ f, X k = some (n, f)) ∧ ((∀ k l, K.2.1 k = some l → ∃ n f, X k = some (n, f) ∧ ∀ j, f j = l.getD j 0) ∧ ∃ n f, X 0 = some (n, f) ∧ n < 2147483648) ∧ (∀ a l, K.2.2.1 a = some l → ∀ j, ρ.2.2.1 a j = Int32.ofInt (l.getD j 0) ∧ ρ.2.2.2.1 a j = Int64.ofInt (l.getD j 0)) ∧ (K.2.2.2 = true → rC ρ = 0 ∧ rS ρ = 0)
/-- arrays in a row: the b-th of them -/
noncomputable def catA : sT → Nat → Option Nat
  | .index a, 0 => some a
  | .add (.index a) _, 0 => some a
  | .add (.index _) r, b + 1 => catA r b
  | _, _ => none
/-- what is looked at of a number: all of it, or a part of a frame's head -/
noncomputable def cmap (m : Nat) (x : Int32) : Int32 := match m with
  | 1 => (s2 .iushr (x, 0) (5, 0)).1
  | 2 => (s2 .iand (s2 .iushr (x, 0) (4, 0)) (1, 0)).1
  | 3 => (s2 .iand (x, 0) (15, 0)).1
  | _ => x
/-- arrays in a row, each of n places -/
noncomputable def rden (ρ : sR) (m n : Nat) (l : sT) (j : Nat) : Value := match catA l (j / n) with
  | some a => if a % 2 = 1 then .long (ρ.2.2.2.1 a (j % n)) else .int (cmap m (ρ.2.2.1 a (j % n)))
  | none => .int 0
/-- arrays in a row; or the D-th block of n places is such a row, and what lies besides is an array of its own -/
noncomputable def cden (ρ : sR) (b : sT) (j : Nat) : Value := match b with
  | .mul (.sub (.index m) (.index n)) l => match catA l (j / n) with
    | some a => if a % 2 = 1 then .long (ρ.2.2.2.1 a (j % n)) else .int (cmap m (ρ.2.2.1 a (j % n)))
    | none => .int 0
  | .add (.sub (.arg q) (.index n)) (.add (.mul (.sub (.index m) (.index w)) l) (.index c)) => if (ρ.1 q).toNatClampNeg * n ≤ j ∧ j < (ρ.1 q).toNatClampNeg * n + n then rden ρ m w l (j - (ρ.1 q).toNatClampNeg * n) else if c % 2 = 1 then .long (ρ.2.2.2.1 c j) else .int (ρ.2.2.1 c j)
  | _ => .int 0
noncomputable def bden (X : pX) (ρ : sR) (base : sT) (j : Nat) : Value := match base with
  | .arg a => if a % 2 = 1 then .long (ρ.2.2.2.1 a j) else .int (ρ.2.2.1 a j)
  | .old b => cden ρ b j
  | t => sv X ρ t
noncomputable def aden (X : pX) (ρ : sR) (base : sT) : List (sT × sT) → Nat → Value
  | [], j => bden X ρ base j
  | u :: r, j => if (sd X ρ u.1).1.toNatClampNeg = j then sv X ρ u.2 else aden X ρ base r j
noncomputable def CR (X : pX) (ρ : sR) (x : sE) (y : pE) : Prop := match x, y with
  | .inl a, .inl b => a.1 = b.1 ∧ a.2.1 = b.2.1 ∧ (∀ j, j < a.2.1 → b.2.2 j = aden X ρ a.2.2.1 a.2.2.2 j) ∧ ∀ u ∈ a.2.2.2, ¬ (sd X ρ u.1).1 < 0
  | .inr a, .inr b => b = (a.1, a.2.map (sv X ρ))
  | _, _ => False
noncomputable def HR (X : pX) (ρ : sR) (sG : sH) (G : pH) : Prop := sG.2 + rC ρ = G.length ∧ (∀ (k : Nat) (e : sE), hget sG k = some e → ∃ y : pE, G[k]? = some (some y) ∧ CR X ρ e y) ∧ (rB ρ).length ≤ G.length ∧ ∀ k : Nat, hget sG k = none → k < (rB ρ).length → G[k]? = (rB ρ)[k]?
theorem HR.arr {X : pX} {ρ : sR} {sG : sH} {G : pH} (h : HR X ρ sG G) {k : Nat} {a : Nat × Nat × sT × List (sT × sT)} (hk : hget sG k = some (.inl a)) : ∃ f : Nat → Value, G[k]? = some (some (.inl (a.1, a.2.1, f))) ∧ (∀ j, j < a.2.1 → f j = aden X ρ a.2.2.1 a.2.2.2 j) ∧ ∀ u ∈ a.2.2.2, ¬ (sd X ρ u.1).1 < 0 := by
  obtain ⟨y, h1, h2⟩ := h.2.1 k _ hk
  cases y with
  | inl b =>
    obtain ⟨e1, e2, e3, e4⟩ := h2
    refine ⟨b.2.2, ?_, e3, e4⟩
    rw [h1, e1, e2]
  | inr b => exact h2.elim
theorem HR.obj {X : pX} {ρ : sR} {sG : sH} {G : pH} (h : HR X ρ sG G) {k : Nat} {a : Nat × List sT} (hk : hget sG k = some (.inr a)) : G[k]? = some (some (.inr (a.1, a.2.map (sv X ρ)))) := by
  obtain ⟨y, h1, h2⟩ := h.2.1 k _ hk
  cases y with
  | inl b => exact h2.elim
  | inr b =>
    have h2 : b = _ := h2
    rw [h1, h2]
theorem HR.set {X : pX} {ρ : sR} {sG : sH} {G : pH} (h : HR X ρ sG G) {k : Nat} {e : sE} {y : pE} (hk : k < G.length) (h5 : k < 512) (hc : CR X ρ e y) : HR X ρ (hset sG k (some e)) (G.set k (some y)) := by
  refine ⟨by rw [hset_len, List.length_set]; exact h.1, fun j x hx => ?_, by rw [List.length_set]; exact h.2.2.1, fun j hj hl => ?_⟩
  · by_cases hj : k = j
    · subst hj
      rw [hget_self (hget_lt hx)] at hx
      cases hx
      exact ⟨y, List.getElem?_set_self hk, hc⟩
    · rw [hget_ne hj] at hx
      rw [List.getElem?_set_ne hj]
      exact h.2.1 j x hx
  · by_cases hk : k = j
    · subst hk
      rw [hget_self h5] at hj
      cases hj
    · rw [hget_ne hk] at hj
      rw [List.getElem?_set_ne hk]
      exact h.2.2.2 j hj hl
theorem HR.push {X : pX} {ρ : sR} {sG : sH} {G : pH} (h : HR X ρ sG G) (h0 : rC ρ = 0) {e : sE} {y : pE} (hc : CR X ρ e y) : HR X ρ (hpush sG (some e)) (G ++ [some y]) := by
  have e1 : sG.2 = G.length := by have := h.1; omega
  refine ⟨?_, fun j x hx => ?_, by rw [List.length_append]; have := h.2.2.1; omega, fun j hj hl => ?_⟩
  · rw [List.length_append, ← h.1]
    show sG.2 + 1 + rC ρ = sG.2 + rC ρ + 1
    omega
  · by_cases hj : sG.2 = j
    · subst hj
      cases hpush_at hx
      refine ⟨y, ?_, hc⟩
      rw [List.getElem?_append_right (by omega), e1, Nat.sub_self]
      rfl
    · rw [hpush_ne hj] at hx
      obtain ⟨z, h1, h2⟩ := h.2.1 j x hx
      exact ⟨z, by rw [List.getElem?_append_left (List.getElem?_eq_some_iff.mp h1).1]; exact h1, h2⟩
  · have h9 := h.2.2.1
    rw [hpush_ne (by omega)] at hj
    rw [List.getElem?_append_left (by omega)]
    exact h.2.2.2 j hj hl
/-- one more cell that is not looked at -/
noncomputable def hmore (G : sH) : sH := (G.1, G.2 + 1)
theorem HR.none {X : pX} {ρ : sR} {sG : sH} {G : pH} (h : HR X ρ sG G) : HR X ρ (hmore sG) (G ++ [none]) := by
  refine ⟨?_, fun j x hx => ?_, by rw [List.length_append]; have := h.2.2.1; omega, fun j hj hl => ?_⟩
  · rw [List.length_append, ← h.1]
    show sG.2 + 1 + rC ρ = sG.2 + rC ρ + 1
    omega
  · obtain ⟨z, h1, h2⟩ := h.2.1 j x hx
    exact ⟨z, by rw [List.getElem?_append_left (List.getElem?_eq_some_iff.mp h1).1]; exact h1, h2⟩
  · have h9 := h.2.2.1
    rw [List.getElem?_append_left (by omega)]
    exact h.2.2.2 j hj hl
theorem HR.app {X : pX} {ρ : sR} (h0 : rC ρ = 0) {e : sE} {y : pE} (hc : CR X ρ e y) : ∀ (n : Nat) {sG : sH} {G : pH}, HR X ρ sG G → HR X ρ (happ (some e) n sG) (G ++ List.replicate n (some y))
  | 0, sG, G, h => by rw [List.replicate_zero, List.append_nil]; exact h
  | n + 1, sG, G, h => by
    have h1 := HR.app h0 hc n (h.push h0 hc)
    rw [List.append_assoc] at h1
    exact h1
/-- is the index within bounds -/
noncomputable def sone2 (t : sT) (f : sQ × Bool) (w : Int × Int) : Int × Int := if f.1.1 = 2 then
    if tqe f.1.2.1 t = true then (if f.2 = true then (w.1, min w.2 ((sbas f.1.2.2).2 - 1)) else (max w.1 (sbas f.1.2.2).1, w.2))
    else if tqe f.1.2.2 t = true then (if f.2 = true then (max w.1 ((sbas f.1.2.1).1 + 1), w.2) else (w.1, min w.2 (sbas f.1.2.1).2))
    else w
  else w
noncomputable def sivx (F : sFs) (t : sT) : Int × Int := F.foldr (fun f w => if (trel t f.1 && skok f.1) = true then sone2 t f w else w) (sivl F t)
theorem sone2_ok {X : pX} {ρ : sR} (hv : vok X ρ) {t : sT} {f : sQ × Bool} {w : Int × Int} (h1 : sc X ρ f.1 = f.2) (hk : skok f.1 = true) (ih : w.1 ≤ sn X ρ t ∧ sn X ρ t ≤ w.2) : (sone2 t f w).1 ≤ sn X ρ t ∧ sn X ρ t ≤ (sone2 t f w).2 := by
  obtain ⟨w1, w2⟩ := w
  have ba := sbas_ok hv f.1.2.1
  have bb := sbas_ok hv f.1.2.2
  unfold sone2
  by_cases h2 : f.1.1 = 2
  · rw [if_pos h2]
    rw [sq_lt hk (Or.inl h2)] at h1
    by_cases ht : tqe f.1.2.1 t = true
    · rw [if_pos ht]
      rw [tqe_ok _ _ ht] at h1
      cases hb : f.2 with
      | true =>
        rw [hb] at h1
        have h1 := of_decide_eq_true h1
        rw [if_pos rfl]
        dsimp only at ih ⊢
        omega
      | false =>
        rw [hb] at h1
        have h1 := of_decide_eq_false h1
        rw [if_neg (by decide)]
        dsimp only at ih ⊢
        omega
    · rw [if_neg ht]
      by_cases ht2 : tqe f.1.2.2 t = true
      · rw [if_pos ht2]
        rw [tqe_ok _ _ ht2] at h1
        cases hb : f.2 with
        | true =>
          rw [hb] at h1
          have h1 := of_decide_eq_true h1
          rw [if_pos rfl]
          dsimp only at ih ⊢
          omega
        | false =>
          rw [hb] at h1
          have h1 := of_decide_eq_false h1
          rw [if_neg (by decide)]
          dsimp only at ih ⊢
          omega
      · rw [if_neg ht2]; exact ih
  · rw [if_neg h2]; exact ih
theorem sivx_ok {X : pX} {ρ : sR} {F : sFs} (hF : fok X ρ F) (t : sT) : (sivx F t).1 ≤ sn X ρ t ∧ sn X ρ t ≤ (sivx F t).2 := by
  have go : ∀ A : sFs, (∀ f ∈ A, f ∈ F) → (A.foldr (fun f w => if (trel t f.1 && skok f.1) = true then sone2 t f w else w) (sivl F t)).1 ≤ sn X ρ t ∧ sn X ρ t ≤ (A.foldr (fun f w => if (trel t f.1 && skok f.1) = true then sone2 t f w else w) (sivl F t)).2 := by
    intro A
    induction A with
    | nil => intro _; exact sivl_ok hF t
    | cons f A ih =>
      intro hA
      have ih := ih (fun g hg => hA g (List.mem_cons_of_mem _ hg))
      rw [List.foldr_cons]
      by_cases hk : (trel t f.1 && skok f.1) = true
      · rw [if_pos hk]
        exact sone2_ok hF.1 (hF.2 f (hA f List.mem_cons_self)) (by simp only [Bool.and_eq_true] at hk; exact hk.2) ih
      · rw [if_neg hk]; exact ih
  exact go F (fun _ h => h)
noncomputable def sin (F : sFs) (i : sT) (n : Nat) : Bool := sk i == 0 && ((decide (0 ≤ (sivl F i).1) && decide ((sivl F i).2 < n)) || (decide (0 ≤ (sivx F i).1) && decide ((sivx F i).2 < n)))
theorem s_nn {x : Int32} (h : 0 ≤ x.toInt) : ¬ x < 0 := fun h1 => by
  have := Int32.lt_iff_toInt_lt.mp h1
  simp at this
  omega
theorem s_nat {x : Int32} : x.toNatClampNeg = x.toInt.toNat := rfl
theorem sin_ok {X : pX} {ρ : sR} {F : sFs} (hF : fok X ρ F) {i : sT} {n : Nat} (h : sin F i n = true) : sk i = 0 ∧ pm_in (sd X ρ i).1 n = true ∧ ¬ (sd X ρ i).1 < 0 ∧ (sd X ρ i).1.toNatClampNeg < n := by
  simp only [sin, Bool.and_eq_true, Bool.or_eq_true, beq_iff_eq, decide_eq_true_eq] at h
  have h1 : 0 ≤ (sd X ρ i).1.toInt ∧ (sd X ρ i).1.toInt < n := by
    rw [← sn_i h.1]
    rcases h.2 with h2 | h2
    · have := sivl_ok hF i; omega
    · have := sivx_ok hF i; omega
  have h2 : ¬ (sd X ρ i).1 < 0 := s_nn (by omega)
  have h3 : (sd X ρ i).1.toNatClampNeg < n := by rw [s_nat]; omega
  refine ⟨h.1, ?_, h2, h3⟩
  unfold pm_in
  rw [decide_eq_false h2, decide_eq_true h3]
  rfl
/-- two places from the same one on -/
noncomputable def sdqq (i j : sT) : Option Bool := match i with
  | .add x (.int a) => (match j with
    | .add y (.int b) => if tqe x y = true then some (decide (a = b)) else none
    | _ => none)
  | _ => none
theorem sdqq_ok {X : pX} {ρ : sR} {i j : sT} {v : Bool} (h : sdqq i j = some v) : sc X ρ (0, i, j) = v := by
  unfold sdqq at h
  split at h
  · next x a =>
    split at h
    · next y b =>
      split at h
      · next hq =>
        cases h
        have e := tqe_ok _ _ hq
        subst e
        show decide ((sd X ρ x).1 + a = (sd X ρ x).1 + b) = _
        apply decide_eq_decide.mpr
        constructor
        · intro h9; grind
        · intro h9; rw [h9]
      · cases h
    · cases h
  · cases h
/-- a sum as a term -/
noncomputable def lmulT (q : sT × Int32) : sT := if q.2 = 1 then q.1 else .mul q.1 (.int q.2)
noncomputable def ltermR (m : List (sT × Int32)) (k : Int32) : sT := match m with
  | [] => .int k
  | q :: r => if k = 0 then r.foldl (fun t q => .add t (lmulT q)) (lmulT q) else .add (r.foldl (fun t q => .add t (lmulT q)) (lmulT q)) (.int k)
noncomputable def lterm (m : List (sT × Int32)) (k : Int32) : sT := ltermR (m.filter (fun q => !(decide (q.2 = 0)))) k
section LTERM
variable {X : pX} {ρ : sR}
theorem lmulT_d (q : sT × Int32) : (sd X ρ (lmulT q)).1 = q.2 * (sd X ρ q.1).1 := by
  unfold lmulT
  split
  · next h => rw [h]; grind
  · simp only [sd]; grind
theorem ltfold_d : ∀ (r : List (sT × Int32)) (t : sT), (sd X ρ (r.foldl (fun t q => .add t (lmulT q)) t)).1 = (sd X ρ t).1 + lsum X ρ r
  | [], t => by simp only [List.foldl_nil, lsum]; grind
  | q :: r, t => by
    rw [List.foldl_cons, ltfold_d r]
    simp only [sd, lmulT_d, lsum]
    grind
theorem ltermR_d (m : List (sT × Int32)) (k : Int32) : (sd X ρ (ltermR m k)).1 = lsum X ρ m + k := by
  unfold ltermR
  split
  · simp only [sd, lsum]; grind
  · split
    · next h =>
      rw [ltfold_d, lmulT_d, h]
      simp only [lsum]
      grind
    · simp only [sd, ltfold_d, lmulT_d, lsum]
theorem lsum_flt : ∀ m : List (sT × Int32), lsum X ρ (m.filter (fun q => !(decide (q.2 = 0)))) = lsum X ρ m
  | [] => rfl
  | q :: r => by
    by_cases h : q.2 = 0
    · rw [List.filter_cons_of_neg (by simp [h]), lsum_flt r]
      simp only [lsum, h]
      grind
    · rw [List.filter_cons_of_pos (by simp [h])]
      simp only [lsum, lsum_flt r]
theorem lterm_d (m : List (sT × Int32)) (k : Int32) : (sd X ρ (lterm m k)).1 = lsum X ρ m + k := by
  unfold lterm
  rw [ltermR_d, lsum_flt]
end LTERM
/-- the difference of two places, as a term; its span -/
noncomputable def sdqT (i j : sT) : sT := lterm (lin j (-1) (lin i 1 ([], 0))).1 (lin j (-1) (lin i 1 ([], 0))).2
noncomputable def sdqD (F : sFs) (i j : sT) : Bool := (Nat.beq (sk (sdqT i j)) 0) && (decide (0 < (sivl F (sdqT i j)).1) || decide ((sivl F (sdqT i j)).2 < 0))
theorem sdqD_ok {X : pX} {ρ : sR} {F : sFs} (hF : fok X ρ F) {i j : sT} (h : sdqD F i j = true) : sc X ρ (0, i, j) = false := by
  simp only [sdqD, Bool.and_eq_true, Bool.or_eq_true, decide_eq_true_eq] at h
  obtain ⟨h1, h2⟩ := h
  have h1 := Nat.eq_of_beq_eq_true h1
  have hd : (sd X ρ (sdqT i j)).1 = (sd X ρ i).1 - (sd X ρ j).1 := by
    unfold sdqT
    rw [lterm_d]
    have e1 := lin_ok (X := X) (ρ := ρ) j (-1) (lin i 1 ([], 0))
    have e2 := lin_ok (X := X) (ρ := ρ) i 1 ([], 0)
    rw [e1, e2]
    simp only [lsum]
    grind
  have hs := sivl_ok (X := X) (ρ := ρ) hF (sdqT i j)
  rw [sn_i h1] at hs
  refine decide_eq_false (fun q => ?_)
  have q : (sd X ρ i).1 = (sd X ρ j).1 := q
  have z : (sd X ρ (sdqT i j)).1.toInt = 0 := by
    rw [hd, q, Int32.sub_self]
    rfl
  omega
/-- two places at a glance: sums with numbers behind, numbers, the same -/
noncomputable def pq (i j : sT) : Option Bool := @Bool.rec (fun _ => Option Bool) (@Bool.rec (fun _ => Option Bool) (@Bool.rec (fun _ => Option Bool) none (some true) (tqe i j)) (some (Nat.beq (tpn i) (tpn j))) (@Bool.rec (fun _ => Bool) false (Nat.beq (ttag j) 1) (Nat.beq (ttag i) 1))) (@Bool.rec (fun _ => Option Bool) none (some (Nat.beq (tpn (tp2 i)) (tpn (tp2 j)))) (@Bool.rec (fun _ => Bool) false (@Bool.rec (fun _ => Bool) false (tqe (tp1 i) (tp1 j)) (Nat.beq (ttag (tp2 j)) 1)) (Nat.beq (ttag (tp2 i)) 1))) (@Bool.rec (fun _ => Bool) false (Nat.beq (ttag j) 11) (Nat.beq (ttag i) 11))
theorem i32_beq {a b : Int32} : Nat.beq a.toBitVec.toNat b.toBitVec.toNat = decide (a = b) := by
  cases h : Nat.beq a.toBitVec.toNat b.toBitVec.toNat with
  | true => exact (decide_eq_true (Int32.toBitVec_inj.mp (BitVec.eq_of_toNat_eq (Nat.eq_of_beq_eq_true h)))).symm
  | false =>
    refine (decide_eq_false (fun e => ?_)).symm
    rw [e, Nat.beq_refl] at h
    cases h
theorem pq_tr {i j : sT} {v : Bool} (h : @Bool.rec (fun _ => Option Bool) none (some true) (tqe i j) = some v) : v = true ∧ i = j := by
  cases hq : tqe i j with
  | true => rw [hq] at h; cases h; exact ⟨rfl, tqe_ok _ _ hq⟩
  | false => rw [hq] at h; cases h
theorem pq_ok {X : pX} {ρ : sR} {i j : sT} {v : Bool} (h : pq i j = some v) : decide ((sd X ρ i).1 = (sd X ρ j).1) = v := by
  have other : ∀ {i j : sT} {v : Bool}, @Bool.rec (fun _ => Option Bool) none (some true) (tqe i j) = some v → decide ((sd X ρ i).1 = (sd X ρ j).1) = v := fun h => by
    obtain ⟨e1, e2⟩ := pq_tr h
    rw [e1, e2]
    exact decide_eq_true rfl
  by_cases hi : ∃ x y, i = .add x y
  · obtain ⟨x, y, rfl⟩ := hi
    by_cases hj : ∃ x' y', j = .add x' y'
    · obtain ⟨x', y', rfl⟩ := hj
      have hq : @Bool.rec (fun _ => Option Bool) none (some (Nat.beq (tpn y) (tpn y'))) (@Bool.rec (fun _ => Bool) false (@Bool.rec (fun _ => Bool) false (tqe x x') (Nat.beq (ttag y') 1)) (Nat.beq (ttag y) 1)) = some v := h
      clear h
      cases h1 : Nat.beq (ttag y) 1 with
      | false => rw [h1] at hq; cases hq
      | true =>
        rw [h1] at hq
        cases h2 : Nat.beq (ttag y') 1 with
        | false => rw [h2] at hq; cases hq
        | true =>
          rw [h2] at hq
          cases h3 : tqe x x' with
          | false => rw [h3] at hq; cases hq
          | true =>
            rw [h3] at hq
            have e := tqe_ok _ _ h3
            subst e
            cases y with
            | int a =>
              cases y' with
              | int b =>
                have h5 : Nat.beq a.toBitVec.toNat b.toBitVec.toNat = v := Option.some.inj hq
                rw [← h5]
                show decide ((sd X ρ x).1 + a = (sd X ρ x).1 + b) = Nat.beq a.toBitVec.toNat b.toBitVec.toNat
                rw [i32_beq]
                exact decide_eq_decide.mpr ⟨fun e => by grind, fun e => by rw [e]⟩
              | _ => cases h2
            | _ => cases h1
    · have h : @Bool.rec (fun _ => Option Bool) none (some true) (tqe (.add x y) j) = some v := by
        cases j <;> first | exact h | exact absurd ⟨_, _, rfl⟩ hj
      exact other h
  · by_cases hc : (∃ a, i = .int a) ∧ ∃ b, j = .int b
    · obtain ⟨⟨a, rfl⟩, b, rfl⟩ := hc
      have h : some (Nat.beq a.toBitVec.toNat b.toBitVec.toNat) = some v := h
      cases h
      exact i32_beq.symm
    · have h : @Bool.rec (fun _ => Option Bool) none (some true) (tqe i j) = some v := by
        cases i with
        | add x y => exact absurd ⟨_, _, rfl⟩ hi
        | int a =>
          cases j with
          | int b => exact absurd ⟨⟨a, rfl⟩, b, rfl⟩ hc
          | _ => exact h
        | _ => exact h
      exact other h
noncomputable def sdqO (F : sFs) (i j : sT) : Option Bool := match sC1 i, sC1 j with
  | some p, some q => some (decide (p.1 = q.1))
  | _, _ => match sdqq i j with
    | some v => some v
    | none => match ldiff i j with
      | some c => some (decide (c = 0))
      | none => bif sdqD F i j then some false else sdec F (0, i, j)
theorem sdqO_ok {X : pX} {ρ : sR} {F : sFs} (hF : fok X ρ F) {i j : sT} {v : Bool} (h : sdqO F i j = some v) : sc X ρ (0, i, j) = v := by
  unfold sdqO at h
  split at h
  · next p q hp hq =>
    cases h
    show decide ((sd X ρ i).1 = (sd X ρ j).1) = _
    rw [sC1_ok hp, sC1_ok hq]
  · split at h
    · next v' hv => cases h; exact sdqq_ok hv
    · split at h
      · next c hc =>
        cases h
        exact ldiff_ok hc
      · cases hq : sdqD F i j with
        | false => rw [hq] at h; exact sdec_ok hF h
        | true => rw [hq] at h; cases h; exact sdqD_ok hF hq
noncomputable def sdq (F : sFs) (i j : sT) : Option Bool := @Option.rec Bool (fun _ => Option Bool) (sdqO F i j) (fun v => some v) (pq i j)
theorem sdq_ok {X : pX} {ρ : sR} {F : sFs} (hF : fok X ρ F) {i j : sT} {v : Bool} (h : sdq F i j = some v) : sc X ρ (0, i, j) = v := by
  unfold sdq at h
  cases hp : pq i j with
  | none => rw [hp] at h; exact sdqO_ok hF h
  | some w => rw [hp] at h; cases h; exact pq_ok hp
noncomputable def sneq (u i : sT) : Bool := match sC1 u, sC1 i with
  | some p, some q => decide (¬ p.1 = q.1)
  | _, _ => !(tqe u i)
theorem sneq_ok {X : pX} {ρ : sR} {u i : sT} (h : sneq u i = false) : (sd X ρ u).1 = (sd X ρ i).1 := by
  unfold sneq at h
  split at h
  · next p q hp hq =>
    have h1 := of_decide_eq_false h
    rw [sC1_ok hp, sC1_ok hq]
    exact Decidable.of_not_not h1
  · have h1 : tqe u i = true := by simpa using h
    rw [tqe_ok _ _ h1]
/-- so many less -/
noncomputable def ssubc (i : sT) (c : Int) : sT := if c = 0 then nidx i else nidx (mkA 1 i (.int (Int32.ofInt c)))
theorem ssubc_i {X : pX} {ρ : sR} {i : sT} (hi : sk i = 0) (c : Int) : sv X ρ (ssubc i c) = .int ((sd X ρ i).1 - Int32.ofInt c) := by
  have hA : sk (mkA 1 i (.int (Int32.ofInt c))) = 0 := by
    unfold mkA
    split
    · rfl
    · split
      · next h => omega
      · rfl
    · unfold mkw
      split
      · next h => omega
      · rfl
  unfold ssubc
  split
  · next h =>
    rw [sv_int (nidx_k i hi), nidx_d, h]
    simp
  · rw [sv_int (nidx_k _ hA), nidx_d]
    have e := mkA_i (X := X) (ρ := ρ) (k := 1) (a := i) (b := .int (Int32.ofInt c))
    rw [sv_int hA] at e
    injection e with e
    rw [e]
    rfl
theorem sv_d {X : pX} {ρ : sR} {t : sT} {x : Int32} (h : sv X ρ t = .int x) : (sd X ρ t).1 = x := by
  unfold sv at h
  split at h <;> first | (cases h; done) | skip
  split at h
  · cases h
  · cases h; rfl
/-- a part of a head, as a term -/
noncomputable def cmapT (m : Nat) (t : sT) : sT := match m with
  | 1 => .op2 .iushr t (.int 5)
  | 2 => .op2 .iand (.op2 .iushr t (.int 4)) (.int 1)
  | 3 => .op2 .iand t (.int 15)
  | _ => t
theorem cmapT_i {X : pX} {ρ : sR} {m : Nat} {t : sT} (ht : sk t = 0) : sv X ρ (cmapT m t) = .int (cmap m (sd X ρ t).1) := by
  unfold cmapT cmap
  split
  · exact sv_int (t := .op2 .iushr t (.int 5)) rfl
  · exact sv_int (t := .op2 .iand (.op2 .iushr t (.int 4)) (.int 1)) rfl
  · exact sv_int (t := .op2 .iand t (.int 15)) rfl
  · exact sv_int ht
/-- what lies at a place of arrays in a row -/
noncomputable def sctrR (F : sFs) (m n : Nat) (l i : sT) : sT ⊕ sQ := if (sk i = 0 ∧ 0 < n) ∧ 0 ≤ (sivl F i).1 ∧ (sivl F i).1 / n = (sivl F i).2 / n then match catA l ((sivl F i).1 / n).toNat with
      | some a => .inl (if a % 2 = 1 then .elem (.arg a) (ssubc i ((sivl F i).1 / n * n)) else cmapT m (.elem (.arg a) (ssubc i ((sivl F i).1 / n * n))))
      | none => .inr (0, .int 0, .int 1)
    else .inr (2, i, .int (Int32.ofInt (((sivl F i).1 / n + 1) * n)))
/-- a place, counted from the q-th block of n on -/
noncomputable def fred (q n : Nat) (i : sT) : sT := lterm (lin (.arg q) (-(Int32.ofNat n)) (lin i 1 ([], 0))).1 (lin (.arg q) (-(Int32.ofNat n)) (lin i 1 ([], 0))).2
noncomputable def fin_ (F : sFs) (q n : Nat) (i : sT) : Bool := sk i == 0 && (sk (fred q n i) == 0 && (Nat.beq (q % 2) 0 && (Nat.ble n 4096 && (decide (0 ≤ (sivl F (.arg q)).1) && (decide ((sivl F (.arg q)).2 ≤ 3) && (decide (0 ≤ (sivl F (fred q n i)).1) && decide ((sivl F (fred q n i)).2 < n)))))))
theorem fin_ok {X : pX} {ρ : sR} {F : sFs} (hF : fok X ρ F) {q n : Nat} {i : sT} (h : fin_ F q n i = true) : (sd X ρ i).1.toNatClampNeg = (ρ.1 q).toNatClampNeg * n + (sd X ρ (fred q n i)).1.toNatClampNeg ∧ (sd X ρ (fred q n i)).1.toNatClampNeg < n ∧ ¬ (sd X ρ (fred q n i)).1 < 0 := by
  simp only [fin_, Bool.and_eq_true, beq_iff_eq, decide_eq_true_eq] at h
  obtain ⟨h1, h2, h3, h4, h5, h6, h7, h8⟩ := h
  have h3 := Nat.eq_of_beq_eq_true h3
  have h4 := Nat.le_of_ble_eq_true h4
  have hq := sivl_ok hF (.arg q)
  rw [sn_i (show sk (.arg q) = 0 from h3)] at hq
  have hq : (sivl F (.arg q)).1 ≤ (ρ.1 q).toInt ∧ (ρ.1 q).toInt ≤ (sivl F (.arg q)).2 := hq
  have ht := sivl_ok hF (fred q n i)
  rw [sn_i h2] at ht
  have hd : (sd X ρ (fred q n i)).1 = (sd X ρ i).1 - Int32.ofNat n * ρ.1 q := by
    unfold fred
    rw [lterm_d, lin_ok, lin_ok]
    simp only [lsum, sd]
    grind
  generalize hT : (sd X ρ (fred q n i)).1 = T at hd ht ⊢
  generalize hI : (sd X ρ i).1 = I at hd ⊢
  generalize hQ : ρ.1 q = Q at hd hq ⊢
  have hn : (Int32.ofNat n).toInt = (n : Int) := Int32.toInt_ofNat_of_lt (by omega)
  have hm0 : 0 ≤ (n : Int) * Q.toInt := Int.mul_nonneg (by omega) (by omega)
  have hm1 : (n : Int) * Q.toInt ≤ 4096 * 3 := Int.le_trans (Int.mul_le_mul_of_nonneg_right (show (n : Int) ≤ 4096 by omega) (by omega)) (by omega)
  have hm : (Int32.ofNat n * Q).toInt = (n : Int) * Q.toInt := by
    rw [← hn]
    exact s_mul (by rw [hn]; omega) (by rw [hn]; omega)
  have hI2 : I = T + Int32.ofNat n * Q := by rw [hd]; grind
  have hI3 : I.toInt = T.toInt + (n : Int) * Q.toInt := by
    rw [hI2, ← hm]
    exact s_add (by rw [hm]; omega) (by rw [hm]; omega)
  refine ⟨?_, ?_, s_nn (by omega)⟩
  · rw [s_nat, s_nat, s_nat, hI3]
    have e1 : Q.toInt = (Q.toInt.toNat : Int) := by omega
    have e2 : T.toInt = (T.toInt.toNat : Int) := by omega
    have e3 : (n : Int) * Q.toInt = ((Q.toInt.toNat * n : Nat) : Int) := by
      rw [Int.natCast_mul, ← e1, Int.mul_comm]
    omega
  · rw [s_nat]
    omega
noncomputable def sctr (F : sFs) (b i : sT) : sT ⊕ sQ := match b with
  | .mul (.sub (.index m) (.index n)) l => sctrR F m n l i
  | .add (.sub (.arg q) (.index n)) (.add (.mul (.sub (.index m) (.index w)) l) (.index _)) => if fin_ F q n i = true then sctrR F m w l (fred q n i) else .inr (0, .int 0, .int 1)
  | _ => .inr (0, .int 0, .int 1)
/-- a number in the q-th of rows of n -/
theorem s_blk {x : Int32} {lo hi : Int} {n : Nat} (hn : 0 < n) (h0 : 0 ≤ lo) (h1 : lo ≤ x.toInt) (h2 : x.toInt ≤ hi) (hq : lo / n = hi / n) : (lo / n).toNat = x.toNatClampNeg / n ∧ (x - Int32.ofInt (lo / n * n)).toNatClampNeg = x.toNatClampNeg % n ∧ ¬ (x - Int32.ofInt (lo / n * n)) < 0 := by
  have e : x.toNatClampNeg = x.toInt.toNat := rfl
  generalize hz : x.toInt.toNat = z at e
  have hx : x.toInt = (z : Int) := by omega
  have hnI : (0 : Int) < n := by omega
  have a1 : lo / n ≤ x.toInt / n := Int.ediv_le_ediv hnI h1
  have a2 : x.toInt / n ≤ hi / n := Int.ediv_le_ediv hnI h2
  have a3 : lo / n = ((z / n : Nat) : Int) := by
    rw [Int.natCast_ediv, ← hx]
    omega
  have a4 : lo / n * n = ((z / n * n : Nat) : Int) := by rw [a3, Int.natCast_mul]
  have a5 : z / n * n + z % n = z := by rw [Nat.mul_comm]; exact Nat.div_add_mod z n
  have hlt : x.toInt < 2147483648 := Int32.toInt_lt x
  have a6 : (Int32.ofInt (lo / n * n)).toInt = ((z / n * n : Nat) : Int) := by
    rw [a4]
    exact Int32.toInt_ofInt_of_le (by omega) (by omega)
  have a7 : (x - Int32.ofInt (lo / n * n)).toInt = x.toInt - ((z / n * n : Nat) : Int) := by
    rw [← a6]
    exact s_sub (by rw [a6]; omega) (by rw [a6]; omega)
  refine ⟨by rw [a3, e]; exact Int.toNat_natCast _, ?_, s_nn (by rw [a7, hx]; omega)⟩
  show (x - Int32.ofInt (lo / n * n)).toInt.toNat = _
  rw [a7, e, hx]
  omega
theorem sctrR_ok {X : pX} {ρ : sR} {F : sFs} (hF : fok X ρ F) {m n : Nat} {l i t : sT} (h : sctrR F m n l i = .inl t) : sv X ρ t = rden ρ m n l (sd X ρ i).1.toNatClampNeg := by
  unfold sctrR at h
  split at h
  · next hc =>
    obtain ⟨⟨c1, c2⟩, c3, c4⟩ := hc
    have hv := sivl_ok hF i
    rw [sn_i c1] at hv
    obtain ⟨b1, b2, -⟩ := s_blk c2 c3 hv.1 hv.2 c4
    have hi := sv_d (ssubc_i (X := X) (ρ := ρ) c1 ((sivl F i).1 / n * n))
    split at h
    · next a ha =>
      cases h
      unfold rden
      rw [← b1, ha]
      dsimp only
      rw [← b2, ← hi]
      by_cases h2 : a % 2 = 1
      · rw [if_pos h2, if_pos h2]
        exact sv_long (t := .elem (.arg a) _) h2
      · rw [if_neg h2, if_neg h2]
        exact cmapT_i (t := .elem (.arg a) _) (by show a % 2 = 0; omega)
    · cases h
  · cases h
theorem sctr_ok {X : pX} {ρ : sR} {F : sFs} (hF : fok X ρ F) {b i t : sT} (h : sctr F b i = .inl t) : sv X ρ t = cden ρ b (sd X ρ i).1.toNatClampNeg := by
  unfold sctr at h
  split at h
  · next m n l => exact sctrR_ok hF h
  · next q n m w l c =>
    split at h
    · next hi =>
      obtain ⟨e1, e2, -⟩ := fin_ok hF hi
      rw [sctrR_ok hF h]
      unfold cden
      dsimp only
      rw [e1, if_pos ⟨by omega, by omega⟩, Nat.add_sub_cancel_left]
    · cases h
  · cases h
/-- what lies at a place of an array -/
noncomputable def ssel (K : sK) (F : sFs) (base i : sT) : List (sT × sT) → sT ⊕ sQ
  | [] => match base with
    | .arg a => match sC1 i, K.2.2.1 a with
      | some p, some l => .inl (if a % 2 = 1 then .long (Int64.ofInt (l.getD p.1.toNatClampNeg 0)) else .int (Int32.ofInt (l.getD p.1.toNatClampNeg 0)))
      | _, _ => .inl (.elem (.arg a) (nidx i))
    | .old b => sctr F b i
    | t => .inl t
  | u :: r => match sdq F i u.1 with
    | some true => .inl u.2
    | some false => ssel K F base i r
    | none => .inr (0, i, u.1)
theorem s_natne {x y : Int32} (hx : ¬ x < 0) (hy : ¬ y < 0) (h : ¬ x = y) : ¬ y.toNatClampNeg = x.toNatClampNeg := by
  intro e
  apply h
  have h1 := Int32.not_lt.mp hx
  have h2 := Int32.not_lt.mp hy
  have h1 := Int32.le_iff_toInt_le.mp h1
  have h2 := Int32.le_iff_toInt_le.mp h2
  simp at h1 h2
  rw [s_nat, s_nat] at e
  exact Int32.toInt_inj.mp (by omega)
theorem ssel_ok {X : pX} {ρ : sR} {K : sK} {F : sFs} (hF : fok X ρ F) (hK : kok X ρ K) {base i : sT} (hi : ¬ (sd X ρ i).1 < 0) : ∀ (ups : List (sT × sT)) (t : sT), (∀ u ∈ ups, ¬ (sd X ρ u.1).1 < 0) → ssel K F base i ups = .inl t → sv X ρ t = aden X ρ base ups (sd X ρ i).1.toNatClampNeg
  | [], t, _, h => by
    unfold ssel at h
    split at h
    · next a =>
      split at h
      · next p l hp hl =>
        cases h
        show _ = bden X ρ (.arg a) _
        rw [sC1_ok hp]
        obtain ⟨h1, h2⟩ := hK.2.2.1 a l hl p.1.toNatClampNeg
        unfold bden
        dsimp only
        by_cases ha : a % 2 = 1
        · rw [if_pos ha, if_pos ha, h2]; rfl
        · rw [if_neg ha, if_neg ha, h1]; rfl
      · cases h
        show sv X ρ (.elem (.arg a) (nidx i)) = bden X ρ (.arg a) _
        unfold bden
        dsimp only
        rw [← nidx_d i]
        by_cases ha : a % 2 = 1
        · rw [if_pos ha]
          exact sv_long (t := .elem (.arg a) (nidx i)) ha
        · rw [if_neg ha]
          exact sv_int (t := .elem (.arg a) (nidx i)) (by show a % 2 = 0; omega)
    · next b => exact sctr_ok hF h
    · next hne hno =>
      cases h
      show sv X ρ base = bden X ρ base _
      unfold bden
      split
      · next a => exact absurd rfl (hne a)
      · next b => exact absurd rfl (hno b)
      · rfl
  | u :: r, t, hu, h => by
    unfold ssel at h
    unfold aden
    split at h
    · next hd =>
      have h3 : (sd X ρ i).1 = (sd X ρ u.1).1 := of_decide_eq_true (sdq_ok hF hd)
      cases h
      rw [if_pos (by rw [h3])]
    · next hd =>
      have h3 : ¬ (sd X ρ i).1 = (sd X ρ u.1).1 := of_decide_eq_false (sdq_ok hF hd)
      rw [if_neg (s_natne hi (hu u List.mem_cons_self) h3)]
      exact ssel_ok hF hK hi r t (fun w hw => hu w (List.mem_cons_of_mem _ hw)) h
    · cases h
noncomputable def sups (ups : List (sT × sT)) (i v : sT) : List (sT × sT) := (i, v) :: ups.filter (fun u => sneq u.1 i)
theorem sups_flt {X : pX} {ρ : sR} {base i : sT} {j : Nat} (hj : ¬ (sd X ρ i).1.toNatClampNeg = j) : ∀ ups : List (sT × sT), aden X ρ base (ups.filter (fun u => sneq u.1 i)) j = aden X ρ base ups j
  | [] => rfl
  | u :: r => by
    cases hu : sneq u.1 i with
    | false =>
      rw [List.filter_cons_of_neg (by simp [hu])]
      rw [sups_flt hj r]
      show _ = if (sd X ρ u.1).1.toNatClampNeg = j then _ else _
      rw [sneq_ok hu, if_neg hj]
    | true =>
      rw [List.filter_cons_of_pos (by simp [hu])]
      show (if _ then _ else _) = if _ then _ else _
      rw [sups_flt hj r]
theorem sups_ok (X : pX) (ρ : sR) (base : sT) (ups : List (sT × sT)) (i v : sT) (j : Nat) : aden X ρ base (sups ups i v) j = if j = (sd X ρ i).1.toNatClampNeg then sv X ρ v else aden X ρ base ups j := by
  unfold sups
  show (if (sd X ρ i).1.toNatClampNeg = j then _ else _) = _
  by_cases h : (sd X ρ i).1.toNatClampNeg = j
  · rw [if_pos h, if_pos h.symm]
  · rw [if_neg h, if_neg (fun e => h e.symm), sups_flt h]
noncomputable def vt (v : Value) : sT := match v with
  | .int x => .int x
  | .long x => .long x
  | .ref k => .index k
  | .retAddr i => .string "" i
  | _ => .null
noncomputable def vtk (v : Value) : Bool := match v with
  | .float _ => false
  | .double _ => false
  | _ => true
theorem vt_ok (X : pX) (ρ : sR) {v : Value} (h : vtk v = true) : sv X ρ (vt v) = v := by
  cases v <;> first | rfl | (cases h; done)
abbrev sO : Type := (List sT × sH × Nat) ⊕ sQ
/-- a field, and a field anew -/
noncomputable def lget (l : List sT) (j : Nat) : Option sT := @List.rec sT (fun _ => Nat → Option sT) (fun _ => none) (fun a _ ih k => bif Nat.beq k 0 then some a else ih (Nat.sub k 1)) l j
theorem lget_eq : ∀ (l : List sT) (j : Nat), lget l j = l[j]?
  | [], _ => rfl
  | a :: l, 0 => rfl
  | a :: l, j + 1 => by
    rw [List.getElem?_cons_succ]
    exact lget_eq l j
noncomputable def lset (l : List sT) (j : Nat) (v : sT) : Option (List sT) := @List.rec sT (fun _ => Nat → sT → Option (List sT)) (fun _ _ => none) (fun a l ih k v => bif Nat.beq k 0 then some (v :: l) else (match ih (Nat.sub k 1) v with
  | some r => some (a :: r)
  | none => none)) l j v
theorem lset_ok {v : sT} : ∀ {l : List sT} {j : Nat} {l' : List sT}, lset l j v = some l' → j < l.length ∧ l' = l.set j v
  | [], _, _, h => by cases h
  | a :: l, 0, l', h => by
    have h : some (v :: l) = some l' := h
    cases h
    exact ⟨by simp, rfl⟩
  | a :: l, j + 1, l', h => by
    have h : (match lset l j v with
      | some r => some (a :: r)
      | none => none) = some l' := h
    split at h
    · next r hr =>
      cases h
      obtain ⟨h1, h2⟩ := lset_ok hr
      exact ⟨by simp only [List.length_cons]; omega, by rw [h2]; rfl⟩
    · cases h
noncomputable def sfit (F : sFs) (ty : FieldType) (v : sT) : Bool := match ty with
  | .int => sk v == 0
  | .long => sk v == 1
  | .boolean => sk v == 0 && (decide (0 ≤ (sivl F v).1) && decide ((sivl F v).2 ≤ 1))
  | .object _ => match v with
    | .index _ => true
    | _ => false
  | .array _ => match v with
    | .index _ => true
    | _ => false
  | _ => false
theorem s_01 {x : Int32} (h0 : 0 ≤ x.toInt) (h1 : x.toInt ≤ 1) : x = 0 ∨ x = 1 := by
  rcases (show x.toInt = 0 ∨ x.toInt = 1 by omega) with h | h
  · exact Or.inl (Int32.toInt_inj.mp h)
  · exact Or.inr (Int32.toInt_inj.mp h)
theorem sfit_ok {X : pX} {ρ : sR} {F : sFs} (hF : fok X ρ F) {ty : FieldType} {v : sT} (h : sfit F ty v = true) : pm_fit ty (sv X ρ v) = true := by
  unfold sfit at h
  split at h
  · rw [sv_int (by simpa using h)]; rfl
  · rw [sv_long (by simpa using h)]; rfl
  · simp only [Bool.and_eq_true, beq_iff_eq, decide_eq_true_eq] at h
    rw [sv_int h.1]
    have h1 := sivl_ok hF v
    rw [sn_i h.1] at h1
    rcases s_01 (x := (sd X ρ v).1) (by omega) (by omega) with h2 | h2
    · rw [h2]; rfl
    · rw [h2]; rfl
  · split at h
    · rfl
    · cases h
  · split at h
    · rfl
    · cases h
  · cases h
noncomputable def sputf (F : sFs) (ci j : Nat) (ty : FieldType) (G : sH) (sl : Nat) (st : List sT) : Option sO := match st with
  | v :: .index k :: r => match hget G k with
    | some (.inr o) => if o.1 = ci ∧ sfit F ty v = true then (match lset o.2 j v with
      | some l => some (.inl (r, hset G k (some (.inr (ci, l))), sl))
      | none => none) else none
    | _ => none
  | _ => none
noncomputable def salen (K : sK) (G : sH) (sl : Nat) (st : List sT) : Option sO := match st with
  | .index k :: r => match hget G k with
    | some (.inl a) => if a.1 < 6 then some (.inl (.int (Int32.ofNat a.2.1) :: r, G, sl)) else none
    | _ => none
  | .string _ i :: r => match K.1 i with
    | some n => some (.inl (.int (Int32.ofNat n) :: r, G, sl))
    | none => if i = 0 then some (.inl (.length (.string "" 0) :: r, G, sl)) else none
  | _ => none
/-- a number that the facts give -/
noncomputable def sknow (F : sFs) (t : sT) : sT := if (sivl F t).1 = (sivl F t).2 then .int (Int32.ofInt (sivl F t).1) else t
theorem sknow_ok {X : pX} {ρ : sR} {F : sFs} (hF : fok X ρ F) {t : sT} (hk : sk t = 0) : sv X ρ (sknow F t) = sv X ρ t := by
  unfold sknow
  split
  · next h =>
    have h1 := sivl_ok hF t
    rw [sn_i hk] at h1
    rw [sv_int hk]
    show Value.int (Int32.ofInt (sivl F t).1) = _
    rw [show (sivl F t).1 = (sd X ρ t).1.toInt by omega, Int32.ofInt_toInt]
  · rfl
/-- the known ones of a sum -/
noncomputable def lknow (F : sFs) (k : Int32) : List (sT × Int32) → List (sT × Int32) × Int32
  | [] => ([], k)
  | q :: r => if sk q.1 = 0 ∧ (sivl F q.1).1 = (sivl F q.1).2 then ((lknow F k r).1, (lknow F k r).2 + q.2 * Int32.ofInt (sivl F q.1).1) else (q :: (lknow F k r).1, (lknow F k r).2)
theorem lknow_d {X : pX} {ρ : sR} {F : sFs} (hF : fok X ρ F) (k : Int32) : ∀ m : List (sT × Int32), lsum X ρ (lknow F k m).1 + (lknow F k m).2 = lsum X ρ m + k
  | [] => rfl
  | q :: r => by
    have ih := lknow_d hF k r
    unfold lknow
    split
    · next h =>
      have h1 := sivl_ok hF q.1
      rw [sn_i h.1] at h1
      have e : Int32.ofInt (sivl F q.1).1 = (sd X ρ q.1).1 := by
        rw [show (sivl F q.1).1 = (sd X ρ q.1).1.toInt by omega, Int32.ofInt_toInt]
      simp only [lsum, e]
      grind
    · simp only [lsum]
      grind
/-- a sum in short -/
noncomputable def snrmL (F : sFs) (t : sT) : sT := lterm (lknow F (lin t 1 ([], 0)).2 (lin t 1 ([], 0)).1).1 (lknow F (lin t 1 ([], 0)).2 (lin t 1 ([], 0)).1).2
noncomputable def snrm (F : sFs) (t : sT) : sT := match t with
  | .add _ _ => snrmL F t
  | .sub _ _ => snrmL F t
  | .mul _ _ => snrmL F t
  | _ => t
theorem snrm_d {X : pX} {ρ : sR} {F : sFs} (hF : fok X ρ F) (t : sT) : (sd X ρ (snrm F t)).1 = (sd X ρ t).1 := by
  have h : (sd X ρ (snrmL F t)).1 = (sd X ρ t).1 := by
    unfold snrmL
    rw [lterm_d, lknow_d hF, lin_ok]
    simp only [lsum]
    grind
  unfold snrm
  split <;> first | exact h | rfl
/-- a field that facts give as a number is read as the number (the master's fields, a transfer's) -/
noncomputable def sknR (i : Nat) : Bool := (Nat.ble 17728 i && Nat.blt i 19600) || ((Nat.ble 3360 i && Nat.blt i 3632) || (Nat.ble 21728 i && Nat.blt i 22900))
/-- a byte of a transfer, an entry's index or sub, that facts say to be another term's is read as that -/
noncomputable def sknE (v : sT) : sFs → sT
  | [] => v
  | g :: r => bif Nat.beq g.1.1 0 && (g.2 && (tqe g.1.2.1 v && Nat.beq (sk g.1.2.2) 0)) then g.1.2.2 else sknE v r
theorem sknE_ok {X : pX} {ρ : sR} {v : sT} (hk : sk v = 0) : ∀ F : sFs, (∀ f ∈ F, sc X ρ f.1 = f.2) → sv X ρ (sknE v F) = sv X ρ v
  | [], _ => rfl
  | g :: r, hF => by
    unfold sknE
    cases h : (Nat.beq g.1.1 0 && (g.2 && (tqe g.1.2.1 v && Nat.beq (sk g.1.2.2) 0))) with
    | false => exact sknE_ok hk r (fun f hf => hF f (List.mem_cons_of_mem _ hf))
    | true =>
      simp only [Bool.and_eq_true] at h
      obtain ⟨h1, h2, h3, h4⟩ := h
      have h5 := hF g List.mem_cons_self
      obtain ⟨⟨k, a, b⟩, w⟩ := g
      dsimp only at h1 h2 h3 h4 h5
      have h1 := Nat.eq_of_beq_eq_true h1
      have h3 := tqe_ok _ _ h3
      subst h1 h2 h3
      have h6 : (sd X ρ a).1 = (sd X ρ b).1 := of_decide_eq_true h5
      show sv X ρ b = sv X ρ a
      rw [sv_int hk, sv_int (Nat.eq_of_beq_eq_true h4), h6]
noncomputable def sknB (v : sT) : Bool := match v with
  | .elem (.arg a) _ => Nat.beq a 1348 || (Nat.beq a 100 || Nat.beq a 102)
  | _ => false
theorem sknB_k {v : sT} (h : sknB v = true) : sk v = 0 := by
  unfold sknB at h
  split at h
  · next a i =>
    rcases Bool.or_eq_true _ _ ▸ h with h | h
    · rw [Nat.eq_of_beq_eq_true h]
      rfl
    · rcases Bool.or_eq_true _ _ ▸ h with h | h
      · rw [Nat.eq_of_beq_eq_true h]
        rfl
      · rw [Nat.eq_of_beq_eq_true h]
        rfl
  · cases h
noncomputable def sknA (F : sFs) (v : sT) : sT := bif Nat.beq (ttag v) 0 && (sknR (tpn v) && Nat.beq (sk v) 0) then sknow F v else (bif Nat.beq (ttag v) 10 && sknB v then sknE v F else v)
theorem sknA_ok {X : pX} {ρ : sR} {F : sFs} (hF : fok X ρ F) (v : sT) : sv X ρ (sknA F v) = sv X ρ v := by
  unfold sknA
  cases h : (Nat.beq (ttag v) 0 && (sknR (tpn v) && Nat.beq (sk v) 0)) with
  | false =>
    cases h2 : (Nat.beq (ttag v) 10 && sknB v) with
    | false => rfl
    | true =>
      simp only [Bool.and_eq_true] at h2
      exact sknE_ok (sknB_k h2.2) F hF.2
  | true =>
    simp only [Bool.and_eq_true] at h
    exact sknow_ok hF (Nat.eq_of_beq_eq_true h.2.2)
noncomputable def sgetf (F : sFs) (ci j : Nat) (G : sH) (sl : Nat) (st : List sT) : Option sO := match st with
  | .index k :: r => match hget G k with
    | some (.inr o) => if o.1 = ci then match lget o.2 j with
      | some v => some (.inl (sknA F v :: r, G, sl))
      | none => none
      else none
    | _ => none
  | _ => none
/-- a place as the facts give it -/
noncomputable def sknI (F : sFs) (i : sT) : sT := match sC1 i with
  | some _ => i
  | none => if sk i = 0 then snrm F (sknow F i) else i
theorem sknI_ok {X : pX} {ρ : sR} {F : sFs} (hF : fok X ρ F) {i : sT} (hk : sk i = 0) : (sd X ρ (sknI F i)).1 = (sd X ρ i).1 := by
  unfold sknI
  split
  · rfl
  · rw [if_pos hk, snrm_d hF]
    unfold sknow
    split
    · next h =>
      have h1 := sivl_ok hF i
      rw [sn_i hk] at h1
      show Int32.ofInt (sivl F i).1 = _
      rw [show (sivl F i).1 = (sd X ρ i).1.toInt by omega, Int32.ofInt_toInt]
    · rfl
noncomputable def sald_ (K : sK) (F : sFs) (t0 t1 : Nat) (G : sH) (sl : Nat) (st : List sT) : Option sO := match st with
  | i :: .index k :: r => match hget G k with
    | some (.inl a) => if (t0 ≤ a.1 ∧ a.1 < t1) ∧ sin F i a.2.1 = true then match ssel K F a.2.2.1 (sknI F i) a.2.2.2 with
      | .inl v => some (.inl (sknA F v :: r, G, sl))
      | .inr c => some (.inr c)
      else none
    | _ => none
  | _ => none
noncomputable def siald (K : sK) (F : sFs) (G : sH) (sl : Nat) (st : List sT) : Option sO := match st with
  | i :: .string _ x :: r => match K.1 x with
    | some n => if sin F i n = true then match sC1 (sknI F i), K.2.1 x with
      | some p, some l => some (.inl (.int (l.getD p.1.toNatClampNeg 0) :: r, G, sl))
      | _, _ => some (.inl (.elem (.string "" x) i :: r, G, sl))
      else none
    | none => if x = 0 ∧ sk i = 0 ∧ 0 ≤ (sivl F i).1 then match sdec F (2, i, .length (.string "" 0)) with
      | some true => some (.inl (sknow F (.elem (.string "" 0) i) :: r, G, sl))
      | some false => none
      | none => some (.inr (2, i, .length (.string "" 0)))
      else none
  | _ => sald_ K F 0 1 G sl st
/-- does the value lie there already -/
noncomputable def ssame (K : sK) (F : sFs) (base i v : sT) (ups : List (sT × sT)) : Bool := match ssel K F base i ups with
  | .inl w => tqe w v
  | .inr _ => false
/-- an array that is given place by place wants a number: which one to ask for -/
noncomputable def snum (F : sFs) (base i : sT) : Option sQ := match base with
  | .arg _ => none
  | .old _ => none
  | _ => match sC1 (sknI F i) with
    | some _ => none
    | none => some (0, i, .int (Int32.ofInt (sivl F i).1))
noncomputable def sast_ (K : sK) (F : sFs) (t : Nat) (G : sH) (sl : Nat) (k : Nat) (i v : sT) (r : List sT) : Option sO := match hget G k with
  | some (.inl a) => if a.1 = t ∧ sin F i a.2.1 = true then (if ssame K F a.2.2.1 (sknI F i) v a.2.2.2 = true then some (.inl (r, G, sl)) else match snum F a.2.2.1 i with
    | some c => some (.inr c)
    | none => some (.inl (r, hset G k (some (.inl (t, a.2.1, a.2.2.1, sups a.2.2.2 (sknI F i) v))), sl))) else none
  | _ => none
noncomputable def siast (K : sK) (F : sFs) (k0 t : Nat) (G : sH) (sl : Nat) (st : List sT) : Option sO := match st with
  | v :: i :: .index k :: r => if sk v = k0 then sast_ K F t G sl k i v r else none
  | _ => none
noncomputable def szast (K : sK) (F : sFs) (G : sH) (sl : Nat) (st : List sT) : Option sO := match st with
  | v :: i :: .index k :: r => if sk v = 0 ∧ (0 ≤ (sivl F v).1 ∧ (sivl F v).2 ≤ 1) then sast_ K F 2 G sl k i v r else none
  | _ => none
noncomputable def saast (K : sK) (F : sFs) (ci : Nat) (G : sH) (sl : Nat) (st : List sT) : Option sO := match st with
  | .index v :: i :: .index k :: r => match hget G v with
    | some (.inr o) => if o.1 = ci then sast_ K F 5 G sl k i (.index v) r else none
    | _ => none
  | _ => none
noncomputable def snewa (t : Nat) (base : sT) (G : sH) (sl : Nat) (st : List sT) : Option sO := match st with
  | n :: r => if sk n = 0 then match sC1 n with
    | some p => if pm_in p.1 67000 = true then some (.inl (.index G.2 :: r, hpush G (some (.inl (t, p.1.toNatClampNeg, base, []))), sl + p.1.toNatClampNeg)) else none
    | none => none
    else none
  | _ => none
noncomputable def smna (t : Nat) (G : sH) (sl : Nat) (st : List sT) : Option sO := match st with
  | k :: n :: r => if sk k = 0 ∧ sk n = 0 then match sC1 k, sC1 n with
    | some kp, some np => if t < 2 ∧ pm_in np.1 1000 = true ∧ pm_in kp.1 67000 = true then
        some (.inl (.index G.2 :: r, happ (some (.inl (t, kp.1.toNatClampNeg, if t = 0 then .int 0 else .long 0, []))) np.1.toNatClampNeg (hpush G (some (.inl (t + 3, np.1.toNatClampNeg, .null, (List.range np.1.toNatClampNeg).map (fun i => (.int (Int32.ofNat i), .index (G.2 + 1 + i))))))), sl + np.1.toNatClampNeg + np.1.toNatClampNeg * kp.1.toNatClampNeg))
      else none
    | _, _ => none
    else none
  | _ => none
/-- System.arraycopy of a known number of places: where they lie -/
noncomputable def cidx (p : sT) (i : Nat) : sT := if i = 0 then p else mkA 0 p (.int (Int32.ofNat i))
noncomputable def cok (F : sFs) (p : sT) (n len : Nat) : Bool := decide (len ≤ 100000) && (Nat.ble n 200 && (if n = 0 then sin F p (len + 1) else (List.range n).all (fun i => sin F (cidx p i) len)))
noncomputable def scpyR (K : sK) (F : sFs) (base : sT) (ups : List (sT × sT)) (sp : sT) : Nat → Option (List sT)
  | 0 => some []
  | n + 1 => match scpyR K F base ups sp n with
    | some l => match ssel K F base (sknI F (cidx sp n)) ups with
      | .inl v => some (v :: l)
      | .inr _ => none
    | none => none
noncomputable def scpyW (F : sFs) (dp : sT) : List sT → List (sT × sT) → List (sT × sT)
  | [], ups => ups
  | v :: l, ups => sups (scpyW F dp l ups) (sknI F (cidx dp l.length)) v
noncomputable def scpy (K : sK) (F : sFs) (G : sH) (sl : Nat) (st : List sT) : Option sO := match st with
  | n :: dp :: .index a :: sp :: .index b :: r => if sk n = 0 then match sC1 (sknow F n) with
    | some p => match hget G a, hget G b with
      | some (.inl d), some (.inl e) => if (d.1 = e.1 ∧ d.1 < 2) ∧ pm_in p.1 200 = true ∧ cok F sp p.1.toNatClampNeg e.2.1 = true ∧ cok F dp p.1.toNatClampNeg d.2.1 = true ∧ (r.map (fun t => if sk t = 1 then 2 else 1)).sum ≤ 8 then match scpyR K F e.2.2.1 e.2.2.2 sp p.1.toNatClampNeg with
        | some l => if l.all (fun v => sk v == d.1) = true then some (.inl (r, hset G a (some (.inl (d.1, d.2.1, d.2.2.1, scpyW F dp l d.2.2.2))), sl)) else none
        | none => none
        else none
      | _, _ => none
    | none => some (.inr (0, n, .int (Int32.ofInt (sivl F n).1)))
    else none
  | _ => none
noncomputable def shop (K : sK) (F : sFs) (Ft : Nat → Nat → FieldType) (dfl : Nat → Nat × List Value) (ins : Instr) (r1 r2 : Nat) (r3 : Int) (st : List sT) (G : sH) (sl : Nat) : Option sO := match ins with
  | .getfield _ => sgetf F r1 r2 G sl st
  | .putfield _ => sputf F r1 r2 (Ft r1 r2) G sl st
  | .arraylength => salen K G sl st
  | .iaload => siald K F G sl st
  | .laload => sald_ K F 1 2 G sl st
  | .baload => sald_ K F 2 3 G sl st
  | .aaload => sald_ K F 3 6 G sl st
  | .iastore => siast K F 0 0 G sl st
  | .lastore => siast K F 1 1 G sl st
  | .bastore => szast K F G sl st
  | .aastore => saast K F r1 G sl st
  | .new _ => if r3 = 0 ∧ (dfl r1).2.all vtk = true ∧ K.2.2.2 = true then some (.inl (.index G.2 :: st, hpush G (some (.inr (r1, (dfl r1).2.map vt))), sl + (dfl r1).1)) else none
  | .newarray a => match pm_atype a with
    | some q => if vtk q.2 = true ∧ K.2.2.2 = true then snewa q.1 (vt q.2) G sl st else none
    | none => none
  | .anewarray _ => if K.2.2.2 = true then snewa 5 .null G sl st else none
  | .multianewarray _ _ => if K.2.2.2 = true then smna r1 G sl st else none
  | .invokestatic _ => if r3 = 7 then scpy K F G sl st else none
  | .getstatic _ => some (.inl (.string "" r1 :: st, G, sl))
  | .ldc _ => some (.inl (.int (Int32.ofInt r3) :: st, G, sl))
  | .ldc_w _ => some (.inl (.int (Int32.ofInt r3) :: st, G, sl))
  | .ldc2_w _ => some (.inl (.long (Int64.ofInt r3) :: st, G, sl))
  | _ => none
section SHOP
variable {X : pX} {ρ : sR} {K : sK} {F : sFs} {st st' : List sT} {sG sG' : sH} {sl sl' : Nat} {G : pH}
theorem sgetf_ok (hF : fok X ρ F) (hR : HR X ρ sG G) {ci j : Nat} (h : sgetf F ci j sG sl st = some (.inl (st', sG', sl'))) : (pm_getf ci j G (dS X ρ st) = some (dS X ρ st')) ∧ sG' = sG ∧ sl' = sl := by
  unfold sgetf at h
  split at h
  · next k r =>
    split at h
    · next o ho =>
      split at h
      · next hc =>
        split at h
        · next v hv =>
          rw [lget_eq] at hv
          cases h
          refine ⟨?_, rfl, rfl⟩
          show pm_getf ci j G (.ref k :: dS X ρ r) = _
          simp only [pm_getf, hR.obj ho]
          rw [if_pos hc, List.getElem?_map, hv]
          show some (sv X ρ v :: dS X ρ r) = some (sv X ρ (sknA F v) :: dS X ρ r)
          rw [sknA_ok hF]
        · cases h
      · cases h
    · cases h
  · cases h
theorem sputf_ok (hF : fok X ρ F) (hR : HR X ρ sG G) {ci j : Nat} {ty : FieldType} (h : sputf F ci j ty sG sl st = some (.inl (st', sG', sl'))) : ∃ G' : pH, pm_putf ci j ty G (dS X ρ st) = some (dS X ρ st', G') ∧ HR X ρ sG' G' ∧ sl' = sl := by
  unfold sputf at h
  split at h
  · next v k r =>
    split at h
    · next o ho =>
      split at h
      · next hc =>
        split at h
        · next l hl =>
          cases h
          obtain ⟨g1, g2⟩ := lset_ok hl
          subst g2
          have h1 := hR.obj ho
          refine ⟨G.set k (some (.inr (ci, (o.2.map (sv X ρ)).set j (sv X ρ v)))), ?_, hR.set (List.getElem?_eq_some_iff.mp h1).1 (hget_lt ho) ?_, rfl⟩
          · show pm_putf ci j ty G (sv X ρ v :: .ref k :: dS X ρ _) = _
            simp only [pm_putf, h1]
            rw [if_pos ⟨hc.1, by rw [List.length_map]; exact g1, sfit_ok hF hc.2⟩]
          · show _ = (ci, (o.2.set j v).map (sv X ρ))
            rw [List.map_set]
        · cases h
      · cases h
    · cases h
  · cases h
theorem salen_ok (hK : kok X ρ K) (hR : HR X ρ sG G) (h : salen K sG sl st = some (.inl (st', sG', sl'))) : (pm_alen X G (dS X ρ st) = some (dS X ρ st')) ∧ sG' = sG ∧ sl' = sl := by
  unfold salen at h
  split at h
  · next k r =>
    split at h
    · next a ha =>
      split at h
      · next hc =>
        cases h
        refine ⟨?_, rfl, rfl⟩
        obtain ⟨f, h1, -⟩ := hR.arr ha
        show pm_alen X G (.ref k :: dS X ρ r) = _
        simp only [pm_alen, h1]
        rw [if_pos hc]
        rfl
      · cases h
    · cases h
  · next s i r =>
    split at h
    · next n hn =>
      cases h
      refine ⟨?_, rfl, rfl⟩
      obtain ⟨f, h1⟩ := hK.1 i n hn
      show pm_alen X G (.retAddr i :: dS X ρ r) = _
      simp only [pm_alen, h1]
      rfl
    · split at h
      · next hi =>
        subst hi
        cases h
        refine ⟨?_, rfl, rfl⟩
        obtain ⟨n, f, h1, -⟩ := hK.2.1.2
        show pm_alen X G (.retAddr 0 :: dS X ρ r) = some (sv X ρ (.length (.string "" 0)) :: dS X ρ r)
        rw [sv_int (t := .length (.string "" 0)) rfl]
        simp only [pm_alen, h1, sd]
      · cases h
  · cases h
theorem sald_at (hF : fok X ρ F) (hK : kok X ρ K) (hR : HR X ρ sG G) {t0 t1 : Nat} (h : sald_ K F t0 t1 sG sl st = some (.inl (st', sG', sl'))) : ∃ (i : sT) (k : Nat) (r : List sT) (a : Nat × Nat × (Nat → Value)) (v : sT), st = i :: .index k :: r ∧ sk i = 0 ∧ G[k]? = some (some (.inl a)) ∧ (t0 ≤ a.1 ∧ a.1 < t1) ∧ pm_in (sd X ρ i).1 a.2.1 = true ∧ a.2.2 (sd X ρ i).1.toNatClampNeg = sv X ρ v ∧ st' = v :: r ∧ sG' = sG ∧ sl' = sl := by
  unfold sald_ at h
  split at h
  · next i k r =>
    split at h
    · next a ha =>
      split at h
      · next hc =>
        split at h
        · next v hv =>
          cases h
          obtain ⟨f, h1, h2, h3⟩ := hR.arr ha
          obtain ⟨k1, k2, k3, k4⟩ := sin_ok (X := X) (ρ := ρ) hF hc.2
          exact ⟨i, k, r, (a.1, a.2.1, f), sknA F v, rfl, k1, h1, hc.1, k2, by show f _ = _; rw [h2 _ k4]; have e9 := sknI_ok (X := X) (ρ := ρ) hF k1; have h9 := ssel_ok hF hK (by rw [e9]; exact k3) _ v h3 hv; rw [e9] at h9; exact h9.symm.trans (sknA_ok hF v).symm, rfl, rfl, rfl⟩
        · cases h
      · cases h
    · cases h
  · cases h
theorem sald_ok1 (hF : fok X ρ F) (hK : kok X ρ K) (hR : HR X ρ sG G) {t : Nat} (h : sald_ K F t (t + 1) sG sl st = some (.inl (st', sG', sl'))) : (pm_ald t G (dS X ρ st) = some (dS X ρ st')) ∧ sG' = sG ∧ sl' = sl := by
  obtain ⟨i, k, r, a, v, rfl, h1, h2, h3, h4, h5, rfl, rfl, rfl⟩ := sald_at hF hK hR h
  refine ⟨?_, rfl, rfl⟩
  show pm_ald t G (sv X ρ i :: .ref k :: dS X ρ r) = some (sv X ρ v :: dS X ρ r)
  rw [sv_int h1]
  simp only [pm_ald, h2]
  rw [if_pos ⟨by omega, h4⟩, h5]
theorem sald_okA (hF : fok X ρ F) (hK : kok X ρ K) (hR : HR X ρ sG G) (h : sald_ K F 3 6 sG sl st = some (.inl (st', sG', sl'))) : (pm_aald G (dS X ρ st) = some (dS X ρ st')) ∧ sG' = sG ∧ sl' = sl := by
  obtain ⟨i, k, r, a, v, rfl, h1, h2, h3, h4, h5, rfl, rfl, rfl⟩ := sald_at hF hK hR h
  refine ⟨?_, rfl, rfl⟩
  show pm_aald G (sv X ρ i :: .ref k :: dS X ρ r) = some (sv X ρ v :: dS X ρ r)
  rw [sv_int h1]
  simp only [pm_aald, h2]
  rw [if_pos ⟨h3, h4⟩, h5]
theorem siald_ok (hF : fok X ρ F) (hK : kok X ρ K) (hR : HR X ρ sG G) (h : siald K F sG sl st = some (.inl (st', sG', sl'))) : (pm_iald X G (dS X ρ st) = some (dS X ρ st')) ∧ sG' = sG ∧ sl' = sl := by
  unfold siald at h
  split at h
  · next i s x r =>
    split at h
    · next n hn =>
      split at h
      · next hc =>
        obtain ⟨k1, k2, k3, k4⟩ := sin_ok (X := X) (ρ := ρ) hF hc
        obtain ⟨f, hf⟩ := hK.1 x n hn
        have key : pm_iald X G (dS X ρ (i :: .string s x :: r)) = some (.int (f (sd X ρ i).1.toNatClampNeg) :: dS X ρ r) := by
          show pm_iald X G (sv X ρ i :: .retAddr x :: dS X ρ r) = _
          rw [sv_int k1]
          simp only [pm_iald, hf]
          rw [if_pos k2]
        split at h
        · next p l hp hl =>
          cases h
          refine ⟨?_, rfl, rfl⟩
          rw [key]
          obtain ⟨n2, f2, h1, h2⟩ := hK.2.1.1 x l hl
          cases hf.symm.trans h1
          rw [← sknI_ok hF k1, sC1_ok hp, h2]
          rfl
        · cases h
          refine ⟨?_, rfl, rfl⟩
          rw [key]
          show _ = some (sv X ρ (.elem (.string "" x) i) :: dS X ρ r)
          rw [sv_int (t := .elem (.string "" x) i) rfl]
          simp only [sd, hf]
      · cases h
    · split at h
      · next hc =>
        obtain ⟨rfl, hk, hp⟩ := hc
        split at h
        · next hd =>
          cases h
          refine ⟨?_, rfl, rfl⟩
          obtain ⟨n, f, h1, hn⟩ := hK.2.1.2
          have h2 := sivl_ok hF i
          rw [sn_i hk] at h2
          have h3 : decide ((sd X ρ i).1 < (sd X ρ (.length (.string "" 0))).1) = true := sdec_ok hF hd
          have h4 := Int32.lt_iff_toInt_lt.mp (of_decide_eq_true h3)
          simp only [sd, h1] at h4
          rw [Int32.toInt_ofNat_of_lt (by omega)] at h4
          show pm_iald X G (sv X ρ i :: .retAddr 0 :: dS X ρ r) = some (sv X ρ (sknow F (.elem (.string "" 0) i)) :: dS X ρ r)
          rw [sknow_ok hF rfl, sv_int hk, sv_int (t := .elem (.string "" 0) i) rfl]
          simp only [pm_iald, h1, sd]
          rw [if_pos ?_]
          unfold pm_in
          rw [decide_eq_false (s_nn (by omega)), decide_eq_true (by rw [s_nat]; omega)]
          rfl
        · cases h
        · cases h
      · cases h
  · next hne =>
    obtain ⟨i, k, r, a, v, rfl, h1, h2, h3, h4, h5, rfl, rfl, rfl⟩ := sald_at hF hK hR h
    refine ⟨?_, rfl, rfl⟩
    show pm_iald X G (sv X ρ i :: .ref k :: dS X ρ r) = some (sv X ρ v :: dS X ρ r)
    rw [sv_int h1]
    simp only [pm_iald, pm_ald, h2]
    rw [if_pos ⟨by omega, h4⟩, h5]
theorem sast_at (hF : fok X ρ F) (hK : kok X ρ K) (hR : HR X ρ sG G) {t k : Nat} {i v : sT} {r : List sT} (h : sast_ K F t sG sl k i v r = some (.inl (st', sG', sl'))) : ∃ G' : pH, pm_ast t G k (sd X ρ i).1 (sv X ρ v) (dS X ρ r) = some (dS X ρ st', G') ∧ sk i = 0 ∧ HR X ρ sG' G' ∧ sl' = sl := by
  unfold sast_ at h
  split at h
  · next a ha =>
    split at h
    · next hc =>
      obtain ⟨f, h1, h2, h3⟩ := hR.arr ha
      obtain ⟨k1, k2, k3, k4⟩ := sin_ok (X := X) (ρ := ρ) hF hc.2
      have hast : pm_ast t G k (sd X ρ i).1 (sv X ρ v) (dS X ρ r) = some (dS X ρ r, G.set k (some (.inl (t, a.2.1, pm_upd f (sd X ρ i).1.toNatClampNeg (sv X ρ v))))) := by
        simp only [pm_ast, h1]
        rw [if_pos ⟨hc.1, k2⟩]
      split at h
      · next hsame =>
        cases h
        refine ⟨_, hast, k1, ?_, rfl⟩
        unfold ssame at hsame
        split at hsame
        · next w hw =>
          have e9 := tqe_ok _ _ hsame
          subst e9
          have g1 := ssel_ok hF hK (i := sknI F i) (by rw [sknI_ok hF k1]; exact k3) _ w h3 hw
          rw [sknI_ok hF k1] at g1
          have hkl := (List.getElem?_eq_some_iff.mp h1).1
          refine ⟨by rw [List.length_set]; exact hR.1, fun q e hq => ?_, by rw [List.length_set]; exact hR.2.2.1, fun q hq hl => by rw [List.getElem?_set_ne (fun e9 => by rw [← e9, ha] at hq; cases hq)]; exact hR.2.2.2 q hq hl⟩
          by_cases hkq : k = q
          · subst hkq
            rw [ha] at hq
            cases hq
            refine ⟨_, List.getElem?_set_self hkl, hc.1, rfl, fun j hj => ?_, h3⟩
            show pm_upd f _ _ j = _
            unfold pm_upd
            split
            · next hj2 => rw [hj2, g1]
            · exact h2 j hj
          · rw [List.getElem?_set_ne hkq]
            exact hR.2.1 q e hq
        · cases hsame
      split at h
      · cases h
      cases h
      refine ⟨_, hast, k1, hR.set (List.getElem?_eq_some_iff.mp h1).1 (hget_lt ha) ⟨rfl, rfl, fun j hj => ?_, fun u hu => ?_⟩, rfl⟩
      · show pm_upd f _ _ j = aden X ρ a.2.2.1 (sups a.2.2.2 (sknI F i) v) j
        rw [sups_ok, sknI_ok hF k1]
        unfold pm_upd
        split
        · rfl
        · exact h2 j hj
      · rcases List.mem_cons.mp hu with rfl | hu
        · rw [sknI_ok hF k1]; exact k3
        · exact h3 u (List.mem_filter.mp hu).1
    · cases h
  · cases h
theorem siast_i (hF : fok X ρ F) (hK : kok X ρ K) (hR : HR X ρ sG G) (h : siast K F 0 0 sG sl st = some (.inl (st', sG', sl'))) : ∃ G' : pH, pm_iast G (dS X ρ st) = some (dS X ρ st', G') ∧ HR X ρ sG' G' ∧ sl' = sl := by
  unfold siast at h
  split at h
  · next v i k r =>
    split at h
    · next hk =>
      obtain ⟨G', h1, h2, h3, h4⟩ := sast_at hF hK hR h
      refine ⟨G', ?_, h3, h4⟩
      show pm_iast G (sv X ρ v :: sv X ρ i :: .ref k :: dS X ρ r) = _
      rw [sv_int hk] at h1
      rw [sv_int hk, sv_int h2]
      exact h1
    · cases h
  · cases h
theorem siast_l (hF : fok X ρ F) (hK : kok X ρ K) (hR : HR X ρ sG G) (h : siast K F 1 1 sG sl st = some (.inl (st', sG', sl'))) : ∃ G' : pH, pm_last G (dS X ρ st) = some (dS X ρ st', G') ∧ HR X ρ sG' G' ∧ sl' = sl := by
  unfold siast at h
  split at h
  · next v i k r =>
    split at h
    · next hk =>
      obtain ⟨G', h1, h2, h3, h4⟩ := sast_at hF hK hR h
      refine ⟨G', ?_, h3, h4⟩
      show pm_last G (sv X ρ v :: sv X ρ i :: .ref k :: dS X ρ r) = _
      rw [sv_long hk] at h1
      rw [sv_long hk, sv_int h2]
      exact h1
    · cases h
  · cases h
theorem szast_ok (hF : fok X ρ F) (hK : kok X ρ K) (hR : HR X ρ sG G) (h : szast K F sG sl st = some (.inl (st', sG', sl'))) : ∃ G' : pH, pm_zast G (dS X ρ st) = some (dS X ρ st', G') ∧ HR X ρ sG' G' ∧ sl' = sl := by
  unfold szast at h
  split at h
  · next v i k r =>
    split at h
    · next hk =>
      obtain ⟨G', h1, h2, h3, h4⟩ := sast_at hF hK hR h
      refine ⟨G', ?_, h3, h4⟩
      have h5 := sivl_ok hF v
      rw [sn_i hk.1] at h5
      have h6 : narrow .boolean (.int (sd X ρ v).1) = .int (sd X ρ v).1 := by
        rcases s_01 (x := (sd X ρ v).1) (by omega) (by omega) with h7 | h7
        · rw [h7]; decide
        · rw [h7]; decide
      show pm_zast G (sv X ρ v :: sv X ρ i :: .ref k :: dS X ρ r) = _
      rw [sv_int hk.1] at h1
      rw [sv_int hk.1, sv_int h2]
      simp only [pm_zast, h6]
      exact h1
    · cases h
  · cases h
theorem saast_ok (hF : fok X ρ F) (hK : kok X ρ K) (hR : HR X ρ sG G) {ci : Nat} (h : saast K F ci sG sl st = some (.inl (st', sG', sl'))) : ∃ G' : pH, pm_aast ci G (dS X ρ st) = some (dS X ρ st', G') ∧ HR X ρ sG' G' ∧ sl' = sl := by
  unfold saast at h
  split at h
  · next v i k r =>
    split at h
    · next o ho =>
      split at h
      · next hc =>
        obtain ⟨G', h1, h2, h3, h4⟩ := sast_at hF hK hR h
        refine ⟨G', ?_, h3, h4⟩
        show pm_aast ci G (.ref v :: sv X ρ i :: .ref k :: dS X ρ r) = _
        rw [sv_int h2]
        simp only [pm_aast, hR.obj ho]
        rw [if_pos hc]
        exact h1
      · cases h
    · cases h
  · cases h
theorem snewa_at (hR : HR X ρ sG G) (h0 : rC ρ = 0) {t : Nat} {base : sT} {b : Value} (hb : ∀ j, bden X ρ base j = b) (h : snewa t base sG sl st = some (.inl (st', sG', sl'))) : ∃ (n : Int32) (r : List sT), dS X ρ st = .int n :: dS X ρ r ∧ pm_in n 67000 = true ∧ dS X ρ st' = .ref G.length :: dS X ρ r ∧ sl' = sl + n.toNatClampNeg ∧ HR X ρ sG' (G ++ [some (.inl (t, n.toNatClampNeg, fun _ => b))]) := by
  unfold snewa at h
  split at h
  · next n r =>
    split at h
    · next hk =>
      split at h
      · next p hp =>
        split at h
        · next hc =>
          cases h
          refine ⟨p.1, r, ?_, hc, ?_, rfl, hR.push h0 ⟨rfl, rfl, fun j _ => (hb j).symm, fun u hu => by cases hu⟩⟩
          · show sv X ρ n :: _ = _
            rw [sv_int hk, sC1_ok hp]; rfl
          · show Value.ref sG.2 :: _ = _
            rw [show sG.2 = G.length by have := hR.1; omega]; rfl
        · cases h
      · cases h
    · cases h
  · cases h
theorem smna_ok (hR : HR X ρ sG G) (h0 : rC ρ = 0) {t : Nat} (h : smna t sG sl st = some (.inl (st', sG', sl'))) : ∃ G' : pH, pm_mna t G sl (dS X ρ st) = some (dS X ρ st', G', sl') ∧ HR X ρ sG' G' := by
  have e1 : sG.2 = G.length := by have := hR.1; omega
  unfold smna at h
  split at h
  · next k n r =>
    split at h
    · next hk =>
      split at h
      · next kp np hkp hnp =>
        split at h
        · next hc =>
          cases h
          refine ⟨(G ++ [some (.inl (t + 3, np.1.toNatClampNeg, fun i => if i < np.1.toNatClampNeg then .ref (G.length + 1 + i) else .null))]) ++ List.replicate np.1.toNatClampNeg (some (.inl (t, kp.1.toNatClampNeg, fun _ => if t = 0 then .int 0 else .long 0))), ?_, ?_⟩
          · show pm_mna t G sl (sv X ρ k :: sv X ρ n :: dS X ρ r) = some (Value.ref sG.2 :: dS X ρ r, _, _)
            rw [sv_int hk.1, sv_int hk.2, sC1_ok hkp, sC1_ok hnp]
            simp only [pm_mna]
            rw [if_pos hc, e1]
          · have hn1 := (pm_in_ok hc.2.1).2
            have c2 : CR X ρ (.inl (t, kp.1.toNatClampNeg, if t = 0 then .int 0 else .long 0, [])) (.inl (t, kp.1.toNatClampNeg, fun _ => if t = 0 then .int 0 else .long 0)) := by
              refine ⟨rfl, rfl, fun j _ => ?_, fun u hu => by cases hu⟩
              show (if t = 0 then Value.int 0 else .long 0) = bden X ρ (if t = 0 then .int 0 else .long 0) j
              split <;> rfl
            have c1 : CR X ρ (.inl (t + 3, np.1.toNatClampNeg, .null, (List.range np.1.toNatClampNeg).map (fun i => (.int (Int32.ofNat i), .index (sG.2 + 1 + i))))) (.inl (t + 3, np.1.toNatClampNeg, fun i => if i < np.1.toNatClampNeg then .ref (G.length + 1 + i) else .null)) := by
              refine ⟨rfl, rfl, fun j hj => ?_, fun u hu => ?_⟩
              · have hj : j < np.1.toNatClampNeg := hj
                show (if j < np.1.toNatClampNeg then Value.ref (G.length + 1 + j) else .null) = _
                rw [if_pos hj]
                have go : ∀ (m s : Nat), s ≤ j → j < s + m → s + m ≤ 1000 → aden X ρ .null ((List.range' s m).map (fun i => (Jvm.Term.int (Int32.ofNat i), Jvm.Term.index (sG.2 + 1 + i)))) j = .ref (sG.2 + 1 + j) := by
                  intro m
                  induction m with
                  | zero => intro s h1 h2; omega
                  | succ m ih =>
                    intro s h1 h2 h3
                    rw [List.range'_succ, List.map_cons]
                    have e9 : (Int32.ofNat s).toNatClampNeg = s := by
                      rw [s_nat, Int32.toInt_ofNat_small (by omega)]
                      omega
                    show (if (Int32.ofNat s).toNatClampNeg = j then _ else _) = _
                    rw [e9]
                    by_cases hs : s = j
                    · rw [if_pos hs, hs]; rfl
                    · rw [if_neg hs]
                      exact ih (s + 1) (by omega) (by omega) (by omega)
                have := go np.1.toNatClampNeg 0 (Nat.zero_le _) (by omega) (by omega)
                rw [← List.range_eq_range'] at this
                show _ = aden X ρ .null _ j
                rw [this, e1]
              · obtain ⟨i, hi, rfl⟩ := List.mem_map.mp hu
                have hi := List.mem_range.mp hi
                show ¬ Int32.ofNat i < 0
                refine s_nn ?_
                rw [Int32.toInt_ofNat_small (by omega)]
                omega
            exact HR.app h0 c2 _ (HR.push hR h0 c1)
        · cases h
      · cases h
    · cases h
  · cases h
theorem cidx_ok (hF : fok X ρ F) {p : sT} {n len : Nat} (h : cok F p n len = true) : sk p = 0 ∧ ¬ (sd X ρ p).1 < 0 ∧ (sd X ρ p).1.toNatClampNeg + n ≤ len ∧ ∀ i, i < n → sk (cidx p i) = 0 ∧ ¬ (sd X ρ (cidx p i)).1 < 0 ∧ (sd X ρ (cidx p i)).1.toNatClampNeg = (sd X ρ p).1.toNatClampNeg + i := by
  simp only [cok, Bool.and_eq_true, decide_eq_true_eq] at h
  obtain ⟨hl, hn0, h⟩ := h
  have hn0 := Nat.le_of_ble_eq_true hn0
  by_cases hn : n = 0
  · rw [if_pos hn] at h
    obtain ⟨k1, k2, k3, k4⟩ := sin_ok (X := X) (ρ := ρ) hF h
    exact ⟨k1, k3, by omega, fun i hi => by omega⟩
  · rw [if_neg hn, List.all_eq_true] at h
    have hs : ∀ i, i < n → _ := fun i hi => sin_ok (X := X) (ρ := ρ) hF (h i (List.mem_range.mpr hi))
    obtain ⟨k1, k2, k3, k4⟩ := hs 0 (by omega)
    have ep : cidx p 0 = p := rfl
    rw [ep] at k1 k2 k3 k4
    have hp0 : 0 ≤ (sd X ρ p).1.toInt := Int32.le_iff_toInt_le.mp (Int32.not_lt.mp k3)
    have e0 : ∀ i, i < n → (sd X ρ (cidx p i)).1.toNatClampNeg = (sd X ρ p).1.toNatClampNeg + i := fun i hi => by
      by_cases hi0 : i = 0
      · rw [hi0]; rfl
      · have h1 : (sd X ρ (cidx p i)).1 = (sd X ρ p).1 + Int32.ofNat i := by
          refine sv_d ?_
          unfold cidx
          rw [if_neg hi0, mkA_i]
          rfl
        have h2 : (Int32.ofNat i).toInt = i := Int32.toInt_ofNat_small (by omega)
        rw [s_nat] at k4
        rw [h1, s_nat, s_nat, s_add (by rw [h2]; omega) (by rw [h2]; omega), h2]
        omega
    refine ⟨k1, k3, ?_, fun i hi => ⟨(hs i hi).1, (hs i hi).2.2.1, e0 i hi⟩⟩
    have h9 := (hs (n - 1) (by omega)).2.2.2
    rw [e0 (n - 1) (by omega)] at h9
    omega
theorem scpyR_ok (hF : fok X ρ F) (hK : kok X ρ K) {base dbase sp dp : sT} {ups dups : List (sT × sT)} {SP DP : Nat} (hu : ∀ u ∈ ups, ¬ (sd X ρ u.1).1 < 0) (hdu : ∀ u ∈ dups, ¬ (sd X ρ u.1).1 < 0) : ∀ (n : Nat) (l : List sT), (∀ i, i < n → sk (cidx sp i) = 0 ∧ ¬ (sd X ρ (cidx sp i)).1 < 0 ∧ (sd X ρ (cidx sp i)).1.toNatClampNeg = SP + i) → (∀ i, i < n → sk (cidx dp i) = 0 ∧ ¬ (sd X ρ (cidx dp i)).1 < 0 ∧ (sd X ρ (cidx dp i)).1.toNatClampNeg = DP + i) → scpyR K F base ups sp n = some l → l.length = n ∧ (∀ i, i < n → ∃ v ∈ l, sv X ρ v = aden X ρ base ups (SP + i)) ∧ (∀ j, aden X ρ dbase (scpyW F dp l dups) j = va_cpy (aden X ρ base ups) (aden X ρ dbase dups) SP DP n j) ∧ ∀ u ∈ scpyW F dp l dups, ¬ (sd X ρ u.1).1 < 0
  | 0, l, _, _, h => by
    cases h
    refine ⟨rfl, fun i hi => by omega, fun j => ?_, hdu⟩
    unfold va_cpy
    rw [if_neg (by omega)]
    rfl
  | n + 1, l, h1, h2, h => by
    unfold scpyR at h
    split at h
    · next l0 hl0 =>
      split at h
      · next v hv =>
        cases h
        obtain ⟨g1, g2, g3, g4⟩ := scpyR_ok (dbase := dbase) (dp := dp) (DP := DP) hF hK hu hdu n l0 (fun i hi => h1 i (by omega)) (fun i hi => h2 i (by omega)) hl0
        obtain ⟨a1, a2, a3⟩ := h1 n (by omega)
        obtain ⟨b1, b2, b3⟩ := h2 n (by omega)
        have e9 := sknI_ok (X := X) (ρ := ρ) hF a1
        have h9 := ssel_ok hF hK (i := sknI F (cidx sp n)) (by rw [e9]; exact a2) _ v hu hv
        rw [e9, a3] at h9
        have e8 := sknI_ok (X := X) (ρ := ρ) hF b1
        refine ⟨by rw [List.length_cons, g1], fun i hi => ?_, fun j => ?_, fun u hu' => ?_⟩
        · by_cases hi2 : i < n
          · obtain ⟨w, hw, hw2⟩ := g2 i hi2
            exact ⟨w, List.mem_cons_of_mem _ hw, hw2⟩
          · rw [show i = n by omega]
            exact ⟨v, List.mem_cons_self, h9⟩
        · show aden X ρ dbase (sups (scpyW F dp l0 dups) (sknI F (cidx dp l0.length)) v) j = _
          rw [sups_ok, g1, e8, b3, g3 j]
          unfold va_cpy
          by_cases hj : j = DP + n
          · rw [if_pos hj, if_pos (by omega), h9, show SP + (j - DP) = SP + n by omega]
          · rw [if_neg hj]
            by_cases hj2 : DP ≤ j ∧ j < DP + n
            · rw [if_pos hj2, if_pos (by omega)]
            · rw [if_neg hj2, if_neg (by omega)]
        · have hu' : u ∈ sups (scpyW F dp l0 dups) (sknI F (cidx dp l0.length)) v := hu'
          rcases List.mem_cons.mp hu' with rfl | hu'
          · rw [g1, e8]; exact b2
          · exact g4 u (List.mem_filter.mp hu').1
      · cases h
    · cases h
theorem scpy_ok (hF : fok X ρ F) (hK : kok X ρ K) (hR : HR X ρ sG G) (h : scpy K F sG sl st = some (.inl (st', sG', sl'))) : ∃ G' : pH, pm_cpy G (dS X ρ st) = some (dS X ρ st', G') ∧ HR X ρ sG' G' ∧ sl' = sl := by
  unfold scpy at h
  split at h
  · next n dp a sp b r =>
    split at h
    · next hk =>
      split at h
      · next p hp =>
        split at h
        · next d e hd he =>
          split at h
          · next hc =>
            obtain ⟨hc1, hc2, hc3, hc4, hc5⟩ := hc
            split at h
            · next l hl =>
              split at h
              · next hall =>
                cases h
                obtain ⟨f, f1, f2, f3⟩ := hR.arr hd
                obtain ⟨g, g1, g2, g3⟩ := hR.arr he
                obtain ⟨p1, p2, p3, p4⟩ := cidx_ok (X := X) (ρ := ρ) hF hc3
                obtain ⟨q1, q2, q3, q4⟩ := cidx_ok (X := X) (ρ := ρ) hF hc4
                obtain ⟨r1, r2, r3, r4⟩ := scpyR_ok (dbase := d.2.2.1) hF hK g3 f3 _ l p4 q4 hl
                have hn : (sd X ρ n).1 = p.1 := by
                  have e1 := sC1_ok (X := X) (ρ := ρ) hp
                  have e2 := sknow_ok (X := X) (ρ := ρ) (F := F) hF hk
                  rw [sv_int hk] at e2
                  have e3 := sv_d e2
                  rw [e1] at e3
                  exact e3.symm
                have hn0 : ¬ p.1 < 0 := by
                  simp only [pm_in, Bool.and_eq_true, Bool.not_eq_true', decide_eq_false_iff_not] at hc2
                  exact hc2.1
                refine ⟨G.set a (some (.inl (d.1, d.2.1, va_cpy g f (sd X ρ sp).1.toNatClampNeg (sd X ρ dp).1.toNatClampNeg p.1.toNatClampNeg))), ?_, hR.set (List.getElem?_eq_some_iff.mp f1).1 (hget_lt hd) ⟨rfl, rfl, fun j hj => ?_, r4⟩, rfl⟩
                · show pm_cpy G (sv X ρ n :: sv X ρ dp :: .ref a :: sv X ρ sp :: .ref b :: dS X ρ st') = some (dS X ρ st', _)
                  rw [sv_int hk, sv_int q1, sv_int p1, hn]
                  simp only [pm_cpy, f1, g1]
                  rw [if_pos]
                  refine ⟨hc1, ⟨p2, q2, hn0⟩, ⟨p3, q3⟩, ?_, ?_⟩
                  · rw [List.all_eq_true]
                    intro i hi
                    obtain ⟨v, hv, hv2⟩ := r2 i (List.mem_range.mp hi)
                    have hi := List.mem_range.mp hi
                    rw [g2 _ (by omega), ← hv2]
                    have hkv := List.all_eq_true.mp hall v hv
                    simp only [beq_iff_eq] at hkv
                    have hd2 : d.1 = 0 ∨ d.1 = 1 := by omega
                    rcases hd2 with h0 | h0
                    · rw [h0] at hkv ⊢; rw [sv_int hkv]; rfl
                    · rw [h0] at hkv ⊢; rw [sv_long hkv]; rfl
                  · have e1 : (dS X ρ st').map (fun v => v.category) = st'.map (fun t => if sk t = 1 then 2 else 1) := by
                      unfold dS
                      rw [List.map_map]
                      exact List.map_congr_left (fun t _ => sv_cat X ρ t)
                    rw [e1]
                    exact hc5
                · show va_cpy g f _ _ _ j = aden X ρ d.2.2.1 (scpyW F dp l d.2.2.2) j
                  rw [r3 j]
                  unfold va_cpy
                  split
                  · next hj2 => exact g2 _ (by omega)
                  · exact f2 j hj
              · cases h
            · cases h
          · cases h
        · cases h
      · cases h
    · cases h
  · cases h
theorem shop_ok (hF : fok X ρ F) (hK : kok X ρ K) (hR : HR X ρ sG G) {Ft : Nat → Nat → FieldType} {dfl : Nat → Nat × List Value} {ins : Instr} {r1 r2 : Nat} {r3 : Int} (h : shop K F Ft dfl ins r1 r2 r3 st sG sl = some (.inl (st', sG', sl'))) : ∃ G' : pH, pm_hop X Ft dfl ins r1 r2 r3 (dS X ρ st) G (sl + rS ρ) = some (dS X ρ st', G', sl' + rS ρ) ∧ HR X ρ sG' G' := by
  cases ins <;> simp only [shop] at h
  case getfield =>
    obtain ⟨h1, rfl, rfl⟩ := sgetf_ok hF hR h
    exact ⟨G, by simp only [pm_hop, h1], hR⟩
  case putfield =>
    obtain ⟨G', h1, h2, rfl⟩ := sputf_ok hF hR h
    exact ⟨G', by simp only [pm_hop, h1], h2⟩
  case arraylength =>
    obtain ⟨h1, rfl, rfl⟩ := salen_ok hK hR h
    exact ⟨G, by simp only [pm_hop, h1], hR⟩
  case iaload =>
    obtain ⟨h1, rfl, rfl⟩ := siald_ok hF hK hR h
    exact ⟨G, by simp only [pm_hop, h1], hR⟩
  case laload =>
    obtain ⟨h1, rfl, rfl⟩ := sald_ok1 hF hK hR h
    exact ⟨G, by simp only [pm_hop, h1], hR⟩
  case baload =>
    obtain ⟨h1, rfl, rfl⟩ := sald_ok1 hF hK hR h
    exact ⟨G, by simp only [pm_hop, h1], hR⟩
  case aaload =>
    obtain ⟨h1, rfl, rfl⟩ := sald_okA hF hK hR h
    exact ⟨G, by simp only [pm_hop, h1], hR⟩
  case iastore =>
    obtain ⟨G', h1, h2, rfl⟩ := siast_i hF hK hR h
    exact ⟨G', by simp only [pm_hop, h1], h2⟩
  case lastore =>
    obtain ⟨G', h1, h2, rfl⟩ := siast_l hF hK hR h
    exact ⟨G', by simp only [pm_hop, h1], h2⟩
  case bastore =>
    obtain ⟨G', h1, h2, rfl⟩ := szast_ok hF hK hR h
    exact ⟨G', by simp only [pm_hop, h1], h2⟩
  case aastore =>
    obtain ⟨G', h1, h2, rfl⟩ := saast_ok hF hK hR h
    exact ⟨G', by simp only [pm_hop, h1], h2⟩
  case new =>
    split at h
    · next hc =>
      cases h
      obtain ⟨h0, hz⟩ := hK.2.2.2 hc.2.2
      have e1 : sG.2 = G.length := by have := hR.1; omega
      have e9 : ((dfl r1).2.map vt).map (sv X ρ) = (dfl r1).2 := by
        rw [List.map_map]
        conv => rhs; rw [← List.map_id (dfl r1).2]
        apply List.map_congr_left
        intro v hv
        exact vt_ok X ρ (List.all_eq_true.mp hc.2.1 v hv)
      refine ⟨G ++ [some (.inr (r1, (dfl r1).2))], ?_, hR.push h0 ?_⟩
      · rw [hz, Nat.add_zero, Nat.add_zero]
        simp only [pm_hop]
        rw [if_pos hc.1]
        show some (Value.ref G.length :: _, _, _) = some (Value.ref sG.2 :: _, _, _)
        rw [e1]; rfl
      · show _ = (r1, ((dfl r1).2.map vt).map (sv X ρ))
        rw [e9]
    · cases h
  case newarray a =>
    split at h
    · next q hq =>
      split at h
      · next hv =>
        obtain ⟨hv, hx⟩ := hv
        obtain ⟨h0, hz⟩ := hK.2.2.2 hx
        have hb : ∀ j, bden X ρ (vt q.2) j = q.2 := fun j => by
          have h9 := vt_ok X ρ hv
          cases h8 : q.2 <;> rw [h8] at h9 hv <;> first | (cases hv; done) | exact h9
        obtain ⟨n, r, h1, h2, h3, h4, h5⟩ := snewa_at hR h0 hb h
        refine ⟨_, ?_, h5⟩
        rw [hz, Nat.add_zero, Nat.add_zero]
        simp only [pm_hop, pm_newa, h1, hq]
        rw [if_pos h2, h3, h4]
      · cases h
    · cases h
  case anewarray =>
    split at h
    · next hx =>
      obtain ⟨h0, hz⟩ := hK.2.2.2 hx
      obtain ⟨n, r, h1, h2, h3, h4, h5⟩ := snewa_at (b := .null) hR h0 (fun j => rfl) h
      refine ⟨_, ?_, h5⟩
      rw [hz, Nat.add_zero, Nat.add_zero]
      simp only [pm_hop, pm_anew, h1]
      rw [if_pos h2, h3, h4]
    · cases h
  case multianewarray =>
    split at h
    · next hx =>
      obtain ⟨h0, hz⟩ := hK.2.2.2 hx
      obtain ⟨G', h1, h2⟩ := smna_ok hR h0 h
      refine ⟨G', ?_, h2⟩
      rw [hz, Nat.add_zero, Nat.add_zero]
      simp only [pm_hop, h1]
    · cases h
  case invokestatic =>
    split at h
    · next h7 =>
      obtain ⟨G', h1, h2, rfl⟩ := scpy_ok hF hK hR h
      refine ⟨G', ?_, h2⟩
      simp only [pm_hop, h1]
      rw [if_pos h7]
    · cases h
  case getstatic => cases h; exact ⟨G, rfl, hR⟩
  case ldc => cases h; exact ⟨G, rfl, hR⟩
  case ldc_w => cases h; exact ⟨G, rfl, hR⟩
  case ldc2_w => cases h; exact ⟨G, rfl, hR⟩
  all_goals (cases h)
end SHOP
