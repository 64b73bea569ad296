/-! ===== quick looks: is it the same term, the same fact ===== -/
/-- a fact that stands there -/
noncomputable def qfind (c : sQ) : sFs → Option Bool
  | [] => none
  | f :: r => bif qqe f.1 c then some f.2 else qfind c r
theorem qfind_ok {X : pX} {ρ : sR} {c : sQ} {b : Bool} : ∀ {F : sFs}, fall X ρ F → qfind c F = some b → sc X ρ c = b
  | [], _, h => by cases h
  | f :: r, hF, h => by
    unfold qfind at h
    cases hq : qqe f.1 c with
    | true =>
      rw [hq] at h
      cases h
      rw [← qqe_ok hq]
      exact hF f List.mem_cons_self
    | false =>
      rw [hq] at h
      exact qfind_ok (fun g hg => hF g (List.mem_cons_of_mem _ hg)) h
noncomputable def qmem (c : sQ) (v : Bool) (F : sFs) : Bool := match qfind c F with
  | some b => b == v
  | none => false
theorem qmem_ok {X : pX} {ρ : sR} {F : sFs} (hF : fall X ρ F) {c : sQ} {v : Bool} (h : qmem c v F = true) : sc X ρ c = v := by
  unfold qmem at h
  split at h
  · next b hb =>
    rw [qfind_ok hF hb]
    simpa using h
  · cases h
/-- lists of facts that are the same -/
noncomputable def fqe : sFs → sFs → Bool
  | [], [] => true
  | f :: r, g :: s => qqe f.1 g.1 && ((f.2 == g.2) && fqe r s)
  | _, _ => false
theorem fqe_ok : ∀ {F G : sFs}, fqe F G = true → F = G
  | [], [], _ => rfl
  | [], g :: s, h => by cases h
  | f :: r, [], h => by cases h
  | f :: r, g :: s, h => by
    simp only [fqe, Bool.and_eq_true, beq_iff_eq] at h
    obtain ⟨f1, f2⟩ := f
    obtain ⟨g1, g2⟩ := g
    have e1 := qqe_ok h.1
    have e2 := h.2.1
    dsimp only at e1 e2
    rw [e1, e2, fqe_ok h.2.2]
/-- do two conditions speak of one thing -/
noncomputable def qrel (c d : sQ) : Bool := (match sC1 c.2.1 with
  | some _ => false
  | none => tocc c.2.1 d.2.1 || (tocc c.2.1 d.2.2 || (tocc d.2.1 c.2.1 || tocc d.2.2 c.2.1))) || (match sC1 c.2.2 with
  | some _ => false
  | none => tocc c.2.2 d.2.1 || (tocc c.2.2 d.2.2 || (tocc d.2.1 c.2.2 || tocc d.2.2 c.2.2)))
/-! numbers put together -/
noncomputable def tf2 (o : Binary) (a b : sT) : sT := match sC1 a, sC1 b with
  | some p, some q => if sk2 o = 1 then .long (s2 o p q).2 else .int (s2 o p q).1
  | _, _ => .op2 o a b
noncomputable def tf1 (o : Unary) (a : sT) : sT := match sC1 a with
  | some p => if sk1 o = 1 then .long (s1 o p).2 else .int (s1 o p).1
  | none => .op1 o a
noncomputable def tfA (k : Nat) (a b : sT) : sT := match sC1 a, sC1 b with
  | some p, some q => .int (sar k p.1 q.1)
  | _, _ => stm k a b
noncomputable def tfold : sT → sT
  | .add a b => tfA 0 (tfold a) (tfold b)
  | .sub a b => tfA 1 (tfold a) (tfold b)
  | .mul a b => tfA 2 (tfold a) (tfold b)
  | .op2 o a b => tf2 o (tfold a) (tfold b)
  | .op1 o a => tf1 o (tfold a)
  | t => t
theorem s2_kind (o : Binary) (p q : Int32 × Int64) : (if sk2 o = 1 then ((0 : Int32), (s2 o p q).2) else ((s2 o p q).1, (0 : Int64))) = s2 o p q := by
  cases o <;> rfl
theorem s1_kind (o : Unary) (p : Int32 × Int64) : (if sk1 o = 1 then ((0 : Int32), (s1 o p).2) else ((s1 o p).1, (0 : Int64))) = s1 o p := by
  cases o <;> rfl
theorem tf2_d {X : pX} {ρ : sR} {o : Binary} {a b : sT} : sd X ρ (tf2 o a b) = s2 o (sd X ρ a) (sd X ρ b) := by
  unfold tf2
  split
  · next p q hp hq =>
    rw [sC1_ok hp, sC1_ok hq, ← s2_kind]
    split <;> rfl
  · rfl
theorem tf1_d {X : pX} {ρ : sR} {o : Unary} {a : sT} : sd X ρ (tf1 o a) = s1 o (sd X ρ a) := by
  unfold tf1
  split
  · next p hp =>
    rw [sC1_ok hp, ← s1_kind]
    split <;> rfl
  · rfl
theorem tfA_d {X : pX} {ρ : sR} {k : Nat} {a b : sT} (hk : k < 3) : sd X ρ (tfA k a b) = (sar k (sd X ρ a).1 (sd X ρ b).1, 0) := by
  unfold tfA
  split
  · next p q hp hq => rw [sC1_ok hp, sC1_ok hq]; rfl
  · match k, hk with
    | 0, _ => rfl
    | 1, _ => rfl
    | 2, _ => rfl
theorem tfold_d {X : pX} {ρ : sR} : ∀ t : sT, sd X ρ (tfold t) = sd X ρ t := by
  intro t
  induction t with
  | add a b iha ihb => simp only [tfold]; rw [tfA_d (by decide), iha, ihb]; rfl
  | sub a b iha ihb => simp only [tfold]; rw [tfA_d (by decide), iha, ihb]; rfl
  | mul a b iha ihb => simp only [tfold]; rw [tfA_d (by decide), iha, ihb]; rfl
  | op2 o a b iha ihb => simp only [tfold]; rw [tf2_d, iha, ihb]; rfl
  | op1 o a iha => simp only [tfold]; rw [tf1_d, iha]; rfl
  | _ => rfl
/-- the same when its numbers are put together -/
noncomputable def teqF (a b : sT) : Bool := (sk a == sk b && Nat.blt (sk a) 2) && tqe (tfold a) (tfold b)
theorem teqF_ok {X : pX} {ρ : sR} {a b : sT} (h : teqF a b = true) : sv X ρ a = sv X ρ b := by
  simp only [teqF, Bool.and_eq_true, beq_iff_eq] at h
  obtain ⟨⟨h1, h2⟩, h3⟩ := h
  have e := tqe_ok _ _ h3
  have e2 : sd X ρ a = sd X ρ b := by rw [← tfold_d a, e, tfold_d]
  have h2 : sk a < 2 := Nat.blt_eq.mp h2
  by_cases h0 : sk a = 0
  · rw [sv_int h0, sv_int (h1 ▸ h0), e2]
  · have h9 : sk a = 1 := by omega
    rw [sv_long h9, sv_long (h1 ▸ h9), e2]
/-! what is not above what, by the facts one after the other (k: 2 ints, 8 longs) -/
/-- what is not below x by one fact -/
noncomputable def osuc (F : sFs) (k : Nat) (x : sT) : List sT := @List.rec (sQ × Bool) (fun _ => List sT) [] (fun f _ ih => @Bool.rec (fun _ => List sT) (@Bool.rec (fun _ => List sT) ih (@Bool.rec (fun _ => List sT) (@Bool.rec (fun _ => List sT) ih (f.1.2.1 :: ih) (tqe f.1.2.2 x)) (f.1.2.2 :: ih) (tqe f.1.2.1 x)) (Nat.beq (Nat.add f.1.1 2) k && f.2)) (@Bool.rec (fun _ => List sT) (@Bool.rec (fun _ => List sT) ih (f.1.2.1 :: ih) (tqe f.1.2.2 x)) (@Bool.rec (fun _ => List sT) ih (f.1.2.2 :: ih) (tqe f.1.2.1 x)) f.2) (Nat.beq f.1.1 k)) F
noncomputable def ole (F : sFs) (k : Nat) : Nat → sT → sT → Bool
  | 0, x, y => tqe x y
  | n + 1, x, y => tqe x y || (osuc F k x).any (fun s => ole F k n s y)
noncomputable def ov (X : pX) (ρ : sR) (k : Nat) (t : sT) : Int := if k = 8 then (sd X ρ t).2.toInt else (sd X ρ t).1.toInt
theorem ov_lt {X : pX} {ρ : sR} {k : Nat} (hk : k = 2 ∨ k = 8) (a b : sT) : sc X ρ (k, a, b) = decide (ov X ρ k a < ov X ρ k b) := by
  rcases hk with rfl | rfl
  · exact decide_eq_decide.mpr Int32.lt_iff_toInt_lt
  · exact decide_eq_decide.mpr Int64.lt_iff_toInt_lt
theorem ov_eq {X : pX} {ρ : sR} {j k : Nat} (hj : j + 2 = k) (hk : k = 2 ∨ k = 8) {a b : sT} (h : sc X ρ (j, a, b) = true) : ov X ρ k a = ov X ρ k b := by
  rcases hk with rfl | rfl
  · have e : j = 0 := by omega
    subst e
    have h : decide ((sd X ρ a).1 = (sd X ρ b).1) = true := h
    show (sd X ρ a).1.toInt = (sd X ρ b).1.toInt
    rw [of_decide_eq_true h]
  · have e : j = 6 := by omega
    subst e
    have h : decide ((sd X ρ a).2 = (sd X ρ b).2) = true := h
    show (sd X ρ a).2.toInt = (sd X ρ b).2.toInt
    rw [of_decide_eq_true h]
theorem osuc_ok {X : pX} {ρ : sR} {k : Nat} (hk : k = 2 ∨ k = 8) {x t : sT} : ∀ {F : sFs}, fall X ρ F → t ∈ osuc F k x → ov X ρ k x ≤ ov X ρ k t
  | [], _, h => by cases h
  | ((j, a, b), v) :: r, hF, h => by
    have hr : fall X ρ r := fun f hf => hF f (List.mem_cons_of_mem _ hf)
    have h1 : sc X ρ (j, a, b) = v := hF _ List.mem_cons_self
    have ih : t ∈ osuc r k x → ov X ρ k x ≤ ov X ρ k t := osuc_ok hk hr
    have e : osuc (((j, a, b), v) :: r) k x = @Bool.rec (fun _ => List sT) (@Bool.rec (fun _ => List sT) (osuc r k x) (@Bool.rec (fun _ => List sT) (@Bool.rec (fun _ => List sT) (osuc r k x) (a :: osuc r k x) (tqe b x)) (b :: osuc r k x) (tqe a x)) (Nat.beq (Nat.add j 2) k && v)) (@Bool.rec (fun _ => List sT) (@Bool.rec (fun _ => List sT) (osuc r k x) (a :: osuc r k x) (tqe b x)) (@Bool.rec (fun _ => List sT) (osuc r k x) (b :: osuc r k x) (tqe a x)) v) (Nat.beq j k) := rfl
    rw [e] at h
    cases hj : Nat.beq j k with
    | true =>
      have ej := Nat.eq_of_beq_eq_true hj
      subst ej
      rw [hj] at h
      rw [ov_lt hk] at h1
      cases v with
      | true =>
        dsimp only at h
        cases ht : tqe a x with
        | false => rw [ht] at h; exact ih h
        | true =>
          rw [ht] at h
          rcases List.mem_cons.mp h with q | q
          · have h2 := of_decide_eq_true h1
            rw [q, ← tqe_ok _ _ ht]
            omega
          · exact ih q
      | false =>
        dsimp only at h
        cases ht : tqe b x with
        | false => rw [ht] at h; exact ih h
        | true =>
          rw [ht] at h
          rcases List.mem_cons.mp h with q | q
          · have h2 := of_decide_eq_false h1
            rw [q, ← tqe_ok _ _ ht]
            omega
          · exact ih q
    | false =>
      rw [hj] at h
      dsimp only at h
      cases hq : (Nat.beq (Nat.add j 2) k && v) with
      | false => rw [hq] at h; exact ih h
      | true =>
        rw [hq] at h
        rw [Bool.and_eq_true] at hq
        have ej : j + 2 = k := Nat.eq_of_beq_eq_true hq.1
        rw [hq.2] at h1
        have eo := ov_eq ej hk h1
        dsimp only at h
        cases ht : tqe a x with
        | true =>
          rw [ht] at h
          rcases List.mem_cons.mp h with q | q
          · rw [q, ← tqe_ok _ _ ht]
            omega
          · exact ih q
        | false =>
          rw [ht] at h
          dsimp only at h
          cases hu : tqe b x with
          | false => rw [hu] at h; exact ih h
          | true =>
            rw [hu] at h
            rcases List.mem_cons.mp h with q | q
            · rw [q, ← tqe_ok _ _ hu]
              omega
            · exact ih q
theorem ole_ok {X : pX} {ρ : sR} {F : sFs} {k : Nat} (hk : k = 2 ∨ k = 8) (hF : fall X ρ F) : ∀ (n : Nat) (x y : sT), ole F k n x y = true → ov X ρ k x ≤ ov X ρ k y
  | 0, x, y, h => by rw [tqe_ok _ _ h]; exact Int.le_refl _
  | n + 1, x, y, h => by
    have ih := ole_ok hk hF n
    unfold ole at h
    simp only [Bool.or_eq_true, List.any_eq_true] at h
    rcases h with h | ⟨t, ht, h⟩
    · rw [tqe_ok _ _ h]; exact Int.le_refl _
    · exact Int.le_trans (osuc_ok hk hF ht) (ih _ _ h)
noncomputable def odec (F : sFs) (c : sQ) : Option Bool := bif Nat.beq c.1 2 || Nat.beq c.1 8 then (bif ole F c.1 3 c.2.2 c.2.1 then some false else bif F.any (fun f => Nat.beq f.1.1 c.1 && (f.2 && (ole F c.1 2 c.2.1 f.1.2.1 && ole F c.1 2 f.1.2.2 c.2.2))) then some true else none) else none
theorem odec_ok {X : pX} {ρ : sR} {F : sFs} (hF : fall X ρ F) {c : sQ} {v : Bool} (h : odec F c = some v) : sc X ρ c = v := by
  obtain ⟨k, a, b⟩ := c
  unfold odec at h
  dsimp only at h
  cases hk : Nat.beq k 2 || Nat.beq k 8 with
  | false => rw [hk] at h; cases h
  | true =>
    rw [hk] at h
    have hk' : k = 2 ∨ k = 8 := by
      simp only [Bool.or_eq_true] at hk
      rcases hk with e | e
      · exact Or.inl (Nat.eq_of_beq_eq_true e)
      · exact Or.inr (Nat.eq_of_beq_eq_true e)
    rw [ov_lt hk']
    cases h1 : ole F k 3 b a with
    | true =>
      rw [h1] at h
      cases h
      have := ole_ok hk' hF 3 b a h1
      exact decide_eq_false (by omega)
    | false =>
      rw [h1] at h
      cases h2 : F.any (fun f => Nat.beq f.1.1 k && (f.2 && (ole F k 2 a f.1.2.1 && ole F k 2 f.1.2.2 b))) with
      | false => rw [h2] at h; cases h
      | true =>
        rw [h2] at h
        cases h
        obtain ⟨f, hf, h3⟩ := List.any_eq_true.mp h2
        have h4 := hF f hf
        obtain ⟨⟨j, x, y⟩, w⟩ := f
        simp only [Bool.and_eq_true] at h3
        obtain ⟨e1, e2, e3, e4⟩ := h3
        have ej := Nat.eq_of_beq_eq_true e1
        subst ej
        dsimp only at h4
        rw [e2, ov_lt hk'] at h4
        have g1 := ole_ok hk' hF 2 _ _ e3
        have g2 := ole_ok hk' hF 2 _ _ e4
        have g3 := of_decide_eq_true h4
        exact decide_eq_true (by omega)
/-! sums of longs -/
noncomputable def wlins (q : sT × Int64) : List (sT × Int64) → List (sT × Int64)
  | [] => [q]
  | u :: r => bif tqe q.1 u.1 then (u.1, u.2 + q.2) :: r else u :: wlins q r
noncomputable def wlsum (X : pX) (ρ : sR) : List (sT × Int64) → Int64
  | [] => 0
  | q :: r => q.2 * (sd X ρ q.1).2 + wlsum X ρ r
noncomputable def wlneg (l : List (sT × Int64) × Int64) : List (sT × Int64) × Int64 := (l.1.map (fun q => (q.1, -q.2)), -l.2)
noncomputable def wlmulc (c : Int64) (l : List (sT × Int64) × Int64) : List (sT × Int64) × Int64 := (l.1.map (fun q => (q.1, c * q.2)), c * l.2)
noncomputable def wladds (a b : List (sT × Int64) × Int64) : List (sT × Int64) × Int64 := (a.1.foldr wlins b.1, a.2 + b.2)
noncomputable def wllin : sT → List (sT × Int64) × Int64
  | .long v => ([], v)
  | .op2 o a b => (match o with
    | .ladd => wladds (wllin a) (wllin b)
    | .lsub => wladds (wllin a) (wlneg (wllin b))
    | .lmul => (match b with
      | .long c => wlmulc c (wllin a)
      | _ => ([(.op2 .lmul a b, 1)], 0))
    | o => ([(.op2 o a b, 1)], 0))
  | .op1 o a => (match o with
    | .lneg => wlneg (wllin a)
    | o => ([(.op1 o a, 1)], 0))
  | t => ([(t, 1)], 0)
noncomputable def wlval (X : pX) (ρ : sR) (l : List (sT × Int64) × Int64) : Int64 := wlsum X ρ l.1 + l.2
theorem wlins_ok {X : pX} {ρ : sR} (q : sT × Int64) : ∀ l : List (sT × Int64), wlsum X ρ (wlins q l) = q.2 * (sd X ρ q.1).2 + wlsum X ρ l
  | [] => rfl
  | u :: r => by
    unfold wlins
    cases hq : tqe q.1 u.1 with
    | true =>
      simp only [cond_true, wlsum]
      rw [tqe_ok _ _ hq]
      grind
    | false =>
      simp only [cond_false, wlsum]
      rw [wlins_ok q r]
      grind
theorem wlneg_ok {X : pX} {ρ : sR} (l : List (sT × Int64) × Int64) : wlval X ρ (wlneg l) = - wlval X ρ l := by
  obtain ⟨l, c⟩ := l
  have h : wlsum X ρ (l.map (fun q => (q.1, -q.2))) = - wlsum X ρ l := by
    induction l with
    | nil => show (0 : Int64) = -0; grind
    | cons q r ih => simp only [List.map_cons, wlsum]; rw [ih]; grind
  show wlsum X ρ (l.map (fun q => (q.1, -q.2))) + -c = -(wlsum X ρ l + c)
  rw [h]
  grind
theorem wlmulc_ok {X : pX} {ρ : sR} (c : Int64) (l : List (sT × Int64) × Int64) : wlval X ρ (wlmulc c l) = c * wlval X ρ l := by
  obtain ⟨l, d⟩ := l
  have h : wlsum X ρ (l.map (fun q => (q.1, c * q.2))) = c * wlsum X ρ l := by
    induction l with
    | nil => show (0 : Int64) = c * 0; grind
    | cons q r ih => simp only [List.map_cons, wlsum]; rw [ih]; grind
  show wlsum X ρ (l.map (fun q => (q.1, c * q.2))) + c * d = c * (wlsum X ρ l + d)
  rw [h]
  grind
theorem wladds_ok {X : pX} {ρ : sR} (a b : List (sT × Int64) × Int64) : wlval X ρ (wladds a b) = wlval X ρ a + wlval X ρ b := by
  obtain ⟨l, c⟩ := a
  obtain ⟨m, e⟩ := b
  have h : wlsum X ρ (l.foldr wlins m) = wlsum X ρ l + wlsum X ρ m := by
    induction l with
    | nil => show wlsum X ρ m = 0 + wlsum X ρ m; grind
    | cons q r ih => simp only [List.foldr_cons, wlsum]; rw [wlins_ok, ih]; grind
  show wlsum X ρ (l.foldr wlins m) + (c + e) = (wlsum X ρ l + c) + (wlsum X ρ m + e)
  rw [h]
  grind
theorem wlatom {X : pX} {ρ : sR} (t : sT) : (sd X ρ t).2 = wlval X ρ ([(t, 1)], 0) := by
  show (sd X ρ t).2 = (1 * (sd X ρ t).2 + 0) + 0
  grind
theorem wllin_ok {X : pX} {ρ : sR} : ∀ t : sT, (sd X ρ t).2 = wlval X ρ (wllin t) := by
  intro t
  induction t with
  | long v => show v = 0 + v; grind
  | op2 o a b iha ihb =>
    cases o with
    | ladd => show (sd X ρ a).2 + (sd X ρ b).2 = wlval X ρ (wladds (wllin a) (wllin b)); rw [wladds_ok, iha, ihb]
    | lsub => show (sd X ρ a).2 - (sd X ρ b).2 = wlval X ρ (wladds (wllin a) (wlneg (wllin b))); rw [wladds_ok, wlneg_ok, iha, ihb]; grind
    | lmul =>
      cases b with
      | long c => show (sd X ρ a).2 * c = wlval X ρ (wlmulc c (wllin a)); rw [wlmulc_ok, iha]; grind
      | _ => exact wlatom _
    | _ => exact wlatom _
  | op1 o a iha =>
    cases o with
    | lneg => show -(sd X ρ a).2 = wlval X ρ (wlneg (wllin a)); rw [wlneg_ok, iha]
    | _ => exact wlatom _
  | _ => exact wlatom _
/-- the same sum of longs -/
noncomputable def tlin (a b : sT) : Bool := (sk a == 1 && sk b == 1) && (let d := wladds (wllin a) (wlneg (wllin b)); d.1.all (fun q => Nat.beq q.2.toBitVec.toNat 0) && Nat.beq d.2.toBitVec.toNat 0)
theorem wlzero {v : Int64} (h : Nat.beq v.toBitVec.toNat 0 = true) : v = 0 := Int64.toBitVec_inj.mp (BitVec.eq_of_toNat_eq (Nat.eq_of_beq_eq_true h))
theorem tlin_ok {X : pX} {ρ : sR} {a b : sT} (h : tlin a b = true) : sv X ρ a = sv X ρ b := by
  simp only [tlin, Bool.and_eq_true, beq_iff_eq, List.all_eq_true] at h
  obtain ⟨⟨h1, h2⟩, h3, h4⟩ := h
  have hs : ∀ l : List (sT × Int64), (∀ q ∈ l, Nat.beq q.2.toBitVec.toNat 0 = true) → wlsum X ρ l = 0 := by
    intro l
    induction l with
    | nil => intro _; rfl
    | cons q r ih =>
      intro hl
      simp only [wlsum]
      rw [ih (fun x hx => hl x (List.mem_cons_of_mem _ hx)), wlzero (hl q List.mem_cons_self)]
      grind
  have e : wlval X ρ (wladds (wllin a) (wlneg (wllin b))) = 0 := by
    show wlsum X ρ _ + _ = 0
    rw [hs _ h3, wlzero h4]
    grind
  rw [wladds_ok, wlneg_ok, ← wllin_ok, ← wllin_ok] at e
  have e2 : (sd X ρ a).2 = (sd X ρ b).2 := by grind
  rw [sv_long h1, sv_long h2, e2]
