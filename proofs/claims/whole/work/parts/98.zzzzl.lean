set_option maxRecDepth 200000
/-! ===== the fresh objects are such a state: nearly all of it is 0 ===== -/
noncomputable def iN (i : Nat) : Int32 := bif ([1294, 18112, 18144, 18176, 18208, 18240, 18272, 18304, 18336, 20832, 20864, 20896, 20928] : List Nat).contains i then -1 else bif Nat.beq i 59744 then 1 else 0
noncomputable def iA (a j : Nat) : Int32 := match kR.2.2.1 a with
  | some l => Int32.ofInt (l.getD j 0)
  | none => bif ([1380, 1412, 1572, 1604, 1764, 1796, 1956, 1988] : List Nat).contains a then 255 else 0
noncomputable def iL (a j : Nat) : Int64 := match kR.2.2.1 a with
  | some l => Int64.ofInt (l.getD j 0)
  | none => 0
noncomputable def rI (ρ : sR) : sR := (fun i => bif Nat.beq i 1286 then ρ.1 0 else iN i, fun _ => 0, iA, iL, ρ.2.2.2.2)
noncomputable def rC0 : sR := (iN, fun _ => 0, iA, iL, [], 0, 0)
noncomputable def pX0 : pX := fun _ => none
noncomputable def clP (t : sT) : Bool := match t with
  | .int _ => true
  | .long _ => true
  | .null => true
  | .index _ => true
  | .arg i => !(Nat.beq i 1286)
  | .op2 .iand (.op2 .iushr (.arg i) (.int _)) (.int _) => !(Nat.beq i 1286)
  | _ => false
noncomputable def clK (t : sT) : Bool := match t with
  | .int _ => true
  | .long _ => true
  | .null => true
  | .index _ => true
  | _ => false
noncomputable def veq (x y : Value) : Bool := match x, y with
  | .int a, .int b => decide (a = b)
  | .long a, .long b => decide (a = b)
  | .null, .null => true
  | .ref a, .ref b => Nat.beq a b
  | _, _ => false
theorem veq_ok {x y : Value} (h : veq x y = true) : x = y := by
  unfold veq at h
  split at h
  · rw [of_decide_eq_true h]
  · rw [of_decide_eq_true h]
  · rfl
  · rw [Nat.eq_of_beq_eq_true h]
  · cases h
noncomputable def bclP (b : sT) : Bool := match b with
  | .arg _ => true
  | .old (.mul (.sub (.index _) (.index _)) _) => true
  | t => clK t
noncomputable def uclP (u : List (sT × sT)) : Bool := u.all (fun x => (sC1 x.1).isSome && clP x.2)
noncomputable def uclK (u : List (sT × sT)) : Bool := u.all (fun x => (sC1 x.1).isSome && clK x.2)
noncomputable def ulitP (u : List (sT × sT)) : Bool := u.all (fun x => match sC1 x.1 with
  | some p => decide (¬ p.1 < 0)
  | none => false)
noncomputable def itcl (a b : sT) : Bool := (match a with
  | .arg i => Nat.beq i 1286 && (match b with
    | .arg k => Nat.beq k 0
    | _ => false)
  | _ => false) || (clP a && (clK b && veq (sv pX0 rC0 a) (sv pX0 rC0 b)))
noncomputable def ivcl : List sT → List sT → Bool
  | [], [] => true
  | a :: x, b :: y => itcl a b && ivcl x y
  | _, _ => false
noncomputable def eCl (e0 e : sE) : Bool := match e0, e with
  | .inl (t0, n0, b0, u0), .inl (t, n, b, u) => Nat.beq t0 t && (Nat.beq n0 n && (uclP u0 && (bclP b0 && (uclK u && (clK b && (ulitP u0 && ((clK b0 && (decide (b0 = b) && decide (u0 = u))) || (List.range n0).all (fun j => veq (aden pX0 rC0 b0 u0 j) (aden pX0 rC0 b u j)))))))))
  | .inr (c0, v0), .inr (c, v) => Nat.beq c0 c && ivcl v0 v
  | _, _ => false
noncomputable def hCl (G0 G : sH) : Bool := decide (G0.2 = G.2) && (List.range 512).all (fun k => match hget G0 k with
  | none => (hget G k).isNone
  | some e0 => match hget G k with
    | some e => eCl e0 e
    | none => false)
section BEGIN
variable {X : pX} {ρ : sR}
theorem clK_ok {t : sT} (h : clK t = true) : sv X ρ t = sv pX0 rC0 t := by
  unfold clK at h
  split at h <;> first | rfl | (cases h; done)
theorem clP_ok {t : sT} (h : clP t = true) : sv X (rI ρ) t = sv pX0 rC0 t := by
  unfold clP at h
  split at h <;> first | rfl | (cases h; done) | skip
  next i =>
    have hb : Nat.beq i 1286 = false := by simpa using h
    show (if i % 2 = 1 then Value.long 0 else .int (bif Nat.beq i 1286 then ρ.1 0 else iN i)) = (if i % 2 = 1 then Value.long 0 else .int (iN i))
    rw [hb]
    rfl
  next i a b =>
    have hb : Nat.beq i 1286 = false := by simpa using h
    have e : sd X (rI ρ) (.arg i) = sd pX0 rC0 (.arg i) := by
      show ((bif Nat.beq i 1286 then ρ.1 0 else iN i), (0 : Int64)) = (iN i, 0)
      rw [hb, cond_false]
    rw [sv_int rfl, sv_int rfl]
    show Value.int (s2 .iand (s2 .iushr (sd X (rI ρ) (.arg i)) (a, 0)) (b, 0)).1 = Value.int (s2 .iand (s2 .iushr (sd pX0 rC0 (.arg i)) (a, 0)) (b, 0)).1
    rw [e]
theorem bclP_ok {b : sT} {j : Nat} (h : bclP b = true) : bden X (rI ρ) b j = bden pX0 rC0 b j := by
  unfold bclP at h
  split at h
  · rfl
  · rfl
  · next t h1 h2 =>
    unfold clK at h
    split at h <;> first | rfl | (cases h; done)
theorem bclK_ok {b : sT} {j : Nat} (h : clK b = true) : bden X ρ b j = bden pX0 rC0 b j := by
  unfold clK at h
  split at h <;> first | rfl | (cases h; done)
theorem aclP_ok {b : sT} {j : Nat} (hb : bclP b = true) : ∀ {u : List (sT × sT)}, uclP u = true → aden X (rI ρ) b u j = aden pX0 rC0 b u j
  | [], _ => bclP_ok hb
  | x :: r, h => by
    simp only [uclP, List.all_cons, Bool.and_eq_true] at h
    obtain ⟨⟨h1, h2⟩, h3⟩ := h
    obtain ⟨p, hp⟩ := Option.isSome_iff_exists.mp h1
    unfold aden
    rw [sC1_ok (X := X) (ρ := rI ρ) hp, sC1_ok (X := pX0) (ρ := rC0) hp, clP_ok h2, aclP_ok hb (u := r) h3]
theorem aclK_ok {b : sT} {j : Nat} (hb : clK b = true) : ∀ {u : List (sT × sT)}, uclK u = true → aden X ρ b u j = aden pX0 rC0 b u j
  | [], _ => bclK_ok hb
  | x :: r, h => by
    simp only [uclK, List.all_cons, Bool.and_eq_true] at h
    obtain ⟨⟨h1, h2⟩, h3⟩ := h
    obtain ⟨p, hp⟩ := Option.isSome_iff_exists.mp h1
    unfold aden
    rw [sC1_ok (X := X) (ρ := ρ) hp, sC1_ok (X := pX0) (ρ := rC0) hp, clK_ok h2, aclK_ok hb (u := r) h3]
theorem ulitP_nn {ρ' : sR} {u : List (sT × sT)} (h : ulitP u = true) : ∀ x ∈ u, ¬ (sd X ρ' x.1).1 < 0 := fun x hx => by
  have h6 := List.all_eq_true.mp h x hx
  split at h6
  · next p hp =>
    rw [sC1_ok hp]
    exact of_decide_eq_true h6
  · cases h6
theorem itcl_ok {a b : sT} (h : itcl a b = true) : sv X ρ b = sv X (rI ρ) a := by
  unfold itcl at h
  rcases (Bool.or_eq_true _ _).mp h with h | h
  · split at h
    · next i =>
      rw [Bool.and_eq_true] at h
      have e := Nat.eq_of_beq_eq_true h.1
      have h2 := h.2
      split at h2
      · next k =>
        have e2 := Nat.eq_of_beq_eq_true h2
        subst e e2
        rfl
      · cases h2
    · cases h
  · simp only [Bool.and_eq_true] at h
    rw [clP_ok h.1, clK_ok h.2.1, veq_ok h.2.2]
theorem ivcl_ok : ∀ {x y : List sT}, ivcl x y = true → y.map (sv X ρ) = x.map (sv X (rI ρ))
  | [], [], _ => rfl
  | [], _ :: _, h => by cases h
  | _ :: _, [], h => by cases h
  | a :: x, b :: y, h => by
    simp only [ivcl, Bool.and_eq_true] at h
    rw [List.map_cons, List.map_cons, itcl_ok h.1, ivcl_ok h.2]
theorem eCl_ok {e0 e : sE} (hc : eCl e0 e = true) {y : pE} (hy : CR X ρ e y) : CR X (rI ρ) e0 y := by
  unfold eCl at hc
  split at hc
  · next t0 n0 b0 u0 t n b u =>
    simp only [Bool.and_eq_true] at hc
    obtain ⟨h1, h2, h3, h4, h5, h6, h7, h8⟩ := hc
    have e1 := Nat.eq_of_beq_eq_true h1
    have e2 := Nat.eq_of_beq_eq_true h2
    subst e1 e2
    cases y with
    | inr z => exact hy.elim
    | inl z =>
      obtain ⟨q1, q2, q3, q4⟩ := hy
      refine ⟨q1, q2, fun j hj => ?_, ulitP_nn h7⟩
      have q := q3 j hj
      rw [q]
      show aden X ρ b u j = aden X (rI ρ) b0 u0 j
      rw [aclP_ok h4 h3, aclK_ok h6 h5]
      rcases (Bool.or_eq_true _ _).mp h8 with h8 | h8
      · simp only [Bool.and_eq_true, decide_eq_true_eq] at h8
        rw [h8.2.1, h8.2.2]
      · exact (veq_ok (List.all_eq_true.mp h8 j (List.mem_range.mpr hj))).symm
  · next c0 v0 c v =>
    simp only [Bool.and_eq_true] at hc
    have e1 := Nat.eq_of_beq_eq_true hc.1
    subst e1
    cases y with
    | inl z => exact hy.elim
    | inr z =>
      have hy : z = (c0, v.map (sv X ρ)) := hy
      show z = (c0, v0.map (sv X (rI ρ)))
      rw [hy, ivcl_ok hc.2]
  · cases hc
theorem hCl_ok {G0 G : sH} (h : hCl G0 G = true) {H : pH} (hR : HR X ρ G H) : HR X (rI ρ) G0 H := by
  simp only [hCl, Bool.and_eq_true, decide_eq_true_eq, List.all_eq_true] at h
  refine ⟨by rw [h.1]; exact hR.1, fun k e0 hk => ?_, hR.2.2.1, fun k hk hl => hR.2.2.2 k ?_ hl⟩
  · have h5 := h.2 k (List.mem_range.mpr (hget_lt hk))
    rw [hk] at h5
    dsimp only at h5
    split at h5
    · next e he =>
      obtain ⟨y, hy, hc⟩ := hR.2.1 k e he
      exact ⟨y, hy, eCl_ok h5 hc⟩
    · cases h5
  · by_cases h9 : k < 512
    · have h5 := h.2 k (List.mem_range.mpr h9)
      rw [hk] at h5
      simpa using h5
    · rw [hget_def, if_neg h9]
theorem vrng0 {i : Nat} {r : Int × Int} (h : vrng i = some r) : r.1 ≤ 0 ∧ 0 ≤ r.2 := by
  rw [vrng_def] at h
  unfold vrngO at h
  split at h
  · cases h
  · split at h <;> first | (cases h; done) | (cases h; exact ⟨by decide, by decide⟩)
theorem vrngB {i : Nat} {r : Int × Int} (h : vrng i = some r) : 1000 ≤ i := by
  rw [vrng_def] at h
  unfold vrngO at h
  split at h
  · cases h
  · omega
noncomputable def inr_ (x : Int) (o : Option (Int × Int)) : Bool := match o with
  | some r => decide (r.1 ≤ x) && decide (x ≤ r.2)
  | none => true
theorem iN_r : ([1294, 18112, 18144, 18176, 18208, 18240, 18272, 18304, 18336, 20832, 20864, 20896, 20928] : List Nat).all (fun i => inr_ (-1) (vrng i)) = true := by decide +kernel
theorem iA_r : ([1380, 1412, 1572, 1604, 1764, 1796, 1956, 1988] : List Nat).all (fun i => inr_ 255 (vrng i)) = true := by decide +kernel
theorem rI_vok (h1 : ¬ ρ.1 0 < 1) (h8 : ¬ (8 : Int32) < ρ.1 0) : vok X (rI ρ) := by
  constructor
  · intro i r hr
    show r.1 ≤ (if i % 2 = 1 then (0 : Int64).toInt else (bif Nat.beq i 1286 then ρ.1 0 else iN i).toInt) ∧ (if i % 2 = 1 then (0 : Int64).toInt else (bif Nat.beq i 1286 then ρ.1 0 else iN i).toInt) ≤ r.2
    by_cases h7 : i % 2 = 1
    · rw [if_pos h7]; exact vrng0 hr
    · rw [if_neg h7]
      cases hb : Nat.beq i 1286 with
      | true =>
        have e := Nat.eq_of_beq_eq_true hb
        subst e
        have hr2 : some (0, 8) = some r := hr
        cases hr2
        have a1 : (1 : Int) ≤ (ρ.1 0).toInt := ge_i h1
        have a2 : (ρ.1 0).toInt ≤ (8 : Int) := le_i h8
        rw [cond_true]
        exact ⟨by show (0 : Int) ≤ _; omega, a2⟩
      | false =>
        rw [cond_false]
        unfold iN
        cases hc : ([1294, 18112, 18144, 18176, 18208, 18240, 18272, 18304, 18336, 20832, 20864, 20896, 20928] : List Nat).contains i with
        | true =>
          have := List.all_eq_true.mp iN_r i (List.contains_iff_mem.mp hc)
          rw [hr] at this
          simp only [inr_, Bool.and_eq_true, decide_eq_true_eq] at this
          exact this
        | false =>
          rw [cond_false]
          cases hk : Nat.beq i 59744 with
          | true =>
            have e := Nat.eq_of_beq_eq_true hk
            subst e
            have : vrng 59744 = none := rfl
            rw [this] at hr
            cases hr
          | false => exact vrng0 hr
  · intro a t r hr
    have hn : kR.2.2.1 a = none := by
      cases hq : kR.2.2.1 a with
      | none => rfl
      | some l => have h3 := kR_0 a l hq; have h4 := vrngB hr; omega
    show r.1 ≤ (if a % 2 = 1 then (iL a (sd X (rI ρ) t).1.toNatClampNeg).toInt else (iA a (sd X (rI ρ) t).1.toNatClampNeg).toInt) ∧ (if a % 2 = 1 then (iL a (sd X (rI ρ) t).1.toNatClampNeg).toInt else (iA a (sd X (rI ρ) t).1.toNatClampNeg).toInt) ≤ r.2
    unfold iL iA
    rw [hn]
    by_cases h7 : a % 2 = 1
    · rw [if_pos h7]; exact vrng0 hr
    · rw [if_neg h7]
      dsimp only
      cases hc : ([1380, 1412, 1572, 1604, 1764, 1796, 1956, 1988] : List Nat).contains a with
      | true =>
        have := List.all_eq_true.mp iA_r a (List.contains_iff_mem.mp hc)
        rw [hr] at this
        simp only [inr_, Bool.and_eq_true, decide_eq_true_eq] at this
        exact this
      | false => exact vrng0 hr
theorem rI_kok {L : Nat} {xs : Nat → Int32} (hK : kok (pXs L xs) ρ kN) : kok (pXs L xs) (rI ρ) kR := by
  refine ⟨hK.1, hK.2.1, fun a l h j => ?_, fun e => by rw [kR_x] at e; cases e⟩
  show iA a j = _ ∧ iL a j = _
  unfold iA iL
  rw [h]
  exact ⟨rfl, rfl⟩
noncomputable def vfk (f : sQ × Bool) : Bool := match f with
  | ((k, .arg i, .int x), true) => Nat.beq k 0 && (!(Nat.beq i 1286) && decide (iN i = x))
  | ((k, .arg _, .long x), true) => Nat.beq k 6 && decide ((0 : Int64) = x)
  | _ => false
theorem vfk_ok {f : sQ × Bool} (h : vfk f = true) : sc X (rI ρ) f.1 = f.2 := by
  unfold vfk at h
  split at h
  · next k i x =>
    simp only [Bool.and_eq_true, decide_eq_true_eq] at h
    obtain ⟨h1, h2, h3⟩ := h
    have e := Nat.eq_of_beq_eq_true h1
    subst e
    have hb : Nat.beq i 1286 = false := by simpa using h2
    refine decide_eq_true (show (bif Nat.beq i 1286 then ρ.1 0 else iN i) = x from ?_)
    rw [hb, cond_false, h3]
  · next k i x =>
    simp only [Bool.and_eq_true, decide_eq_true_eq] at h
    obtain ⟨h1, h2⟩ := h
    have e := Nat.eq_of_beq_eq_true h1
    subst e
    exact decide_eq_true (show (0 : Int64) = x from h2)
  · cases h
noncomputable def Vf : sFs := [((0, .arg 1280, .int 0), true), ((0, .arg 1288, .int 0), true), ((0, .arg 1292, .int 0), true), ((0, .arg 1294, .int (-1)), true), ((0, .arg 1320, .int 0), true), ((0, .arg 1338, .int 0), true), ((0, .arg 1352, .int 0), true), ((0, .arg 1370, .int 0), true), ((0, .arg 1384, .int 0), true), ((0, .arg 1410, .int 0), true), ((0, .arg 1416, .int 0), true), ((0, .arg 1434, .int 0), true), ((0, .arg 1442, .int 0), true), ((0, .arg 1448, .int 0), true), ((0, .arg 1466, .int 0), true), ((0, .arg 1474, .int 0), true), ((0, .arg 1480, .int 0), true), ((0, .arg 1506, .int 0), true), ((0, .arg 1512, .int 0), true), ((0, .arg 1530, .int 0), true), ((0, .arg 1562, .int 0), true), ((0, .arg 1574, .int 0), true), ((0, .arg 1606, .int 0), true), ((0, .arg 1626, .int 0), true), ((0, .arg 1638, .int 0), true), ((0, .arg 1658, .int 0), true), ((6, .arg 1665, .long 0), true), ((0, .arg 1666, .int 0), true), ((0, .arg 1670, .int 0), true), ((6, .arg 1697, .long 0), true), ((0, .arg 1702, .int 0), true), ((6, .arg 1729, .long 0), true), ((0, .arg 1734, .int 0), true), ((0, .arg 1766, .int 0), true), ((0, .arg 1798, .int 0), true), ((6, .arg 1825, .long 0), true), ((6, .arg 1857, .long 0), true), ((6, .arg 1889, .long 0), true), ((6, .arg 1921, .long 0), true), ((6, .arg 2529, .long 0), true), ((6, .arg 2561, .long 0), true), ((6, .arg 2593, .long 0), true), ((0, .arg 2594, .int 0), true), ((0, .arg 2624, .int 0), true), ((6, .arg 2689, .long 0), true), ((6, .arg 2721, .long 0), true), ((6, .arg 2753, .long 0), true), ((6, .arg 2785, .long 0), true), ((0, .arg 3136, .int 0), true), ((6, .arg 3393, .long 0), true), ((6, .arg 3425, .long 0), true), ((6, .arg 3457, .long 0), true), ((0, .arg 3522, .int 0), true), ((6, .arg 3553, .long 0), true), ((6, .arg 3585, .long 0), true), ((6, .arg 3617, .long 0), true), ((6, .arg 3649, .long 0), true), ((6, .arg 4257, .long 0), true), ((6, .arg 4289, .long 0), true), ((6, .arg 4321, .long 0), true), ((6, .arg 4417, .long 0), true), ((6, .arg 4449, .long 0), true), ((0, .arg 4450, .int 0), true), ((6, .arg 4481, .long 0), true), ((6, .arg 4513, .long 0), true), ((6, .arg 5089, .long 0), true), ((6, .arg 5313, .long 0), true), ((6, .arg 5345, .long 0), true), ((6, .arg 5377, .long 0), true), ((6, .arg 5409, .long 0), true), ((6, .arg 5441, .long 0), true), ((6, .arg 5473, .long 0), true), ((6, .arg 5505, .long 0), true), ((6, .arg 5537, .long 0), true), ((6, .arg 5569, .long 0), true), ((0, .arg 5570, .int 0), true), ((6, .arg 5601, .long 0), true), ((0, .arg 5602, .int 0), true), ((6, .arg 5633, .long 0), true), ((0, .arg 5634, .int 0), true), ((6, .arg 5665, .long 0), true), ((0, .arg 5666, .int 0), true), ((6, .arg 5697, .long 0), true), ((6, .arg 5729, .long 0), true), ((6, .arg 5761, .long 0), true), ((6, .arg 5793, .long 0), true), ((6, .arg 5825, .long 0), true), ((6, .arg 5857, .long 0), true), ((6, .arg 5889, .long 0), true), ((6, .arg 5921, .long 0), true), ((0, .arg 6400, .int 0), true), ((0, .arg 6912, .int 0), true), ((0, .arg 10176, .int 0), true), ((0, .arg 10688, .int 0), true), ((0, .arg 13952, .int 0), true), ((0, .arg 14464, .int 0), true), ((0, .arg 17728, .int 0), true), ((0, .arg 17824, .int 0), true), ((0, .arg 17856, .int 0), true), ((0, .arg 17888, .int 0), true), ((0, .arg 17920, .int 0), true), ((0, .arg 17952, .int 0), true), ((0, .arg 17984, .int 0), true), ((0, .arg 18016, .int 0), true), ((0, .arg 18112, .int (-1)), true), ((0, .arg 18144, .int (-1)), true), ((0, .arg 18176, .int (-1)), true), ((0, .arg 18208, .int (-1)), true), ((0, .arg 18368, .int 0), true), ((0, .arg 18400, .int 0), true), ((0, .arg 18432, .int 0), true), ((0, .arg 18464, .int 0), true), ((0, .arg 18496, .int 0), true), ((0, .arg 18528, .int 0), true), ((0, .arg 18560, .int 0), true), ((0, .arg 18592, .int 0), true), ((0, .arg 18880, .int 0), true), ((0, .arg 18912, .int 0), true), ((0, .arg 18944, .int 0), true), ((0, .arg 18976, .int 0), true), ((0, .arg 19008, .int 0), true), ((0, .arg 19040, .int 0), true), ((0, .arg 19072, .int 0), true), ((0, .arg 19104, .int 0), true), ((0, .arg 19360, .int 0), true), ((0, .arg 19392, .int 0), true), ((0, .arg 19424, .int 0), true), ((0, .arg 19456, .int 0), true), ((0, .arg 19488, .int 0), true), ((0, .arg 19520, .int 0), true), ((0, .arg 19584, .int 0), true), ((0, .arg 20064, .int 0), true), ((0, .arg 20096, .int 0), true), ((0, .arg 20128, .int 0), true), ((0, .arg 20160, .int 0), true), ((0, .arg 20192, .int 0), true), ((0, .arg 20224, .int 0), true), ((0, .arg 20256, .int 0), true), ((0, .arg 20288, .int 0), true), ((0, .arg 20448, .int 0), true), ((0, .arg 20480, .int 0), true), ((0, .arg 20512, .int 0), true), ((0, .arg 20544, .int 0), true), ((0, .arg 20960, .int 0), true), ((0, .arg 20992, .int 0), true), ((0, .arg 21024, .int 0), true), ((0, .arg 21056, .int 0), true), ((0, .arg 21728, .int 0), true), ((0, .arg 21760, .int 0), true), ((0, .arg 21792, .int 0), true), ((0, .arg 21824, .int 0), true), ((0, .arg 23008, .int 0), true), ((0, .arg 23040, .int 0), true), ((0, .arg 23072, .int 0), true), ((0, .arg 23104, .int 0), true)]
theorem Vf_k : Vf.all vfk = true := by decide +kernel
noncomputable def Ve : sFs := [((6, .arg 1825, .op2 .lmul (.arg 5441) (.long 1000000)), true), ((6, .arg 2689, .op2 .lmul (.arg 5569) (.long 1000000)), true), ((6, .arg 3553, .op2 .lmul (.arg 5697) (.long 1000000)), true), ((6, .arg 4417, .op2 .lmul (.arg 5825) (.long 1000000)), true), ((6, .arg 5089, .op2 .lor (.op1 .i2l (.arg 19360)) (.op2 .lshl (.op1 .i2l (.arg 19392)) (.int 16))), true)]
theorem rI_z {i : Nat} (h1 : Nat.beq i 1286 = false) (h2 : iN i = 0) : (rI ρ).1 i = 0 := by
  show (bif Nat.beq i 1286 then ρ.1 0 else iN i) = 0
  rw [h1, cond_false, h2]
theorem ve_mul {i j : Nat} {c : Int64} : sc X (rI ρ) (6, .arg i, .op2 .lmul (.arg j) (.long c)) = true := by
  have e : ∀ x : Int32, (s2 .lmul (x, (0 : Int64)) (0, c)).2 = 0 := fun x => by
    show (0 : Int64) * c = 0
    exact Int64.zero_mul
  have q : (sd X (rI ρ) (.op2 .lmul (.arg j) (.long c))).2 = 0 := by
    have a : (rI ρ).2.1 j = 0 := rfl
    simp only [sd]
    rw [a]
    exact e _
  have g : (sd X (rI ρ) (.arg i)).2 = (sd X (rI ρ) (.op2 .lmul (.arg j) (.long c))).2 := q.symm
  exact decide_eq_true g
theorem ve_lor {i j k : Nat} (h1 : (rI ρ).1 i = 0) (h2 : (rI ρ).1 j = 0) : sc X (rI ρ) (6, .arg k, .op2 .lor (.op1 .i2l (.arg i)) (.op2 .lshl (.op1 .i2l (.arg j)) (.int 16))) = true := by
  have e : (s2 .lor (s1 .i2l ((0 : Int32), (0 : Int64))) (s2 .lshl (s1 .i2l ((0 : Int32), (0 : Int64))) (16, 0))).2 = 0 := by decide +kernel
  have q : (sd X (rI ρ) (.op2 .lor (.op1 .i2l (.arg i)) (.op2 .lshl (.op1 .i2l (.arg j)) (.int 16)))).2 = 0 := by
    have a1 : sd X (rI ρ) (.arg i) = (0, 0) := Prod.ext h1 rfl
    have a2 : sd X (rI ρ) (.arg j) = (0, 0) := Prod.ext h2 rfl
    simp only [sd] at a1 a2 ⊢
    rw [a1, a2]
    exact e
  have g : (sd X (rI ρ) (.arg k)).2 = (sd X (rI ρ) (.op2 .lor (.op1 .i2l (.arg i)) (.op2 .lshl (.op1 .i2l (.arg j)) (.int 16)))).2 := q.symm
  exact decide_eq_true g
theorem Ve_ok : fall X (rI ρ) Ve := fcn (ve_mul) (fcn (ve_mul) (fcn (ve_mul) (fcn (ve_mul) (fcn (ve_lor (rI_z (i := 19360) rfl (by decide +kernel)) (rI_z (i := 19392) rfl (by decide +kernel))) ((fun f hf => by cases hf))))))
theorem rI_PT (hv : vok X (rI ρ)) : PT X 40 (rI ρ) := by
  have h : fok X (rI ρ) (Ve ++ Vf) := ⟨hv, fall_app Ve_ok (fun f hf => vfk_ok (List.all_eq_true.mp Vf_k f hf))⟩
  have z : ∀ i, Nat.beq i 1286 = false → iN i = 0 → (rI ρ).1 i = 0 := fun i h1 h2 => by
    show (bif Nat.beq i 1286 then ρ.1 0 else iN i) = 0
    rw [h1, cond_false, h2]
  refine ⟨⟨⟨⟨fun e => absurd (z _ rfl (by decide +kernel)) e, fun _ => fall_D h (by decide +kernel)⟩, ⟨fun e => absurd (z _ rfl (by decide +kernel)) e, fun _ => fall_D h (by decide +kernel)⟩, ⟨fun e => absurd (z _ rfl (by decide +kernel)) e, fun _ => fall_D h (by decide +kernel)⟩, ⟨fun e => absurd (z _ rfl (by decide +kernel)) e, fun _ => fall_D h (by decide +kernel)⟩⟩, fall_D h (by decide +kernel), iok_D h (by decide +kernel)⟩, ⟨?_, ?_, ?_⟩, ⟨⟨z _ rfl (by decide +kernel), z _ rfl (by decide +kernel)⟩, ⟨z _ rfl (by decide +kernel), z _ rfl (by decide +kernel)⟩, ⟨z _ rfl (by decide +kernel), z _ rfl (by decide +kernel)⟩, ⟨z _ rfl (by decide +kernel), z _ rfl (by decide +kernel)⟩⟩, ⟨z _ rfl (by decide +kernel), z _ rfl (by decide +kernel)⟩⟩
  · rw [z 1376 rfl (by decide +kernel)]; decide
  · rw [z 1376 rfl (by decide +kernel)]; decide
  · rw [z 1280 rfl (by decide +kernel)]; decide
end BEGIN
theorem iN_kv : iN 59744 = 1 := by decide +kernel
theorem hCl_a1 : hCl zLw z_a1.2.2.2.1 = true := by decide +kernel
section BEGIN2
variable {L : Nat} {xs : Nat → Int32}
theorem z_enterT (h : LHP L xs 1) : GL L xs FrN z_a1 := fun ρ G hK hF hR => by
  obtain ⟨r0, r1⟩ := hK.2.2.2 rfl
  have b1 : ¬ ρ.1 0 < 1 := of_decide_eq_false (hF.2 _ List.mem_cons_self)
  have b8 : ¬ (8 : Int32) < ρ.1 0 := of_decide_eq_false (hF.2 _ (List.mem_cons_of_mem _ List.mem_cons_self))
  have hv : vok (pXs L xs) (rI ρ) := rI_vok b1 b8
  have k1 : (rI ρ).1 59744 = 1 := by
    show (bif Nat.beq 59744 1286 then ρ.1 0 else iN 59744) = 1
    rw [show Nat.beq 59744 1286 = false from rfl, cond_false]
    exact iN_kv
  have e1 : (1 : Int32).toInt = 1 := rfl
  have hg := h (rI ρ) (by rw [k1, e1]; exact Int.le_refl _) ⟨by rw [k1, e1]; exact Int.le_refl _, by rw [k1, e1]; omega, by
    rw [k1, e1]
    show 6 * ((rC ρ : Nat) : Int) + 1 ≤ 1
    rw [r0]; decide, by
    rw [k1, e1]
    show ((rS ρ : Nat) : Int) + 1 ≤ 1
    rw [r1]; decide⟩ (rI_kok hK) hv (by rw [k1, e1]; exact rI_PT hv) G (hCl_ok hCl_a1 hR)
  have hg : GG (pXs L xs) pF pdfl mt_all lwN (PE L xs) (rI ρ) (2, 8, some .boolean, [], mo_455, mo_455.drop 19, zLv, []) [] 20 (103275 + rS (rI ρ)) G := hg
  show GG (pXs L xs) pF pdfl mt_all lwN (PE L xs) ρ (2, 8, some .boolean, [], mo_455, mo_455.drop 19, [(4, ti 1), (3, tr 348), (2, tr 219), (1, tr 0), (0, .string "" 0)], []) [] 20 (103275 + rS ρ) G
  have e : dL (pXs L xs) (rI ρ) zLv = dL (pXs L xs) ρ [(4, ti 1), (3, tr 348), (2, tr 219), (1, tr 0), (0, .string "" 0)] := by
    show [(4, Value.int ((rI ρ).1 59744)), (3, Value.ref 348), (2, Value.ref 219), (1, Value.ref 0), (0, Value.retAddr 0)] = [(4, Value.int 1), (3, Value.ref 348), (2, Value.ref 219), (1, Value.ref 0), (0, Value.retAddr 0)]
    rw [k1]
  unfold GG at hg ⊢
  dsimp only at hg ⊢
  rw [if_pos rfl] at hg ⊢
  intro hl
  have hg := hg hl
  rw [e] at hg
  exact hg
theorem vok_0 (X : pX) : vok X ((fun _ => 0, fun _ => 0, fun _ _ => 0, fun _ _ => 0, [], 0, 0) : sR) := by
  constructor
  · intro i r h
    have e : sn X ((fun _ => 0, fun _ => 0, fun _ _ => 0, fun _ _ => 0, [], 0, 0) : sR) (.arg i) = 0 := by
      show (if i % 2 = 1 then (0 : Int64).toInt else (0 : Int32).toInt) = 0
      split <;> rfl
    rw [e]
    exact vrng0 h
  · intro a t r h
    have e : sn X ((fun _ => 0, fun _ => 0, fun _ _ => 0, fun _ _ => 0, [], 0, 0) : sR) (.elem (.arg a) t) = 0 := by
      show (if a % 2 = 1 then (0 : Int64).toInt else (0 : Int32).toInt) = 0
      split <;> rfl
    rw [e]
    exact vrng0 h
theorem tget_newE {α : Type} {a : α} : ∀ (n k : Nat), tget n (tnew a n) k = a
  | 0, _ => rfl
  | n + 1, k => by
    by_cases h : k < 2 ^ n
    · exact (tget_l h).trans (tget_newE n k)
    · exact (tget_r h).trans (tget_newE n _)
theorem g_start (hL : L < 2147483648) (h : GL L xs [((2, lnN, .int 0), false)] s0N) : PE L xs (mo_455, [(0, .retAddr 0)], [], [], 0) := by
  have hn : (Int32.ofNat L).toInt = L := Int32.toInt_ofNat_of_lt (by omega)
  have h1 := h ((fun _ => 0, fun _ => 0, fun _ _ => 0, fun _ _ => 0, [], 0, 0) : sR) [] (kokN hL _ rfl rfl) ⟨vok_0 _, fun f hf => by
    simp only [List.mem_cons, List.not_mem_nil, or_false] at hf
    subst hf
    show decide (Int32.ofNat L < 0) = false
    exact decide_eq_false (fun h9 => by
      have := Int32.lt_iff_toInt_lt.mp h9
      rw [hn] at this
      simp at this
      omega)⟩ ⟨rfl, (fun k e hk => by
      have hlt := hget_lt hk
      have : hget hnil k = none := by
        rw [hget_def, if_pos hlt]
        exact tget_newE 9 k
      rw [show (s0N.2.2.2.1 : sH) = hnil from rfl, this] at hk
      cases hk), Nat.zero_le _, fun k _ hl => absurd hl (Nat.not_lt_zero _)⟩
  exact h1 rfl
end BEGIN2
