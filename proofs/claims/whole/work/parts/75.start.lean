theorem tget_new {α : Type} {a : α} : ∀ (n k : Nat), tget n (tnew a n) k = a
  | 0, _ => rfl
  | n + 1, k => by
    by_cases h : k < 2 ^ n
    · exact (tget_l h).trans (tget_new n k)
    · exact (tget_r h).trans (tget_new n _)
def rho0 : sR := (fun _ => 0, fun _ => 0, fun _ _ => 0, fun _ _ => 0, [], 0, 0)
theorem vrng_0 {i : Nat} {r : Int × Int} (h : vrng i = some r) : r.1 ≤ 0 ∧ 0 ≤ r.2 := by
  unfold vrng at h
  split at h
  · cases h
  · split at h <;> first | (cases h; done) | (cases h; exact ⟨by decide, by decide⟩)
theorem vok_0 (X : pX) : vok X rho0 := by
  constructor
  · intro i r h
    have e : sn X rho0 (.arg i) = 0 := by
      unfold sn
      split <;> rfl
    rw [e]
    exact vrng_0 h
  · intro a t r h
    have e : sn X rho0 (.elem (.arg a) t) = 0 := by
      unfold sn
      split <;> rfl
    rw [e]
    exact vrng_0 h
/-! ===== the fresh objects are such a state: nearly all of it is 0 ===== -/
/-- the variables from the thousandth on are 0 -/
def rz (ρ : sR) : sR := (fun i => if i < 1000 then ρ.1 i else 0, fun i => if i < 1000 then ρ.2.1 i else 0, fun a j => if a < 1000 then ρ.2.2.1 a j else 0, fun a j => if a < 1000 then ρ.2.2.2.1 a j else 0, ρ.2.2.2.2)
def t0q (i : Nat) (b : sT) : Bool := Nat.ble 1000 i && (match b with
  | .int x => Nat.beq (i % 2) 0 && decide (x = 0)
  | .long x => Nat.beq (i % 2) 1 && decide (x = 0)
  | _ => false)
/-- a number, a cell, or a variable below the thousandth -/
def tlow (b : sT) : Bool := match b with
  | .int _ => true
  | .long _ => true
  | .index _ => true
  | .null => true
  | .arg k => Nat.blt k 1000
  | _ => false
def tz (σ : sM) (a b : sT) : Bool := match a with
  | .arg i => match sfnd σ i with
    | some u => decide (u = b) && (tlow b && Nat.beq (sk b) (i % 2))
    | none => t0q i b
  | .index i => match b with
    | .index k => Nat.beq i k
    | _ => false
  | .int x => match b with
    | .int y => decide (x = y)
    | _ => false
  | .long x => match b with
    | .long y => decide (x = y)
    | _ => false
  | .null => match b with
    | .null => true
    | _ => false
  | _ => false
section ZERO
variable {X : pX} {ρ : sR} {σ : sM}
theorem low_d {b : sT} (h : tlow b = true) : sd X (rz ρ) b = sd X ρ b := by
  unfold tlow at h
  split at h <;> first | rfl | (cases h; done) | skip
  next k =>
    have h : k < 1000 := Nat.le_of_ble_eq_true h
    simp only [sd, rz, if_pos h]
theorem low_v {b : sT} (h : tlow b = true) : sv X (rz ρ) b = sv X ρ b := by
  unfold sv
  split <;> first | rfl | rw [low_d h]
theorem arg_v (ρ : sR) (i : Nat) : sv X ρ (.arg i) = if i % 2 = 1 then .long (ρ.2.1 i) else .int (ρ.1 i) := rfl
theorem t0q_v {i : Nat} {b : sT} (h : t0q i b = true) : sv X ρ b = (if i % 2 = 1 then .long 0 else .int 0) ∧ 1000 ≤ i := by
  simp only [t0q, Bool.and_eq_true] at h
  obtain ⟨h1, h2⟩ := h
  refine ⟨?_, Nat.le_of_ble_eq_true h1⟩
  split at h2
  · simp only [Bool.and_eq_true] at h2
    have e1 := Nat.eq_of_beq_eq_true h2.1
    have e2 := of_decide_eq_true h2.2
    rw [if_neg (by omega), e2]
    rfl
  · simp only [Bool.and_eq_true] at h2
    have e1 := Nat.eq_of_beq_eq_true h2.1
    have e2 := of_decide_eq_true h2.2
    rw [if_pos e1, e2]
    rfl
  · cases h2
theorem tz_v {a b : sT} (h : tz σ a b = true) : sv X ρ b = sv X (rsub X (rz ρ) σ) a := by
  unfold tz at h
  split at h
  · next i =>
    split at h
    · next u hu =>
      simp only [Bool.and_eq_true] at h
      obtain ⟨h1, h2, h3⟩ := h
      have e := of_decide_eq_true h1
      subst e
      have hk := Nat.eq_of_beq_eq_true h3
      have q1 : (rsub X (rz ρ) σ).1 i = (sd X ρ u).1 := by simp only [rsub, hu, low_d h2]
      have q2 : (rsub X (rz ρ) σ).2.1 i = (sd X ρ u).2 := by simp only [rsub, hu, low_d h2]
      rw [arg_v, q1, q2]
      by_cases h7 : i % 2 = 1
      · rw [if_pos h7]; exact sv_long (by rw [hk]; exact h7)
      · rw [if_neg h7]; exact sv_int (by rw [hk]; omega)
    · next hu =>
      obtain ⟨h1, h2⟩ := t0q_v (X := X) (ρ := ρ) h
      have q1 : (rsub X (rz ρ) σ).1 i = 0 := by
        simp only [rsub, hu, rz]
        rw [if_neg (by omega)]
      have q2 : (rsub X (rz ρ) σ).2.1 i = 0 := by
        simp only [rsub, hu, rz]
        rw [if_neg (by omega)]
      rw [h1, arg_v, q1, q2]
  · split at h
    · have e := Nat.eq_of_beq_eq_true h
      subst e
      rfl
    · cases h
  · split at h
    · have e := of_decide_eq_true h
      subst e
      rfl
    · cases h
  · split at h
    · have e := of_decide_eq_true h
      subst e
      rfl
    · cases h
  · split at h
    · rfl
    · cases h
  · cases h
def vz (σ : sM) : List sT → List sT → Bool
  | [], [] => true
  | a :: x, b :: y => tz σ a b && vz σ x y
  | _, _ => false
theorem vz_ok : ∀ {x y : List sT}, vz σ x y = true → y.map (sv X ρ) = x.map (sv X (rsub X (rz ρ) σ))
  | [], [], _ => rfl
  | [], _ :: _, h => by cases h
  | _ :: _, [], h => by cases h
  | a :: x, b :: y, h => by
    simp only [vz, Bool.and_eq_true] at h
    rw [List.map_cons, List.map_cons, tz_v h.1, vz_ok h.2]
def ulit (u : List (sT × sT)) : Bool := u.all (fun x => match sC1 x.1 with
  | some p => decide (¬ p.1 < 0)
  | none => false)
/-- a large array, all of it one number -/
def az (σ : sM) (a : Nat) (b : sT) : Bool := match afnd σ a with
  | some p => decide (p = (b, [])) && (tlow b && (Nat.beq (sk b) (a % 2) && (match b with
    | .arg _ => false
    | _ => true)))
  | none => t0q a b
def uz (σ : sM) : List (sT × sT) → List (sT × sT) → Bool
  | [], [] => true
  | a :: x, b :: y => tqk ([], []) a.1 b.1 && (tz σ a.2 b.2 && uz σ x y)
  | _, _ => false
def cz (σ : sM) (e0 e : sE) : Bool := match e0 with
  | .inl (t0, n0, b0, u0) => match e with
    | .inl (t, n, b, u) => Nat.beq t0 t && (Nat.beq n0 n && ((match b0, u0, u with
      | .arg a, [], [] => az σ a b
      | _, _, _ => false) || ((uz σ u0 u && (ulit u0 && (match b0 with
        | .arg _ => false
        | _ => tz σ b0 b))) || (Nat.ble n0 16 && (ulit u0 && (List.range n0).all (fun j => match selc b0 j u0, selc b j u with
      | some x, some y => tz σ x y
      | _, _ => false))))))
    | _ => false
  | .inr (c0, v0) => match e with
    | .inr (c, v) => Nat.beq c0 c && vz σ v0 v
    | _ => false
theorem ulit_nn {ρ' : sR} {u : List (sT × sT)} (h : ulit u = true) : ∀ x ∈ u, ¬ (sd X ρ' x.1).1 < 0 := fun x hx => by
  have h6 := List.all_eq_true.mp h x hx
  split at h6
  · next p hp =>
    rw [sC1_ok hp]
    exact of_decide_eq_true h6
  · cases h6
theorem nonarg {ρ' : sR} {b : sT} (hb : ∀ a, b ≠ .arg a) (j : Nat) : bden X ρ' b j = sv X ρ' b := by
  unfold bden
  split
  · next a => exact absurd rfl (hb a)
  · rfl
theorem uz_ok {a b : sT} {j : Nat} (hb : bden X ρ b j = bden X (rsub X (rz ρ) σ) a j) : ∀ {x y : List (sT × sT)}, ulit x = true → uz σ x y = true → aden X ρ b y j = aden X (rsub X (rz ρ) σ) a x j
  | [], [], _, _ => hb
  | [], _ :: _, _, h => by cases h
  | _ :: _, [], _, h => by cases h
  | p :: x, q :: y, hl, h => by
    simp only [uz, Bool.and_eq_true] at h
    obtain ⟨h1, h2, h3⟩ := h
    have e1 := (tqk_ok (X := X) (ρ := ρ) h1).1
    simp only [ulit, List.all_cons, Bool.and_eq_true] at hl
    have hl1 := hl.1
    split at hl1
    · next z hz =>
      unfold aden
      rw [e1, sC1_ok (X := X) (ρ := ρ) hz, sC1_ok (X := X) (ρ := rsub X (rz ρ) σ) hz, tz_v h2, uz_ok hb hl.2 h3]
    · cases hl1
theorem az_ok {a : Nat} {b : sT} (h : az σ a b = true) (j : Nat) : bden X ρ b j = bden X (rsub X (rz ρ) σ) (.arg a) j := by
  unfold az at h
  split at h
  · next p hp =>
    simp only [Bool.and_eq_true] at h
    obtain ⟨h1, h2, h3, h4⟩ := h
    have e := of_decide_eq_true h1
    subst e
    have hk := Nat.eq_of_beq_eq_true h3
    have hb : ∀ a, b ≠ .arg a := fun a e => by subst e; cases h4
    have q1 : (rsub X (rz ρ) σ).2.2.1 a j = vi (sv X ρ b) := by
      simp only [rsub, hp, aden]
      rw [nonarg hb, low_v h2]
    have q2 : (rsub X (rz ρ) σ).2.2.2.1 a j = vl (sv X ρ b) := by
      simp only [rsub, hp, aden]
      rw [nonarg hb, low_v h2]
    rw [nonarg hb]
    show _ = if a % 2 = 1 then Value.long ((rsub X (rz ρ) σ).2.2.2.1 a j) else .int ((rsub X (rz ρ) σ).2.2.1 a j)
    rw [q1, q2]
    by_cases h7 : a % 2 = 1
    · rw [if_pos h7, sv_long (by rw [hk]; exact h7)]; rfl
    · rw [if_neg h7, sv_int (by rw [hk]; omega)]; rfl
  · next hp =>
    obtain ⟨h1, h2⟩ := t0q_v (X := X) (ρ := ρ) h
    have hb : ∀ a, b ≠ .arg a := fun a e => by
      subst e
      simp only [t0q, Bool.and_eq_true] at h
      cases h.2
    have q1 : (rsub X (rz ρ) σ).2.2.1 a j = 0 := by
      simp only [rsub, hp, rz]
      rw [if_neg (by omega)]
    have q2 : (rsub X (rz ρ) σ).2.2.2.1 a j = 0 := by
      simp only [rsub, hp, rz]
      rw [if_neg (by omega)]
    rw [nonarg hb, h1]
    show _ = if a % 2 = 1 then Value.long ((rsub X (rz ρ) σ).2.2.2.1 a j) else .int ((rsub X (rz ρ) σ).2.2.1 a j)
    rw [q1, q2]
theorem cz_ok {e0 e : sE} (hc : cz σ e0 e = true) {y : pE} (hy : CR X ρ e y) : CR X (rsub X (rz ρ) σ) e0 y := by
  unfold cz at hc
  split at hc
  · next t0 n0 b0 u0 =>
    split at hc
    · next t n b u =>
      simp only [Bool.and_eq_true, Bool.or_eq_true] at hc
      obtain ⟨h1, h2, h3⟩ := hc
      have e1 := Nat.eq_of_beq_eq_true h1
      have e2 := Nat.eq_of_beq_eq_true h2
      subst e1 e2
      cases y with
      | inr z => exact hy.elim
      | inl z =>
        obtain ⟨q1, q2, q3, q4⟩ := hy
        rcases h3 with h3 | h3 | h3
        · split at h3
          · exact ⟨q1, q2, fun j hj => by rw [q3 j hj]; exact az_ok h3 j, fun x hx => by cases hx⟩
          · cases h3
        · obtain ⟨k1, k2, k3⟩ := h3
          have hb0 : ∀ a, b0 ≠ .arg a := fun a e => by subst e; cases k3
          have k4 : tz σ b0 b = true := by
            cases b0 <;> first | (exact absurd rfl (hb0 _)) | exact k3
          have hb : ∀ a, b ≠ .arg a := fun a e => by
            subst e
            unfold tz at k4
            cases b0 <;> first | (exact absurd rfl (hb0 _)) | (cases k4; done)
          exact ⟨q1, q2, fun j hj => by rw [q3 j hj]; exact uz_ok (by rw [nonarg hb, nonarg hb0, tz_v k4]) k2 k1, ulit_nn k2⟩
        · obtain ⟨k1, k2, k3⟩ := h3
          refine ⟨q1, q2, fun j hj => ?_, ulit_nn k2⟩
          have h5 := List.all_eq_true.mp k3 j (List.mem_range.mpr hj)
          rw [q3 j hj]
          dsimp only
          split at h5
          · next x w hx hw => rw [selc_ok u w hw, selc_ok u0 x hx, tz_v h5]
          · cases h5
    · cases hc
  · next c0 v0 =>
    split at hc
    · next c v =>
      simp only [Bool.and_eq_true] at hc
      have e1 := Nat.eq_of_beq_eq_true hc.1
      subst e1
      cases y with
      | inl z => exact hy.elim
      | inr z =>
        have hy : z = (c0, v.map (sv X ρ)) := hy
        show z = (c0, v0.map (sv X (rsub X (rz ρ) σ)))
        rw [hy, vz_ok hc.2]
    · cases hc
def zinst (σ : sM) (G0 G : sH) : Bool := decide (G0.2 = G.2) && (List.range 512).all (fun k => match hget G0 k with
  | none => (hget G k).isNone
  | some e0 => match hget G k with
    | some e => cz σ e0 e
    | none => false)
theorem zinst_ok {G0 G : sH} (h : zinst σ G0 G = true) {H : pH} (hR : HR X ρ G H) : HR X (rsub X (rz ρ) σ) G0 H := by
  simp only [zinst, Bool.and_eq_true, decide_eq_true_eq, List.all_eq_true] at h
  refine ⟨by rw [h.1]; exact hR.1, fun k e0 hk => ?_, hR.2.2.1, fun k hk hl => hR.2.2.2 k ?_ hl⟩
  · have h5 := h.2 k (List.mem_range.mpr (hget_lt hk))
    rw [hk] at h5
    dsimp only at h5
    split at h5
    · next e he =>
      obtain ⟨y, hy, hc⟩ := hR.2.1 k e he
      exact ⟨y, hy, cz_ok h5 hc⟩
    · cases h5
  · by_cases h9 : k < 512
    · have h5 := h.2 k (List.mem_range.mpr h9)
      rw [hk] at h5
      simpa using h5
    · unfold hget
      rw [if_neg h9]
theorem vok_z (X : pX) (ρ : sR) : vok X (rz ρ) := by
  have big : ∀ {i : Nat} {r : Int × Int}, vrng i = some r → ¬ i < 1000 := fun {i r} h h9 => by
    unfold vrng at h
    rw [if_pos h9] at h
    cases h
  constructor
  · intro i r h
    have e : sn X (rz ρ) (.arg i) = 0 := by
      show (if i % 2 = 1 then (if i < 1000 then ρ.2.1 i else 0).toInt else (if i < 1000 then ρ.1 i else 0).toInt) = 0
      rw [if_neg (big h), if_neg (big h)]
      split <;> rfl
    rw [e]
    exact vrng_0 h
  · intro a t r h
    have e : sn X (rz ρ) (.elem (.arg a) t) = 0 := by
      show (if a % 2 = 1 then (if a < 1000 then ρ.2.2.2.1 a _ else 0).toInt else (if a < 1000 then ρ.2.2.1 a _ else 0).toInt) = 0
      rw [if_neg (big h), if_neg (big h)]
      split <;> rfl
    rw [e]
    exact vrng_0 h
end ZERO
section START
variable {L : Nat} {xs : Nat → Int32}
theorem z_enter (hL : L ≤ 3073) (hM : sMok kE zS = true) (hh : vhold FrN zS = true) (hi : zinst zS zH z_a1.2.2.2.1 = true) (hsl : z_a1.2.2.2.2 = (zL 19).2.2.2.2) (hv : sfnd zS zvI = some (.int 1)) (h : LHead L xs [] (zL 19) zvI 1) : GL L xs FrN z_a1 := fun ρ G hK hF hR => by
  obtain ⟨r0, r1⟩ := hK.2.2.2 rfl
  have e1 : (rsub (pXs L xs) (rz ρ) zS).1 zvI = 1 := by
    simp only [rsub, hv, sd]
  have e2 : (1 : Int32).toInt = 1 := rfl
  have hFz : fok (pXs L xs) (rz ρ) FrN := ⟨vok_z _ _, fun f hf => by
    have h1 := hF.2 f hf
    simp only [FrN, List.mem_cons, List.not_mem_nil, or_false] at hf
    rcases hf with rfl | rfl
    · exact h1
    · exact h1⟩
  have hLB : LB L zvI (rsub (pXs L xs) (rz ρ) zS) := by
    refine ⟨by rw [e1, e2]; exact Int.le_refl _, by rw [e1, e2]; omega, ?_, ?_⟩
    · rw [e1, e2]
      show 6 * ((rC ρ : Nat) : Int) + 1 ≤ 1
      rw [r0]; decide
    · rw [e1, e2]
      show ((rS ρ : Nat) : Int) + 1 ≤ 1
      rw [r1]; decide
  have hg := h (rsub (pXs L xs) (rz ρ) zS) (by rw [e1, e2]; exact Int.le_refl _) hLB (kokE (by omega) _) ⟨vok_sub hFz hM hh, fun f hf => by cases hf⟩ G (zinst_ok hi hR)
  have hd : dL (pXs L xs) (rsub (pXs L xs) (rz ρ) zS) [(4, .arg zvI), (3, tr 348), (2, tr 219), (1, tr 0), (0, .string "" 0)] = dL (pXs L xs) ρ [(4, ti 1), (3, tr 348), (2, tr 219), (1, tr 0), (0, .string "" 0)] := by
    show [(4, sv (pXs L xs) (rsub (pXs L xs) (rz ρ) zS) (.arg zvI)), (3, Value.ref 348), (2, .ref 219), (1, .ref 0), (0, .retAddr 0)] = [(4, Value.int 1), (3, .ref 348), (2, .ref 219), (1, .ref 0), (0, .retAddr 0)]
    rw [arg_v, if_neg (by decide), e1]
  rw [show z_a1.2.2.2.2 + rS ρ = (zL 19).2.2.2.2 + rS (rsub (pXs L xs) (rz ρ) zS) by rw [hsl]; rfl]
  have hf : fle (pXs L xs) (rsub (pXs L xs) (rz ρ) zS) ρ (zL 19).1 z_a1.1 := by
    refine ⟨⟨rfl, rfl, rfl, rfl, rfl, rfl⟩, ?_, ?_, rfl⟩
    · show lvle (dL (pXs L xs) (rsub (pXs L xs) (rz ρ) zS) [(4, .arg zvI), (3, tr 348), (2, tr 219), (1, tr 0), (0, .string "" 0)]) (dL (pXs L xs) ρ [(4, ti 1), (3, tr 348), (2, tr 219), (1, tr 0), (0, .string "" 0)])
      rw [hd]
      exact fun q hq => hq
    · show lvnd (dL (pXs L xs) ρ [(4, ti 1), (3, tr 348), (2, tr 219), (1, tr 0), (0, .string "" 0)])
      show ([4, 3, 2, 1, 0] : List Nat).Nodup
      decide
  have hfs : fles (pXs L xs) (rsub (pXs L xs) (rz ρ) zS) ρ (zL 19).2.1 z_a1.2.1 := trivial
  exact GG_le (PE_mono L xs) hf hfs hg
theorem g_start (hL : L < 2147483648) (h : GL L xs [((2, lnN, .int 0), false)] s0N) : PE L xs (mo_455, [(0, .retAddr 0)], [], [], 0) := by
  have hn : (Int32.ofNat L).toInt = L := Int32.toInt_ofNat_of_lt (by omega)
  have h1 := h rho0 [] (kokN hL _ rfl rfl) ⟨vok_0 _, fun f hf => by
    simp only [List.mem_cons, List.not_mem_nil, or_false] at hf
    subst hf
    show decide ((sd (pXs L xs) _ lnN).1 < 0) = false
    rw [ln_d]
    exact decide_eq_false (fun h9 => by
      have := Int32.lt_iff_toInt_lt.mp h9
      rw [hn] at this
      simp at this
      omega)⟩ ⟨rfl, (fun k e hk => by
      have hlt := hget_lt hk
      have : hget hnil k = none := by
        unfold hget hnil
        rw [if_pos hlt]
        exact tget_new 9 k
      rw [show (s0N.2.2.2.1 : sH) = hnil from rfl, this] at hk
      cases hk), Nat.zero_le _, fun k _ hl => absurd hl (Nat.not_lt_zero _)⟩
  exact h1 rfl
end START
theorem pure_of {L : Nat} {xs : Nat → Int32} (h : PE L xs pSt) : PURE L xs := by
  obtain ⟨N, hN⟩ := h
  obtain ⟨n, y, o, t, h1, h2, h3, h4, h5, h6, h7⟩ := hN N (Nat.le_refl _)
  exact ⟨N, n, y, o, t, h1, h2, h3, h4, h5, h6, h7⟩
