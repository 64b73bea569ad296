/-! ===== ... a contract ===== -/
section RENS
variable {π : Nat → Nat} {n0 : Nat} {X : pX} {Ft : Nat → Nat → FieldType} {dfl : Nat → Nat × List Value} {Mt : List pM}
theorem CALL_ren (h : pinv π n0) (hd : ∀ r, (dfl r).2.map (vren π) = (dfl r).2) {d y : Nat} {as : List Value} {G : pH} {sl : Nat} {r : pRes} (hn : n0 ≤ G.length) (hC : CALL X Ft dfl Mt d y as G sl r) : CALL X Ft dfl Mt d y (as.map (vren π)) (gren π G) sl (rren π r) := by
  obtain ⟨N, hN⟩ := hC
  refine ⟨N, fun fuel hf => ?_⟩
  rw [(callD_ren (X := X) (Ft := Ft) (Mt := Mt) h hd fuel d y as G sl hn).1, hN fuel hf]
  rfl
/-! terms and patterns -/
noncomputable def tren (π : Nat → Nat) (t : sT) : sT := match t with
  | .index k => .index (π k)
  | t => t
noncomputable def seren (π : Nat → Nat) (e : sE) : sE := match e with
  | .inl (t, n, b, u) => .inl (t, n, tren π b, u.map (fun x => (x.1, tren π x.2)))
  | .inr (c, v) => .inr (c, v.map (tren π))
variable {ρ : sR}
theorem tren_v (t : sT) : sv X ρ (tren π t) = vren π (sv X ρ t) := by
  unfold tren
  split
  · rfl
  · next hne =>
    unfold sv
    split
    · next k => exact absurd rfl (hne k)
    · rfl
    · rfl
    · split <;> rfl
theorem rden_ren (m n : Nat) (l : sT) (j : Nat) : vren π (rden ρ m n l j) = rden ρ m n l j := by
  unfold rden
  split
  · split <;> rfl
  · rfl
theorem cden_ren (b : sT) (j : Nat) : vren π (cden ρ b j) = cden ρ b j := by
  unfold cden
  split
  · split
    · split <;> rfl
    · rfl
  · split
    · exact rden_ren _ _ _ _
    · split <;> rfl
  · rfl
theorem bden_ren (b : sT) (j : Nat) : bden X ρ (tren π b) j = vren π (bden X ρ b j) := by
  have e : ∀ t : sT, (∀ a, t ≠ .arg a) → (∀ a, t ≠ .old a) → bden X ρ t j = sv X ρ t := fun t h1 h2 => by
    unfold bden
    split
    · next a => exact absurd rfl (h1 a)
    · next a => exact absurd rfl (h2 a)
    · rfl
  by_cases ha : ∃ a, b = .arg a
  · obtain ⟨a, rfl⟩ := ha
    show (if _ then _ else _) = vren π (if _ then _ else _)
    split <;> rfl
  · by_cases ho : ∃ a, b = .old a
    · obtain ⟨a, rfl⟩ := ho
      exact (cden_ren a j).symm
    · have h1 : ∀ a, b ≠ .arg a := fun a h => ha ⟨a, h⟩
      have h2 : ∀ a, b ≠ .old a := fun a h => ho ⟨a, h⟩
      have t1 : ∀ a, tren π b ≠ .arg a := fun a h => by
        unfold tren at h
        split at h
        · cases h
        · exact h1 a h
      have t2 : ∀ a, tren π b ≠ .old a := fun a h => by
        unfold tren at h
        split at h
        · cases h
        · exact h2 a h
      rw [e _ t1 t2, e b h1 h2]
      exact tren_v b
theorem aden_ren (b : sT) (j : Nat) : ∀ u : List (sT × sT), aden X ρ (tren π b) (u.map (fun x => (x.1, tren π x.2))) j = vren π (aden X ρ b u j)
  | [] => bden_ren b j
  | x :: r => by
    simp only [List.map_cons, aden]
    rw [aden_ren b j r, tren_v]
    split <;> rfl
theorem CR_ren {e : sE} {y : pE} (hc : CR X ρ e y) : CR X ρ (seren π e) (eren π y) := by
  cases e with
  | inl a =>
    obtain ⟨t, n, b, u⟩ := a
    cases y with
    | inr z => exact hc.elim
    | inl z =>
      obtain ⟨q1, q2, q3, q4⟩ := hc
      refine ⟨q1, q2, fun j hj => ?_, fun x hx => ?_⟩
      · show vren π (z.2.2 j) = aden X ρ (tren π b) (u.map (fun x => (x.1, tren π x.2))) j
        rw [aden_ren, q3 j hj]
      · obtain ⟨x0, hx0, rfl⟩ := List.mem_map.mp hx
        exact q4 x0 hx0
  | inr a =>
    obtain ⟨c, v⟩ := a
    cases y with
    | inl z => exact hc.elim
    | inr z =>
      have hc : z = (c, v.map (sv X ρ)) := hc
      subst hc
      show (c, (v.map (sv X ρ)).map (vren π)) = (c, (v.map (tren π)).map (sv X ρ))
      rw [List.map_map, List.map_map]
      exact congrArg (fun l => (c, l)) (List.map_congr_left (fun t _ => (tren_v t).symm))
theorem dS_ren (as : List sT) : dS X ρ (as.map (tren π)) = (dS X ρ as).map (vren π) := by
  unfold dS
  rw [List.map_map, List.map_map]
  exact List.map_congr_left (fun t _ => tren_v t)
/-- the contract with the class's cells changed over -/
noncomputable def conren (π : Nat → Nat) (C : sC) : sC := (C.1, (C.2.1.1.map (tren π), C.2.1.2), (C.2.2.1.1.map π, C.2.2.1.2), C.2.2.2.1, C.2.2.2.2.1, (C.2.2.2.2.2.1.1.map (tren π), C.2.2.2.2.2.1.2), C.2.2.2.2.2.2)
noncomputable def eqO (x y : Option sE) : Bool := match x, y with
  | some (.inl a), some (.inl b) => decide (a = b)
  | some (.inr a), some (.inr b) => decide (a = b)
  | none, none => true
  | _, _ => false
theorem eqO_ok {x y : Option sE} (h : eqO x y = true) : x = y := by
  unfold eqO at h
  split at h
  · rw [of_decide_eq_true h]
  · rw [of_decide_eq_true h]
  · rfl
  · cases h
/-- the pattern's cells changed over; the model's as they are; some cell lies high enough -/
noncomputable def renok (π : Nat → Nat) (n0 : Nat) (Z Z' : sH) (C : sC) : Bool := C.2.2.1.1.all (fun k => eqO (hget Z' (π k)) ((hget Z k).map (seren π))) && (C.2.2.1.2.all (fun k => eqO (hget Z' k) (hget Z k)) && C.2.2.1.1.any (fun k => Nat.ble n0 (π k + 1) && (hget Z k).isSome))
theorem SREL_ren (h : pinv π n0) (hd : ∀ r, (dfl r).2.map (vren π) = (dfl r).2) {K : sK} {Z Z' : sH} {C : sC} (hc : renok π n0 Z Z' C = true) (hS : SREL X Ft dfl Mt K Z C) : SREL X Ft dfl Mt K Z' (conren π C) := by
  simp only [renok, Bool.and_eq_true, List.all_eq_true, List.any_eq_true, decide_eq_true_eq] at hc
  obtain ⟨hc1, hc2, kx, hkx, hkn, hks⟩ := hc
  intro ρ hK hF hI
  obtain ⟨ρ', h1, h2, h3, h4, h5⟩ := hS ρ hK hF hI
  have hf2 : foot Z' C.2.2.1.2 = foot Z C.2.2.1.2 := foot_ext (fun k hk => eqO_ok (hc2 k hk))
  refine ⟨ρ', h1, h2, h3, fun B G hR => ?_, ?_⟩
  · have hR : HR X (rwB ρ B) (foot Z' (C.2.2.1.1.map π)) G := hR
    have hmem : ∀ k, k ∈ C.2.2.1.1.map π ↔ π k ∈ C.2.2.1.1 := fun k => by
      rw [List.mem_map]
      constructor
      · rintro ⟨a, ha, rfl⟩; rw [h.1]; exact ha
      · intro hk; exact ⟨π k, hk, h.1 k⟩
    have hget1 : ∀ k, hget (foot Z' (C.2.2.1.1.map π)) (π k) = (hget (foot Z C.2.2.1.1) k).map (seren π) := fun k => by
      rw [foot_get, foot_get]
      by_cases hk : k ∈ C.2.2.1.1
      · rw [if_pos ((hmem (π k)).mpr (by rw [h.1]; exact hk)), if_pos hk, eqO_ok (hc1 k hk)]
      · rw [if_neg (fun q => hk (by have := (hmem (π k)).mp q; rw [h.1] at this; exact this)), if_neg hk]; rfl
    have hn : n0 ≤ G.length := by
      have g1 := hget1 kx
      obtain ⟨e, he⟩ := Option.isSome_iff_exists.mp hks
      rw [foot_get (Z := Z), if_pos hkx, he] at g1
      obtain ⟨y, hy, -⟩ := hR.2.1 (π kx) _ g1
      have := (List.getElem?_eq_some_iff.mp hy).1
      have := Nat.le_of_ble_eq_true hkn
      omega
    have hl0 : G.length = B.2.1 := by
      have := hR.1
      rw [foot_len] at this
      have : 0 + B.2.1 = G.length := this
      omega
    have hG0 : ∀ k, (gren π G)[k]? = (G[π k]?).map (fun e => e.map (eren π)) := fun k => by
      have := gren_get h hn (π k)
      rw [h.1] at this
      exact this
    have hR0 : HR X (rwB ρ (gren π G, G.length, B.2.2)) (foot Z C.2.2.1.1) (gren π G) := by
      refine ⟨by rw [foot_len, gren_len]; exact Nat.zero_add _, fun k e hk => ?_, Nat.le_refl _, fun k _ _ => rfl⟩
      have g1 := hget1 k
      rw [hk] at g1
      obtain ⟨y, hy, hcr⟩ := hR.2.1 (π k) _ g1
      refine ⟨eren π y, by rw [hG0, hy]; rfl, ?_⟩
      have hcr := CR_ren (π := π) hcr
      have e2 : seren π (seren π e) = e := by
        have tt : ∀ t : sT, tren π (tren π t) = t := fun t => by
          cases t <;> first | rfl | exact congrArg Jvm.Term.index (h.1 _)
        cases e with
        | inl a =>
          obtain ⟨t, n, b, u⟩ := a
          show Sum.inl (t, n, tren π (tren π b), (u.map (fun x => (x.1, tren π x.2))).map (fun x => (x.1, tren π x.2))) = _
          rw [tt, List.map_map]
          congr 4
          conv => rhs; rw [← List.map_id u]
          exact List.map_congr_left (fun x _ => by show (x.1, tren π (tren π x.2)) = x; rw [tt])
        | inr a =>
          obtain ⟨c, v⟩ := a
          show Sum.inr (c, (v.map (tren π)).map (tren π)) = _
          rw [List.map_map]
          congr 2
          conv => rhs; rw [← List.map_id v]
          exact List.map_congr_left (fun x _ => tt x)
      rw [e2] at hcr
      exact CR_B hcr
    obtain ⟨G0, hC, hR1⟩ := h4 (gren π G, G.length, B.2.2) (gren π G) hR0
    have hl1 : G0.length = G.length := by
      have := hR1.1
      rw [foot_len] at this
      have : 0 + G.length = G0.length := this
      omega
    have hn1 : n0 ≤ G0.length := by omega
    refine ⟨gren π G0, ?_, ?_⟩
    · have := CALL_ren h hd (by rw [gren_len]; exact hn) hC
      rw [gren_gren h hn, ← dS_ren] at this
      have e9 : (C.2.2.2.2.2.1.1.map (sv X ρ')).map (vren π) = (C.2.2.2.2.2.1.1.map (tren π)).map (sv X ρ') := by
        cases C.2.2.2.2.2.1.1 with
        | none => rfl
        | some t => exact congrArg some (tren_v t).symm
      show CALL X Ft dfl Mt C.1.2.2 C.1.1 (dS X ρ (C.2.1.1.map (tren π))) G B.2.2 (.inl ((C.2.2.2.2.2.1.1.map (tren π)).map (sv X ρ')), gren π G0, B.2.2)
      rw [← e9]
      exact this
    · show HR X (rwB ρ' B) (foot Z' (C.2.2.1.1.map π)) (gren π G0)
      refine ⟨?_, fun k e hk => ?_, by rw [gren_len, hl1]; exact hR.2.2.1, fun k hk hl => ?_⟩
      · rw [foot_len, gren_len, hl1, hl0]
        exact Nat.zero_add _
      · have g1 := hget1 (π k)
        rw [h.1, hk] at g1
        cases he : hget (foot Z C.2.2.1.1) (π k) with
        | none => rw [he] at g1; cases g1
        | some e0 =>
          rw [he] at g1
          cases g1
          obtain ⟨y, hy, hcr⟩ := hR1.2.1 (π k) e0 he
          refine ⟨eren π y, ?_, CR_B (CR_ren hcr)⟩
          have := gren_get h hn1 (π k)
          rw [h.1] at this
          rw [this, hy]
          rfl
      · have g1 := hget1 (π k)
        rw [h.1, hk] at g1
        have he : hget (foot Z C.2.2.1.1) (π k) = none := by
          cases he : hget (foot Z C.2.2.1.1) (π k) with
          | none => rfl
          | some e0 => rw [he] at g1; cases g1
        have hkl : k < G.length := Nat.lt_of_lt_of_le hl hR.2.2.1
        have h6 := hR1.2.2.2 (π k) he (by show π k < (gren π G).length; rw [gren_len]; exact h.lt hn hkl)
        have h6 : G0[π k]? = (gren π G)[π k]? := h6
        have h7 := gren_get h hn1 (π k)
        rw [h.1] at h7
        have hB : G[k]? = B.1[k]? := hR.2.2.2 k hk hl
        show _ = B.1[k]?
        rw [h7, h6, gren_get h hn k, ← hB, Option.map_map]
        cases G[k]? with
        | none => rfl
        | some x =>
          cases x with
          | none => rfl
          | some e => exact congrArg (fun z => some (some z)) (eren_eren h e)
  · intro B G hR
    have hR : HR X (rwB ρ B) (foot Z' C.2.2.1.2) G := hR
    rw [hf2] at hR
    obtain ⟨G', c1, c2⟩ := h5 B G hR
    refine ⟨G', c1, ?_⟩
    show HR X (rwB ρ' B) (foot Z' C.2.2.1.2) G'
    rw [hf2]
    exact c2
end RENS
