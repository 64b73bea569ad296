/-! ===== more that can be decided: single bits, and what is equal ===== -/
/-- the low bits of a long's int are the long's -/
noncomputable def bnm (t : sT) : sT := match t with
  | .op1 .l2i L => if sk L = 1 then L else t
  | t => t
/-- a term's bits -/
noncomputable def xv (X : pX) (ρ : sR) (t : sT) : BitVec 64 := if sk t = 1 then (sd X ρ t).2.toBitVec else (sd X ρ t).1.toBitVec.setWidth 64
/-- a number with one bit -/
noncomputable def bpow (m : BitVec 64) : Bool := Nat.beq m.toNat (2 ^ Nat.log2 m.toNat)
/-- a condition on bits: of which term, which bits, what they are -/
noncomputable def bcon (c : sQ) : Option (sT × BitVec 64 × BitVec 64) := match c with
  | (0, .op2 .iand w (.int m), .int k) => if sk w = 0 then some (bnm w, m.toBitVec.setWidth 64, k.toBitVec.setWidth 64) else none
  | (6, .op2 .land w (.long m), .long k) => if sk w = 1 then some (w, m.toBitVec, k.toBitVec) else none
  | _ => none
/-- which bits of a term the facts tell, and what they are -/
noncomputable def bkn (t : sT) : sFs → BitVec 64 × BitVec 64
  | [] => (0, 0)
  | f :: F => match bcon f.1 with
    | some q => if tqe q.1 t = true then (if f.2 = true then (((bkn t F).1 ||| q.2.1), ((bkn t F).2 ||| q.2.2)) else if bpow q.2.1 = true then (if q.2.2 = 0 then (((bkn t F).1 ||| q.2.1), ((bkn t F).2 ||| q.2.1)) else if q.2.2 = q.2.1 then (((bkn t F).1 ||| q.2.1), (bkn t F).2) else bkn t F) else bkn t F) else bkn t F
    | none => bkn t F
noncomputable def bdec (F : sFs) (c : sQ) : Option Bool := match bcon c with
  | some q => if q.2.2 &&& ~~~q.2.1 ≠ 0 then some false
    else if ((bkn q.1 F).2 ^^^ q.2.2) &&& ((bkn q.1 F).1 &&& q.2.1) ≠ 0 then some false
    else if q.2.1 &&& (bkn q.1 F).1 = q.2.1 then some true
    else none
  | none => none
/-- terms that are known to be the same as this one -/
noncomputable def eqto (F : sFs) (t : sT) : List sT := F.filterMap (fun f => if (tqe f.1.2.1 t && (f.2 && ((Nat.beq f.1.1 0 || Nat.beq f.1.1 6) && skok f.1))) = true then some f.1.2.2 else if (tqe f.1.2.2 t && (f.2 && ((Nat.beq f.1.1 0 || Nat.beq f.1.1 6) && skok f.1))) = true then some f.1.2.1 else none)
noncomputable def edec (F : sFs) (c : sQ) : Option Bool := match (eqto F c.2.1).findSome? (fun u => if skok (c.1, u, c.2.2) = true then sdec F (c.1, u, c.2.2) else none) with
  | some b => some b
  | none => (eqto F c.2.2).findSome? (fun u => if skok (c.1, c.2.1, u) = true then sdec F (c.1, c.2.1, u) else none)
noncomputable def xdec (F : sFs) (c : sQ) : Option Bool := match bdec F c with
  | some b => some b
  | none => edec F c
section XDEC
variable {X : pX} {ρ : sR} {F : sFs}
theorem zx {x : BitVec 64} {y m : BitVec 32} (h : ∀ i, i < 32 → x.getLsbD i = y.getLsbD i) : x &&& m.setWidth 64 = (y &&& m).setWidth 64 := by
  apply BitVec.eq_of_getLsbD_eq
  intro i hi
  rw [BitVec.getLsbD_and, BitVec.getLsbD_setWidth, BitVec.getLsbD_setWidth, BitVec.getLsbD_and]
  by_cases h32 : i < 32
  · rw [h i h32]
    simp [hi]
  · have : m.getLsbD i = false := BitVec.getLsbD_of_ge m i (by omega)
    simp [this]
theorem bnm_ok {w : sT} (hw : sk w = 0) : ∀ i, i < 32 → (xv X ρ (bnm w)).getLsbD i = (sd X ρ w).1.toBitVec.getLsbD i := by
  intro i hi
  have plain : (xv X ρ w).getLsbD i = (sd X ρ w).1.toBitVec.getLsbD i := by
    unfold xv
    rw [if_neg (by rw [hw]; decide), BitVec.getLsbD_setWidth]
    simp only [show i < 64 by omega, decide_true, Bool.true_and]
  unfold bnm
  split
  · next L =>
    split
    · next hL =>
      unfold xv
      rw [if_pos hL]
      show (sd X ρ L).2.toBitVec.getLsbD i = ((sd X ρ L).2.toInt32).toBitVec.getLsbD i
      rw [Int64.toBitVec_toInt32, BitVec.getLsbD_signExtend]
      simp only [hi, decide_true, Bool.true_and]
      rw [if_pos (by omega)]
    · exact plain
  · exact plain
theorem sw_inj {a b : BitVec 32} : a.setWidth 64 = b.setWidth 64 ↔ a = b := by
  constructor
  · intro h
    apply BitVec.eq_of_getLsbD_eq
    intro i hi
    have h1 := congrArg (fun z => z.getLsbD i) h
    simp only [BitVec.getLsbD_setWidth] at h1
    simpa [show i < 64 by omega] using h1
  · intro h
    rw [h]
theorem bcon_ok {c : sQ} {q : sT × BitVec 64 × BitVec 64} (h : bcon c = some q) : sc X ρ c = decide (xv X ρ q.1 &&& q.2.1 = q.2.2) := by
  unfold bcon at h
  split at h
  · next w m k =>
    split at h
    · next hw =>
      cases h
      show decide ((sd X ρ w).1 &&& m = k) = _
      dsimp only
      rw [zx (bnm_ok hw)]
      apply decide_eq_decide.mpr
      rw [sw_inj, ← Int32.toBitVec_and]
      exact ⟨fun h => by rw [h], fun h => Int32.toBitVec_inj.mp h⟩
    · cases h
  · next w m k =>
    split at h
    · next hw =>
      cases h
      show decide ((sd X ρ w).2 &&& m = k) = _
      dsimp only
      unfold xv
      rw [if_pos hw]
      apply decide_eq_decide.mpr
      rw [← Int64.toBitVec_and]
      exact ⟨fun h => by rw [h], fun h => Int64.toBitVec_inj.mp h⟩
    · cases h
  · cases h
theorem bpow_ok {m x : BitVec 64} (h : bpow m = true) : x &&& m = 0 ∨ x &&& m = m := by
  have h1 := Nat.eq_of_beq_eq_true h
  have hi : Nat.log2 m.toNat < 64 := by
    by_cases h0 : m.toNat = 0
    · rw [h0]; decide
    · exact (Nat.log2_lt h0).mpr m.isLt
  have hm : m = BitVec.twoPow 64 (Nat.log2 m.toNat) := by
    apply BitVec.eq_of_toNat_eq
    rw [BitVec.toNat_twoPow, Nat.mod_eq_of_lt (Nat.pow_lt_pow_right (by decide) hi)]
    exact h1
  rw [hm, BitVec.and_twoPow]
  split
  · exact Or.inr rfl
  · exact Or.inl rfl
theorem bkn_ok {t : sT} : ∀ F : sFs, fall X ρ F → xv X ρ t &&& (bkn t F).1 = (bkn t F).2
  | [], _ => by
    show xv X ρ t &&& 0 = 0
    exact BitVec.and_zero
  | f :: F, hF => by
    have ih := bkn_ok (t := t) F (fun g hg => hF g (List.mem_cons_of_mem _ hg))
    unfold bkn
    split
    · next q hq =>
      have h1 := hF f List.mem_cons_self
      rw [bcon_ok hq] at h1
      split
      · next ht =>
        rw [tqe_ok _ _ ht] at h1
        split
        · next hb =>
          rw [hb] at h1
          have h2 := of_decide_eq_true h1
          dsimp only
          rw [BitVec.and_or_distrib_left, ih, h2]
        · next hb =>
          have hb : f.2 = false := by simpa using hb
          rw [hb] at h1
          have h2 := of_decide_eq_false h1
          split
          · next hp =>
            have h3 := bpow_ok (x := xv X ρ t) hp
            split
            · next h0 =>
              rw [h0] at h2
              have h4 : xv X ρ t &&& q.2.1 = q.2.1 := h3.resolve_left h2
              dsimp only
              rw [BitVec.and_or_distrib_left, ih, h4]
            · split
              · next h0 =>
                rw [h0] at h2
                have h4 : xv X ρ t &&& q.2.1 = 0 := h3.resolve_right h2
                dsimp only
                rw [BitVec.and_or_distrib_left, ih, h4]
                exact BitVec.or_zero
              · exact ih
          · exact ih
      · exact ih
    · exact ih
theorem bdec_ok (hF : fok X ρ F) {c : sQ} {b : Bool} (h : bdec F c = some b) : sc X ρ c = b := by
  unfold bdec at h
  split at h
  · next q hq =>
    rw [bcon_ok hq]
    have hk := bkn_ok (t := q.1) F hF.2
    generalize xv X ρ q.1 = x at hk ⊢
    generalize (bkn q.1 F).1 = M at hk h
    generalize (bkn q.1 F).2 = V at hk h
    obtain ⟨t, m, k⟩ := q
    dsimp only at h ⊢
    split at h
    · next h1 =>
      cases h
      refine decide_eq_false (fun e => h1 ?_)
      subst e
      apply BitVec.eq_of_getLsbD_eq
      intro i hi
      simp only [BitVec.getLsbD_and, BitVec.getLsbD_not]
      cases x.getLsbD i <;> cases m.getLsbD i <;> simp
    · next h1 =>
      split at h
      · next h2 =>
        cases h
        refine decide_eq_false (fun e => h2 ?_)
        subst e
        subst hk
        apply BitVec.eq_of_getLsbD_eq
        intro i hi
        simp only [BitVec.getLsbD_and, BitVec.getLsbD_xor]
        cases x.getLsbD i <;> cases m.getLsbD i <;> cases M.getLsbD i <;> simp
      · next h2 =>
        split at h
        · next h3 =>
          cases h
          refine decide_eq_true (BitVec.eq_of_getLsbD_eq (fun i hi => ?_))
          have h1 : k &&& ~~~m = 0 := Decidable.of_not_not h1
          have h2 : (V ^^^ k) &&& (M &&& m) = 0 := Decidable.of_not_not h2
          subst hk
          have e1 := congrArg (fun z => z.getLsbD i) h1
          have e2 := congrArg (fun z => z.getLsbD i) h2
          have e3 := congrArg (fun z => z.getLsbD i) h3
          simp only [BitVec.getLsbD_and, BitVec.getLsbD_xor, BitVec.getLsbD_not, BitVec.getLsbD_zero] at e1 e2 e3 ⊢
          simp only [hi, decide_true, Bool.true_and] at e1
          revert e1 e2 e3
          cases x.getLsbD i <;> cases m.getLsbD i <;> cases M.getLsbD i <;> cases k.getLsbD i <;> simp
        · cases h
  · cases h
theorem eqto_ok (hF : fok X ρ F) {t u : sT} (h : u ∈ eqto F t) : (sk u = 0 → sk t = 0 ∧ (sd X ρ u).1 = (sd X ρ t).1) ∧ (sk u = 1 → sk t = 1 ∧ (sd X ρ u).2 = (sd X ρ t).2) ∧ (sk u = 0 ∨ sk u = 1) := by
  obtain ⟨f, hf, he⟩ := List.mem_filterMap.mp h
  have key : ∀ (k : Nat) (a b : sT) (v : Bool), sc X ρ (k, a, b) = v → (v && ((Nat.beq k 0 || Nat.beq k 6) && skok (k, a, b))) = true → (k = 0 ∧ sk a = 0 ∧ sk b = 0 ∧ (sd X ρ a).1 = (sd X ρ b).1) ∨ (k = 6 ∧ sk a = 1 ∧ sk b = 1 ∧ (sd X ρ a).2 = (sd X ρ b).2) := by
    intro k a b v h4 hc
    simp only [Bool.and_eq_true, Bool.or_eq_true] at hc
    obtain ⟨h1, h2, h3⟩ := hc
    rw [h1] at h4
    rcases h2 with h2 | h2
    · have h2 := Nat.eq_of_beq_eq_true h2
      subst h2
      simp only [skok, Nat.reduceLT, if_true, Bool.and_eq_true, beq_iff_eq] at h3
      exact Or.inl ⟨rfl, h3.1, h3.2, of_decide_eq_true h4⟩
    · have h2 := Nat.eq_of_beq_eq_true h2
      subst h2
      simp only [skok, Nat.reduceLT, if_false, if_true, Bool.and_eq_true, beq_iff_eq] at h3
      exact Or.inr ⟨rfl, h3.1, h3.2, of_decide_eq_true h4⟩
  have h4 := hF.2 f hf
  obtain ⟨⟨k, a, b⟩, v⟩ := f
  dsimp only at h4 he
  split at he
  · next hc =>
    rw [Bool.and_eq_true] at hc
    have ha := tqe_ok _ _ hc.1
    cases he
    subst ha
    rcases key _ _ _ _ h4 hc.2 with ⟨-, k1, k2, k3⟩ | ⟨-, k1, k2, k3⟩
    · exact ⟨fun _ => ⟨k1, k3.symm⟩, fun q => by omega, Or.inl k2⟩
    · exact ⟨fun q => by omega, fun _ => ⟨k1, k3.symm⟩, Or.inr k2⟩
  · split at he
    · next hc =>
      rw [Bool.and_eq_true] at hc
      have ha := tqe_ok _ _ hc.1
      cases he
      subst ha
      rcases key _ _ _ _ h4 hc.2 with ⟨-, k1, k2, k3⟩ | ⟨-, k1, k2, k3⟩
      · exact ⟨fun _ => ⟨k2, k3⟩, fun q => by omega, Or.inl k1⟩
      · exact ⟨fun q => by omega, fun _ => ⟨k2, k3⟩, Or.inr k1⟩
    · cases he
theorem ble100 {k : Nat} (h : k < 100) : Nat.ble 100 k = false := by
  cases h1 : Nat.ble 100 k with
  | false => rfl
  | true => exact absurd (Nat.le_of_ble_eq_true h1) (by omega)
/-- a condition that sees the kind of its terms -/
theorem sc_kind {k : Nat} {a a' b : sT} (h0 : sk a = 0 → (sd X ρ a).1 = (sd X ρ a').1) (h1 : sk a = 1 → (sd X ρ a).2 = (sd X ρ a').2) (hk : skok (k, a, b) = true) : sc X ρ (k, a, b) = sc X ρ (k, a', b) := by
  have h9 := skok_k hk
  unfold sc
  dsimp only
  split
  · have : sk a = 0 := by simp [skok] at hk; exact hk.1
    rw [h0 this]
  · have : sk a = 0 := by simp [skok] at hk; exact hk.1
    rw [h0 this]
  · have : sk a = 1 := by simp [skok] at hk; exact hk.1
    rw [h1 this]
  · have : sk a = 1 := by simp [skok] at hk; exact hk.1
    rw [h1 this]
  · have h9 : _ < 100 := h9
    simp only [ble100 h9, Bool.false_and]
theorem sc_kind2 {k : Nat} {a b b' : sT} (h0 : sk b = 0 → (sd X ρ b).1 = (sd X ρ b').1) (h1 : sk b = 1 → (sd X ρ b).2 = (sd X ρ b').2) (hk : skok (k, a, b) = true) : sc X ρ (k, a, b) = sc X ρ (k, a, b') := by
  have h9 := skok_k hk
  unfold sc
  dsimp only
  split
  · have : sk b = 0 := by simp [skok] at hk; exact hk.2
    rw [h0 this]
  · have : sk b = 0 := by simp [skok] at hk; exact hk.2
    rw [h0 this]
  · have : sk b = 1 := by simp [skok] at hk; exact hk.2
    rw [h1 this]
  · have : sk b = 1 := by simp [skok] at hk; exact hk.2
    rw [h1 this]
  · have h9 : _ < 100 := h9
    simp only [ble100 h9, Bool.false_and]
theorem edec_ok (hF : fok X ρ F) {c : sQ} {b : Bool} (h : edec F c = some b) : sc X ρ c = b := by
  obtain ⟨k, x, y⟩ := c
  unfold edec at h
  dsimp only at h
  split at h
  · next b' hb =>
    cases h
    obtain ⟨u, hu, he⟩ := List.exists_of_findSome?_eq_some hb
    split at he
    · next hk =>
      obtain ⟨e0, e1, -⟩ := eqto_ok hF hu
      rw [← sc_kind (a := u) (fun q => (e0 q).2) (fun q => (e1 q).2) hk]
      exact sdec_ok hF he
    · cases he
  · obtain ⟨u, hu, he⟩ := List.exists_of_findSome?_eq_some h
    split at he
    · next hk =>
      obtain ⟨e0, e1, -⟩ := eqto_ok hF hu
      rw [← sc_kind2 (b := u) (fun q => (e0 q).2) (fun q => (e1 q).2) hk]
      exact sdec_ok hF he
    · cases he
theorem xdec_ok (hF : fok X ρ F) {c : sQ} {b : Bool} (h : xdec F c = some b) : sc X ρ c = b := by
  unfold xdec at h
  split at h
  · next b' hb => cases h; exact bdec_ok hF hb
  · exact edec_ok hF h
end XDEC
