/-! ===== a row of entries on each side that are alike become one, with places of their own ===== -/
section SPREAD
variable {X : pX} {Ft : Nat → Nat → FieldType} {dfl : Nat → Nat × List Value} {Mt : List pM} {K : sK}
noncomputable def nodB2 (V R : Nat → Bool) (b : sT) : Bool := match b with
  | .old (.add (.sub (.arg q) (.index _)) (.add (.mul (.sub (.index _) (.index _)) l) (.index c))) => !(V q) && (nodL R l && !(R c))
  | b => nodB V R b
noncomputable def nodE2 (V R : Nat → Bool) (e : sE) : Bool := match e with
  | .inr o => o.2.all (nod V R)
  | .inl a => nodB2 V R a.2.2.1 && a.2.2.2.all (fun u => nod V R u.1 && nod V R u.2)
noncomputable def nodO (V R : Nat → Bool) (e : Option sE) : Bool := match e with
  | some e => nodE2 V R e
  | none => true
theorem nod2_bden {V R : Nat → Bool} {ρ1 ρ2 : sR} (h : alk V R ρ1 ρ2) {b : sT} (hb : nodB2 V R b = true) (j : Nat) : bden X ρ1 b j = bden X ρ2 b j := by
  unfold nodB2 at hb
  split at hb
  · next q n m w l c =>
    simp only [Bool.and_eq_true, Bool.not_eq_true'] at hb
    obtain ⟨hq, hl, hc⟩ := hb
    have e : ∀ i, rden ρ1 m w l i = rden ρ2 m w l i := fun i => nod_row h hl i
    show (if (ρ1.1 q).toNatClampNeg * n ≤ j ∧ j < (ρ1.1 q).toNatClampNeg * n + n then rden ρ1 m w l (j - (ρ1.1 q).toNatClampNeg * n) else if c % 2 = 1 then Value.long (ρ1.2.2.2.1 c j) else Value.int (ρ1.2.2.1 c j)) = (if (ρ2.1 q).toNatClampNeg * n ≤ j ∧ j < (ρ2.1 q).toNatClampNeg * n + n then rden ρ2 m w l (j - (ρ2.1 q).toNatClampNeg * n) else if c % 2 = 1 then Value.long (ρ2.2.2.2.1 c j) else Value.int (ρ2.2.2.1 c j))
    rw [(h.1 q hq).1, (h.2 c hc).1, (h.2 c hc).2, e]
  · exact nod_bden h hb j
theorem nod2_aden {V R : Nat → Bool} {ρ1 ρ2 : sR} (h : alk V R ρ1 ρ2) {b : sT} (hb : nodB2 V R b = true) (j : Nat) : ∀ u : List (sT × sT), u.all (fun u => nod V R u.1 && nod V R u.2) = true → aden X ρ1 b u j = aden X ρ2 b u j
  | [], _ => nod2_bden h hb j
  | x :: r, hu => by
    simp only [List.all_cons, Bool.and_eq_true] at hu
    show (if (sd X ρ1 x.1).1.toNatClampNeg = j then sv X ρ1 x.2 else aden X ρ1 b r j) = if (sd X ρ2 x.1).1.toNatClampNeg = j then sv X ρ2 x.2 else aden X ρ2 b r j
    rw [nod_d h _ hu.1.1, nod_v h hu.1.2, nod2_aden h hb j r hu.2]
theorem nod2_CR {V R : Nat → Bool} {ρ1 ρ2 : sR} (h : alk V R ρ1 ρ2) {e : sE} (he : nodE2 V R e = true) {y : pE} (hc : CR X ρ1 e y) : CR X ρ2 e y := by
  cases e with
  | inr o =>
    cases y with
    | inl z => exact hc.elim
    | inr z =>
      have he : o.2.all (nod V R) = true := he
      have hc : z = (o.1, o.2.map (sv X ρ1)) := hc
      show z = (o.1, o.2.map (sv X ρ2))
      rw [hc]
      congr 1
      exact List.map_congr_left (fun t ht => nod_v h (List.all_eq_true.mp he t ht))
  | inl a =>
    cases y with
    | inr z => exact hc.elim
    | inl z =>
      obtain ⟨q1, q2, q3, q4⟩ := hc
      have he : (nodB2 V R a.2.2.1 && a.2.2.2.all (fun u => nod V R u.1 && nod V R u.2)) = true := he
      simp only [Bool.and_eq_true] at he
      refine ⟨q1, q2, fun j hj => by rw [q3 j hj, nod2_aden h he.1 j _ he.2], fun u hu => ?_⟩
      have hu1 := List.all_eq_true.mp he.2 u hu
      simp only [Bool.and_eq_true] at hu1
      rw [← nod_d h _ hu1.1]
      exact q4 u hu
/-- the row b, some places of it kept in numbers -/
noncomputable def sprd (b : Nat) : List (Nat × Nat) → sR → Nat → Int64
  | [], ρ, j => ρ.2.2.2.1 b j
  | p :: r, ρ, j => if p.1 = j then ρ.2.1 p.2 else sprd b r ρ j
noncomputable def spW (ps : List (Nat × Nat)) : List (sT × sT) := ps.map (fun p => (.int (Int32.ofNat p.1), .arg p.2))
noncomputable def spM (D n : Nat) (ps : List (Nat × Nat)) : List (sT × sT) := ps.map (fun p => (.add (.mul (.arg D) (.int (Int32.ofNat n))) (.int (Int32.ofNat p.1)), .arg p.2))
theorem sp_nat {k : Nat} (h : k < 100000) : (Int32.ofNat k).toInt = k := Int32.toInt_ofNat_of_lt (by omega)
theorem sp_w {b : Nat} (hb : b % 2 = 1) {ρ : sR} {j : Nat} : ∀ ps : List (Nat × Nat), ps.all (fun p => decide (p.1 < 1000) && decide (p.2 % 2 = 1)) = true → aden X ρ (.arg b) (spW ps) j = .long (sprd b ps ρ j)
  | [], _ => if_pos hb
  | p :: r, h => by
    simp only [List.all_cons, Bool.and_eq_true, decide_eq_true_eq] at h
    show (if (Int32.ofNat p.1).toNatClampNeg = j then sv X ρ (.arg p.2) else aden X ρ (.arg b) (spW r) j) = .long (if p.1 = j then ρ.2.1 p.2 else sprd b r ρ j)
    rw [sp_w hb r h.2, s_nat, sp_nat (by omega), Int.toNat_natCast, sv_long (t := .arg p.2) h.1.2]
    by_cases e : p.1 = j
    · rw [if_pos e, if_pos e]; rfl
    · rw [if_neg e, if_neg e]
theorem sp_m {b c D n : Nat} (hb : b % 2 = 1) {ρ : sR} {j : Nat} (d0 : 0 ≤ (ρ.1 D).toInt) (d4 : (ρ.1 D).toInt < 4) (hn : n < 1000) (h1 : (ρ.1 D).toInt.toNat * n ≤ j) (h2 : j < (ρ.1 D).toInt.toNat * n + n) : ∀ ps : List (Nat × Nat), ps.all (fun p => decide (p.1 < n) && decide (p.2 % 2 = 1)) = true → aden X ρ (.old (.add (.sub (.arg D) (.index n)) (.add (.mul (.sub (.index 0) (.index n)) (.index b)) (.index c)))) (spM D n ps) j = .long (sprd b ps ρ (j - (ρ.1 D).toInt.toNat * n))
  | [], _ => by
    show (if (ρ.1 D).toNatClampNeg * n ≤ j ∧ j < (ρ.1 D).toNatClampNeg * n + n then rden ρ 0 n (.index b) (j - (ρ.1 D).toNatClampNeg * n) else if c % 2 = 1 then Value.long (ρ.2.2.2.1 c j) else Value.int (ρ.2.2.1 c j)) = .long (ρ.2.2.2.1 b (j - (ρ.1 D).toInt.toNat * n))
    rw [s_nat, if_pos ⟨h1, h2⟩]
    have hz : (j - (ρ.1 D).toInt.toNat * n) / n = 0 := Nat.div_eq_of_lt (by omega)
    unfold rden
    rw [hz]
    show (if b % 2 = 1 then Value.long (ρ.2.2.2.1 b ((j - (ρ.1 D).toInt.toNat * n) % n)) else _) = _
    rw [if_pos hb, Nat.mod_eq_of_lt (by omega)]
  | p :: r, h => by
    simp only [List.all_cons, Bool.and_eq_true, decide_eq_true_eq] at h
    show (if (ρ.1 D * Int32.ofNat n + Int32.ofNat p.1).toNatClampNeg = j then sv X ρ (.arg p.2) else aden X ρ _ (spM D n r) j) = .long (if p.1 = j - (ρ.1 D).toInt.toNat * n then ρ.2.1 p.2 else sprd b r ρ (j - (ρ.1 D).toInt.toNat * n))
    have e1 : (ρ.1 D * Int32.ofNat n).toInt = (ρ.1 D).toInt * n := by
      have h3 : (ρ.1 D).toInt = 0 ∨ (ρ.1 D).toInt = 1 ∨ (ρ.1 D).toInt = 2 ∨ (ρ.1 D).toInt = 3 := by omega
      refine i_of (n := (ρ.1 D).toInt * n) (by rw [i_ml (i_s (ρ.1 D)) (i_s (Int32.ofNat n)), sp_nat (by omega)]) ?_ ?_
      · rcases h3 with q | q | q | q <;> rw [q] <;> omega
      · rcases h3 with q | q | q | q <;> rw [q] <;> omega
    have e0 : (ρ.1 D).toInt = ((ρ.1 D).toInt.toNat : Int) := by omega
    have hd : (ρ.1 D).toInt.toNat < 4 := by omega
    have hm : (ρ.1 D).toInt.toNat * n ≤ 3 * n := Nat.mul_le_mul_right n (by omega)
    have e2 : (ρ.1 D * Int32.ofNat n + Int32.ofNat p.1).toInt = (((ρ.1 D).toInt.toNat * n + p.1 : Nat) : Int) := by
      have q : (ρ.1 D).toInt * (n : Int) = (((ρ.1 D).toInt.toNat * n : Nat) : Int) := by rw [Int.natCast_mul, Int.toNat_of_nonneg d0]
      have q1 := e1.trans q
      rw [s_add (by rw [q1, sp_nat (by omega)]; omega) (by rw [q1, sp_nat (by omega)]; omega), q1, sp_nat (by omega)]
      exact (Int.natCast_add _ _).symm
    rw [sp_m (c := c) hb d0 d4 hn h1 h2 r h.2, s_nat, e2, Int.toNat_natCast, sv_long (t := .arg p.2) h.1.2]
    by_cases e : p.1 = j - (ρ.1 D).toInt.toNat * n
    · rw [if_pos (by omega), if_pos e]; rfl
    · rw [if_neg (by omega), if_neg e]
theorem sp_o {b c D n : Nat} (hc : c % 2 = 1) {ρ : sR} {j : Nat} (d0 : 0 ≤ (ρ.1 D).toInt) (d4 : (ρ.1 D).toInt < 4) (hn : n < 1000) (hj : ¬ ((ρ.1 D).toInt.toNat * n ≤ j ∧ j < (ρ.1 D).toInt.toNat * n + n)) : ∀ ps : List (Nat × Nat), ps.all (fun p => decide (p.1 < n) && decide (p.2 % 2 = 1)) = true → aden X ρ (.old (.add (.sub (.arg D) (.index n)) (.add (.mul (.sub (.index 0) (.index n)) (.index b)) (.index c)))) (spM D n ps) j = .long (ρ.2.2.2.1 c j)
  | [], _ => by
    show (if (ρ.1 D).toNatClampNeg * n ≤ j ∧ j < (ρ.1 D).toNatClampNeg * n + n then rden ρ 0 n (.index b) (j - (ρ.1 D).toNatClampNeg * n) else if c % 2 = 1 then Value.long (ρ.2.2.2.1 c j) else Value.int (ρ.2.2.1 c j)) = _
    rw [s_nat, if_neg hj, if_pos hc]
  | p :: r, h => by
    simp only [List.all_cons, Bool.and_eq_true, decide_eq_true_eq] at h
    show (if (ρ.1 D * Int32.ofNat n + Int32.ofNat p.1).toNatClampNeg = j then sv X ρ (.arg p.2) else aden X ρ _ (spM D n r) j) = _
    have e1 : (ρ.1 D * Int32.ofNat n).toInt = (ρ.1 D).toInt * n := by
      have h3 : (ρ.1 D).toInt = 0 ∨ (ρ.1 D).toInt = 1 ∨ (ρ.1 D).toInt = 2 ∨ (ρ.1 D).toInt = 3 := by omega
      refine i_of (n := (ρ.1 D).toInt * n) (by rw [i_ml (i_s (ρ.1 D)) (i_s (Int32.ofNat n)), sp_nat (by omega)]) ?_ ?_
      · rcases h3 with q | q | q | q <;> rw [q] <;> omega
      · rcases h3 with q | q | q | q <;> rw [q] <;> omega
    have e0 : (ρ.1 D).toInt = ((ρ.1 D).toInt.toNat : Int) := by omega
    have hd : (ρ.1 D).toInt.toNat < 4 := by omega
    have hm : (ρ.1 D).toInt.toNat * n ≤ 3 * n := Nat.mul_le_mul_right n (by omega)
    have e2 : (ρ.1 D * Int32.ofNat n + Int32.ofNat p.1).toInt = (((ρ.1 D).toInt.toNat * n + p.1 : Nat) : Int) := by
      have q : (ρ.1 D).toInt * (n : Int) = (((ρ.1 D).toInt.toNat * n : Nat) : Int) := by rw [Int.natCast_mul, Int.toNat_of_nonneg d0]
      have q1 := e1.trans q
      rw [s_add (by rw [q1, sp_nat (by omega)]; omega) (by rw [q1, sp_nat (by omega)]; omega), q1, sp_nat (by omega)]
      exact (Int.natCast_add _ _).symm
    rw [sp_o hc d0 d4 hn hj r h.2, s_nat, e2, Int.toNat_natCast, if_neg (by omega)]
/-- what the numbers and the row become -/
noncomputable def spU (a b b' : Nat) (ps : List (Nat × Nat)) (ρ : sR) : sR := (ρ.1, fun i => match ps.find? (fun p => p.2 == i) with
  | some p => if p.1 = 1 then ρ.2.2.2.1 a 1 else ρ.2.2.2.1 b p.1
  | none => ρ.2.1 i, ρ.2.2.1, fun x => if x = b' then ρ.2.2.2.1 b else ρ.2.2.2.1 x, ρ.2.2.2.2)
theorem spU_no {a b b' i : Nat} {ps : List (Nat × Nat)} {ρ : sR} (h : ps.any (fun p => p.2 == i) = false) : (spU a b b' ps ρ).2.1 i = ρ.2.1 i := by
  have e : ps.find? (fun p => p.2 == i) = none := List.find?_eq_none.mpr (fun p hp q => by
    rw [List.any_eq_false] at h
    exact h p hp q)
  show (match ps.find? (fun p => p.2 == i) with
    | some p => if p.1 = 1 then ρ.2.2.2.1 a 1 else ρ.2.2.2.1 b p.1
    | none => ρ.2.1 i) = _
  rw [e]
theorem spU_in {a b b' : Nat} {ps : List (Nat × Nat)} {ρ : sR} {p : Nat × Nat} (h : ps.find? (fun q => q.2 == p.2) = some p) : (spU a b b' ps ρ).2.1 p.2 = if p.1 = 1 then ρ.2.2.2.1 a 1 else ρ.2.2.2.1 b p.1 := by
  show (match ps.find? (fun q => q.2 == p.2) with
    | some p => if p.1 = 1 then ρ.2.2.2.1 a 1 else ρ.2.2.2.1 b p.1
    | none => ρ.2.1 p.2) = _
  rw [h]
theorem spU_vok {a b b' : Nat} {ps : List (Nat × Nat)} {ρ : sR} (hv : vok X ρ) (hn : ps.all (fun p => decide (vrng p.2 = none)) = true) (hb : vrng b' = none) : vok X (spU a b b' ps ρ) := by
  constructor
  · intro i r hr
    have ha : ps.any (fun p => p.2 == i) = false := by
      rw [List.any_eq_false]
      intro p hp q
      have h1 := of_decide_eq_true (List.all_eq_true.mp hn p hp)
      rw [beq_iff_eq] at q
      rw [q, hr] at h1
      cases h1
    have e : sn X (spU a b b' ps ρ) (.arg i) = sn X ρ (.arg i) := by
      show (if i % 2 = 1 then ((spU a b b' ps ρ).2.1 i).toInt else (ρ.1 i).toInt) = if i % 2 = 1 then (ρ.2.1 i).toInt else (ρ.1 i).toInt
      rw [spU_no ha]
    rw [e]
    exact hv.1 i r hr
  · intro x t r hr
    by_cases hx : x = b'
    · rw [hx, hb] at hr; cases hr
    · have e : sn X (spU a b b' ps ρ) (.elem (.arg x) t) = sn X ρ (.elem (.arg x) (.int (sd X (spU a b b' ps ρ) t).1)) := by
        show (if sk (.elem (.arg x) t) = 1 then ((if x = b' then ρ.2.2.2.1 b else ρ.2.2.2.1 x) _).toInt else _) = _
        rw [if_neg hx]
        rfl
      rw [e]
      exact hv.2 x _ r hr
theorem sprd_U {a b b' : Nat} {qs : List (Nat × Nat)} {ρ : sR} {f : Nat → Int64} : ∀ ps : List (Nat × Nat), (∀ p ∈ ps, qs.find? (fun q => q.2 == p.2) = some p) → (∀ p ∈ ps, (if p.1 = 1 then ρ.2.2.2.1 a 1 else ρ.2.2.2.1 b p.1) = f p.1) → ∀ j, (ρ.2.2.2.1 b j = f j ∨ ∃ p ∈ ps, p.1 = j) → sprd b' ps (spU a b b' qs ρ) j = f j
  | [], _, _, j, h => by
    show (if b' = b' then ρ.2.2.2.1 b else ρ.2.2.2.1 b') j = f j
    rw [if_pos rfl]
    rcases h with h | ⟨p, hp, _⟩
    · exact h
    · cases hp
  | p :: r, h1, h2, j, h => by
    show (if p.1 = j then (spU a b b' qs ρ).2.1 p.2 else sprd b' r (spU a b b' qs ρ) j) = f j
    by_cases e : p.1 = j
    · rw [if_pos e, spU_in (h1 p List.mem_cons_self), h2 p List.mem_cons_self, e]
    · rw [if_neg e]
      refine sprd_U r (fun q hq => h1 q (List.mem_cons_of_mem _ hq)) (fun q hq => h2 q (List.mem_cons_of_mem _ hq)) j (h.imp_right (fun ⟨q, hq, e2⟩ => ?_))
      rcases List.mem_cons.mp hq with hq | hq
      · rw [hq] at e2; exact absurd e2 e
      · exact ⟨q, hq, e2⟩
noncomputable def zSp (Z : sH) (k km D n c b : Nat) (ps : List (Nat × Nat)) : sH := hset (hset Z k (some (.inl (1, 156, .arg b, spW ps)))) km (some (.inl (1, 640, .old (.add (.sub (.arg D) (.index n)) (.add (.mul (.sub (.index 0) (.index n)) (.index b)) (.index c))), spM D n ps.tail)))
theorem SREL_spread {Z : sH} {C C' : sC} {a b b' k km D n c : Nat} {ps : List (Nat × Nat)} (hs : SREL X Ft dfl Mt K Z C) (hk0 : ∀ a l, K.2.2.1 a = some l → a < 1000) (hx : K.2.2.2 = false) (ha0 : 1000 ≤ a) (hb0 : 1000 ≤ b) (hna : vrng a = none) (hnb : vrng b = none) (ha : a % 2 = 1) (hb : b % 2 = 1) (hb' : b' % 2 = 1) (hcp : c % 2 = 1) (hab : ¬ b = a) (hba : ¬ b' = a ∧ ¬ b' = b) (hcc : ¬ c = a ∧ ¬ c = b ∧ ¬ c = b') (hn : n < 1000) (hn6 : 156 ≤ n)
    (hZ : hget Z k = some (.inl (1, 156, .arg a, []))) (hZm : hget Z km = some (.inl (1, 640, .old (.add (.sub (.arg D) (.index n)) (.add (.mul (.sub (.index 0) (.index n)) (.index b)) (.index c))), []))) (hk : k < 512) (hkm : km < 512) (hkk : ¬ k = km) (hk2 : k ∉ C.2.2.1.2) (hk1 : km ∉ C.2.2.1.1)
    (hp1 : ps.all (fun p => decide (p.1 < 156) && decide (p.2 % 2 = 1)) = true) (hp2 : ps.all (fun p => decide (ps.find? (fun q => q.2 == p.2) = some p)) = true) (hp3 : ps.all (fun p => decide (vrng p.2 = none)) = true) (hp4 : ps.head?.map Prod.fst = some 1) (hp5 : ps.tail.all (fun p => !(decide (p.1 = 1))) = true) (hDv : ps.any (fun p => p.2 == D) = false) (hD4 : vrng D = some (0, 3)) (hD2 : D % 2 = 0)
    (hid : C'.1 = C.1) (harg : C'.2.1 = C.2.1) (hcel : C'.2.2.1 = C.2.2.1) (han : C.2.2.2.2.2.1 = (none, none)) (han' : C'.2.2.2.2.2.1 = (none, none))
    (hA : (C.2.1.1 ++ C.2.1.2).all (nod (fun i => ps.any (fun p => p.2 == i)) (fun i => i == a || (i == b || i == b'))) = true) (h1 : C.2.2.1.1.all (fun c => c == k || nodO (fun i => ps.any (fun p => p.2 == i)) (fun i => i == a || (i == b || i == b')) (hget Z c)) = true) (h2 : C.2.2.1.2.all (fun c => c == km || nodO (fun i => ps.any (fun p => p.2 == i)) (fun i => i == a || (i == b || i == b')) (hget Z c)) = true)
    (hm : ∀ i, i ∉ C'.2.2.2.2.1.1 → i ∉ C.2.2.2.2.1.1 ∧ ps.any (fun p => p.2 == i) = false) (hma : ∀ x, x ∉ C'.2.2.2.2.1.2 → x ∉ C.2.2.2.2.1.2 ∧ ¬ x = a ∧ ¬ x = b ∧ ¬ x = b')
    (hp : ∀ ρ : sR, kok X ρ K → fok X ρ C'.2.2.2.1 → iok X ρ C'.2.2.2.2.2.2.2.1 → fok X (rsA b (sprd b' ps.tail ρ) (rsA a (sprd b' ps ρ) ρ)) C.2.2.2.1 ∧ iok X (rsA b (sprd b' ps.tail ρ) (rsA a (sprd b' ps ρ) ρ)) C.2.2.2.2.2.2.2.1)
    (hq : ∀ ρ2 : sR, fok X ρ2 C.2.2.2.2.2.2.1 → iok X ρ2 C.2.2.2.2.2.2.2.2 → (∀ j, j < 156 → j = 1 ∨ ρ2.2.2.2.1 a j = ρ2.2.2.2.1 b j) ∧ fok X (spU a b b' ps ρ2) C'.2.2.2.2.2.2.1 ∧ iok X (spU a b b' ps ρ2) C'.2.2.2.2.2.2.2.2) : SREL X Ft dfl Mt K (zSp Z k km D n c b' ps) C' := by
  refine SREL_via hs hid (fun ρ kk ff ii => ?_)
  obtain ⟨f1, i1⟩ := hp ρ kk ff ii
  have gne : ∀ x, ¬ x = k → ¬ x = km → hget (zSp Z k km D n c b' ps) x = hget Z x := fun x q1 q2 => (hget_ne (fun e => q2 e.symm)).trans (hget_ne (fun e => q1 e.symm))
  have gk : hget (zSp Z k km D n c b' ps) k = some (.inl (1, 156, .arg b', spW ps)) := (hget_ne (fun e => hkk e.symm)).trans (hget_self hk)
  have gm : hget (zSp Z k km D n c b' ps) km = some (.inl (1, 640, .old (.add (.sub (.arg D) (.index n)) (.add (.mul (.sub (.index 0) (.index n)) (.index b')) (.index c))), spM D n ps.tail)) := hget_self hkm
  have dm : ∀ x, hget (zSp Z k km D n c b' ps) x = none ↔ hget Z x = none := fun x => by
    by_cases q1 : x = k
    · rw [q1, gk, hZ]; simp
    · by_cases q2 : x = km
      · rw [q2, gm, hZm]; simp
      · rw [gne x q1 q2]
  have alR : ∀ (σ : sR), alk (fun i => ps.any (fun p => p.2 == i)) (fun i => i == a || (i == b || i == b')) (rsA b (sprd b' ps.tail σ) (rsA a (sprd b' ps σ) σ)) σ := fun σ => ⟨fun i _ => ⟨rfl, rfl⟩, fun x hx => by
    simp only [Bool.or_eq_false_iff, beq_eq_false_iff_ne, ne_eq] at hx
    exact ⟨rfl, (if_neg hx.2.1).trans (if_neg hx.1)⟩⟩
  have al1 := alR ρ
  have kk1 : kok X (rsA b (sprd b' ps.tail ρ) (rsA a (sprd b' ps ρ) ρ)) K := ⟨kk.1, kk.2.1, fun x l hl j => ⟨(kk.2.2.1 x l hl j).1, by
    have hl2 := hk0 x l hl
    show (if x = b then sprd b' ps.tail ρ else if x = a then sprd b' ps ρ else ρ.2.2.2.1 x) j = _
    rw [if_neg (by omega), if_neg (by omega)]
    exact (kk.2.2.1 x l hl j).2⟩, fun e => by rw [hx] at e; cases e⟩
  have argE : ∀ L : List sT, L.all (nod (fun i => ps.any (fun p => p.2 == i)) (fun i => i == a || (i == b || i == b'))) = true → dS X (rsA b (sprd b' ps.tail ρ) (rsA a (sprd b' ps ρ) ρ)) L = dS X ρ L := fun L hL => List.map_congr_left (fun t ht => nod_v al1 (List.all_eq_true.mp hL t ht))
  rw [List.all_append, Bool.and_eq_true] at hA
  have hpt : ∀ p ∈ ps.tail, p ∈ ps := fun p hp => List.mem_of_mem_tail hp
  have w1 : ps.all (fun p => decide (p.1 < 1000) && decide (p.2 % 2 = 1)) = true := List.all_eq_true.mpr (fun p hp => by
    have := List.all_eq_true.mp hp1 p hp
    simp only [Bool.and_eq_true, decide_eq_true_eq] at this ⊢
    omega)
  have w2 : ps.tail.all (fun p => decide (p.1 < n) && decide (p.2 % 2 = 1)) = true := List.all_eq_true.mpr (fun p hp => by
    have := List.all_eq_true.mp hp1 p (hpt p hp)
    simp only [Bool.and_eq_true, decide_eq_true_eq] at this ⊢
    omega)
  have dr : ∀ σ : sR, vok X σ → 0 ≤ (σ.1 D).toInt ∧ (σ.1 D).toInt < 4 := fun σ hv => by
    have h := hv.1 D (0, 3) hD4
    have e : sn X σ (.arg D) = (σ.1 D).toInt := by
      show (if D % 2 = 1 then _ else (σ.1 D).toInt) = _
      rw [if_neg (by omega)]
    rw [e] at h
    obtain ⟨q1, q2⟩ := h
    dsimp only at q1 q2
    omega
  obtain ⟨d0, d4⟩ := dr ρ ff.1
  refine ⟨rsA b (sprd b' ps.tail ρ) (rsA a (sprd b' ps ρ) ρ), kk1, f1, i1, ?_, ?_, ?_, ?_, ?_⟩
  · rw [harg]; exact argE _ hA.1
  · rw [harg]; exact argE _ hA.2
  · intro B G hR
    rw [hcel] at hR
    refine HR_view (ρ1 := ρ) (ρ2 := rsA b (sprd b' ps.tail ρ) (rsA a (sprd b' ps ρ) ρ)) (fun c _ q => (dm c).mpr q) (fun x hc e1 e2 y g1 g2 hy => ?_) (fun c _ q => (dm c).mp q) hR
    by_cases hck : x = k
    · rw [hck, gk] at g1
      rw [hck, hZ] at g2
      cases g1
      cases g2
      cases y with
      | inr z => exact hy.elim
      | inl z =>
        obtain ⟨q1, q2, q3, q4⟩ := hy
        refine ⟨q1, q2, fun j hj => ?_, fun u hu => by cases hu⟩
        rw [q3 j hj, sp_w hb' ps w1]
        show _ = (if a % 2 = 1 then Value.long ((if a = b then sprd b' ps.tail ρ else if a = a then sprd b' ps ρ else ρ.2.2.2.1 a) j) else _)
        rw [if_pos ha, if_neg (fun e => hab e.symm), if_pos rfl]
    · have hxm : ¬ x = km := fun e => hk1 (e ▸ hc)
      rw [gne x hck hxm] at g1
      rw [g1] at g2
      cases g2
      have hc2 := List.all_eq_true.mp h1 x hc
      rw [Bool.or_eq_true] at hc2
      have hc3 := hc2.resolve_left (by simpa using hck)
      rw [g1] at hc3
      exact nod2_CR (alk_symm al1) hc3 hy
  · intro B G hR
    rw [hcel] at hR
    refine HR_view (ρ1 := ρ) (ρ2 := rsA b (sprd b' ps.tail ρ) (rsA a (sprd b' ps ρ) ρ)) (fun c _ q => (dm c).mpr q) (fun x hc e1 e2 y g1 g2 hy => ?_) (fun c _ q => (dm c).mp q) hR
    have hck : ¬ x = k := fun e => hk2 (e ▸ hc)
    by_cases hxm : x = km
    · rw [hxm, gm] at g1
      rw [hxm, hZm] at g2
      cases g1
      cases g2
      cases y with
      | inr z => exact hy.elim
      | inl z =>
        obtain ⟨q1, q2, q3, q4⟩ := hy
        refine ⟨q1, q2, fun j hj => ?_, fun u hu => by cases hu⟩
        rw [q3 j hj]
        have eD : (rsA b (sprd b' ps.tail ρ) (rsA a (sprd b' ps ρ) ρ)).1 D = ρ.1 D := rfl
        by_cases hi : (ρ.1 D).toInt.toNat * n ≤ j ∧ j < (ρ.1 D).toInt.toNat * n + n
        · rw [sp_m (c := c) hb' d0 d4 hn hi.1 hi.2 ps.tail w2, show ([] : List (sT × sT)) = spM D n [] from rfl, sp_m (b := b) (c := c) hb (by rw [eD]; exact d0) (by rw [eD]; exact d4) hn (by rw [eD]; exact hi.1) (by rw [eD]; exact hi.2) [] rfl]
          show _ = Value.long ((if b = b then sprd b' ps.tail ρ else _) _)
          rw [if_pos rfl]
          rfl
        · rw [sp_o hcp d0 d4 hn hi ps.tail w2, show ([] : List (sT × sT)) = spM D n [] from rfl, sp_o (b := b) hcp (by rw [eD]; exact d0) (by rw [eD]; exact d4) hn (by rw [eD]; exact hi) [] rfl]
          show _ = Value.long ((if c = b then sprd b' ps.tail ρ else if c = a then sprd b' ps ρ else ρ.2.2.2.1 c) j)
          rw [if_neg hcc.2.1, if_neg hcc.1]
    · rw [gne x hck hxm] at g1
      rw [g1] at g2
      cases g2
      have hc2 := List.all_eq_true.mp h2 x hc
      rw [Bool.or_eq_true] at hc2
      have hc3 := hc2.resolve_left (by simpa using hxm)
      rw [g1] at hc3
      exact nod2_CR (alk_symm al1) hc3 hy
  · intro ρ2 hkeep f2 i2
    obtain ⟨he, f3, i3⟩ := hq ρ2 f2 i2
    have al2 : alk (fun i => ps.any (fun p => p.2 == i)) (fun i => i == a || (i == b || i == b')) (spU a b b' ps ρ2) ρ2 := ⟨fun i hi => ⟨rfl, spU_no hi⟩, fun x hx => by
      simp only [Bool.or_eq_false_iff, beq_eq_false_iff_ne, ne_eq] at hx
      exact ⟨rfl, if_neg hx.2.2⟩⟩
    obtain ⟨e0, e4⟩ := dr ρ2 f2.1
    have fnd : ∀ p ∈ ps, ps.find? (fun q => q.2 == p.2) = some p := fun p hp => of_decide_eq_true (List.all_eq_true.mp hp2 p hp)
    have hd1 : ∃ p ∈ ps, p.1 = 1 := by
      cases ps with
      | nil => cases hp4
      | cons p r => exact ⟨p, List.mem_cons_self, Option.some.inj hp4⟩
    have s1 : ∀ j, j < 156 → sprd b' ps (spU a b b' ps ρ2) j = ρ2.2.2.2.1 a j := fun j hj => by
      refine sprd_U ps fnd (fun p hp => ?_) j ?_
      · by_cases e : p.1 = 1
        · rw [if_pos e, e]
        · have hp6 := List.all_eq_true.mp hp1 p hp
          simp only [Bool.and_eq_true, decide_eq_true_eq] at hp6
          rw [if_neg e, (he p.1 hp6.1).resolve_left e]
      · rcases he j hj with e | e
        · obtain ⟨p, hp, q⟩ := hd1
          exact Or.inr ⟨p, hp, q.trans e.symm⟩
        · exact Or.inl e.symm
    have s2 : ∀ j, sprd b' ps.tail (spU a b b' ps ρ2) j = ρ2.2.2.2.1 b j := fun j => by
      refine sprd_U ps.tail (fun p hp => fnd p (hpt p hp)) (fun p hp => ?_) j (Or.inl rfl)
      have h5 := List.all_eq_true.mp hp5 p hp
      simp only [Bool.not_eq_true', decide_eq_false_iff_not] at h5
      rw [if_neg h5]
    refine ⟨spU a b b' ps ρ2, ⟨fun i hi => ?_, fun x hx j => ?_⟩, f3, i3, ?_, ?_, ?_, ?_⟩
    · obtain ⟨q1, q2⟩ := hm i hi
      obtain ⟨k1, k2⟩ := hkeep.1 i q1
      exact ⟨k1, (spU_no q2).trans k2⟩
    · obtain ⟨q1, q2, q3, q4⟩ := hma x hx
      have k1 := hkeep.2 x q1 j
      have e1 : bden X (spU a b b' ps ρ2) (.arg x) j = bden X ρ2 (.arg x) j := by
        show (if x % 2 = 1 then Value.long ((if x = b' then ρ2.2.2.2.1 b else ρ2.2.2.2.1 x) j) else _) = _
        rw [if_neg q4]
        rfl
      have e2 : bden X (rsA b (sprd b' ps.tail ρ) (rsA a (sprd b' ps ρ) ρ)) (.arg x) j = bden X ρ (.arg x) j := by
        show (if x % 2 = 1 then Value.long ((if x = b then sprd b' ps.tail ρ else if x = a then sprd b' ps ρ else ρ.2.2.2.1 x) j) else _) = _
        rw [if_neg q3, if_neg q2]
        rfl
      rw [e1, k1, e2]
    · rw [han, han']; rfl
    · rw [han, han']; rfl
    · intro B G hR
      rw [hcel]
      refine HR_view (ρ1 := ρ2) (ρ2 := spU a b b' ps ρ2) (fun c _ q => (dm c).mp q) (fun x hc e1 e2 y g1 g2 hy => ?_) (fun c _ q => (dm c).mpr q) hR
      by_cases hck : x = k
      · rw [hck, hZ] at g1
        rw [hck, gk] at g2
        cases g1
        cases g2
        cases y with
        | inr z => exact hy.elim
        | inl z =>
          obtain ⟨q1, q2, q3, q4⟩ := hy
          refine ⟨q1, q2, fun j hj => ?_, fun u hu => ?_⟩
          · have hj : j < 156 := hj
            rw [q3 j hj, sp_w hb' ps w1, s1 j hj]
            show (if a % 2 = 1 then Value.long (ρ2.2.2.2.1 a j) else _) = _
            rw [if_pos ha]
          · obtain ⟨p, hp, rfl⟩ := List.mem_map.mp hu
            show ¬ Int32.ofNat p.1 < 0
            have hp6 := List.all_eq_true.mp hp1 p hp
            simp only [Bool.and_eq_true, decide_eq_true_eq] at hp6
            rw [Int32.lt_iff_toInt_lt, sp_nat (by omega)]
            show ¬ _ < (0 : Int)
            omega
      · have hxm : ¬ x = km := fun e => hk1 (e ▸ hc)
        rw [gne x hck hxm] at g2
        rw [g1] at g2
        cases g2
        have hc2 := List.all_eq_true.mp h1 x hc
        rw [Bool.or_eq_true] at hc2
        have hc3 := hc2.resolve_left (by simpa using hck)
        rw [g1] at hc3
        exact nod2_CR (alk_symm al2) hc3 hy
    · intro B G hR
      rw [hcel]
      refine HR_view (ρ1 := ρ2) (ρ2 := spU a b b' ps ρ2) (fun c _ q => (dm c).mp q) (fun x hc e1 e2 y g1 g2 hy => ?_) (fun c _ q => (dm c).mpr q) hR
      have hck : ¬ x = k := fun e => hk2 (e ▸ hc)
      by_cases hxm : x = km
      · rw [hxm, hZm] at g1
        rw [hxm, gm] at g2
        cases g1
        cases g2
        cases y with
        | inr z => exact hy.elim
        | inl z =>
          obtain ⟨q1, q2, q3, q4⟩ := hy
          have eD : (spU a b b' ps ρ2).1 D = ρ2.1 D := rfl
          refine ⟨q1, q2, fun j hj => ?_, fun u hu => ?_⟩
          · rw [q3 j hj]
            by_cases hi : (ρ2.1 D).toInt.toNat * n ≤ j ∧ j < (ρ2.1 D).toInt.toNat * n + n
            · rw [sp_m (b := b') (c := c) hb' (by rw [eD]; exact e0) (by rw [eD]; exact e4) hn (by rw [eD]; exact hi.1) (by rw [eD]; exact hi.2) ps.tail w2, s2, show ([] : List (sT × sT)) = spM D n [] from rfl, sp_m (b := b) (c := c) hb e0 e4 hn hi.1 hi.2 [] rfl]
              rfl
            · rw [sp_o (b := b') hcp (by rw [eD]; exact e0) (by rw [eD]; exact e4) hn (by rw [eD]; exact hi) ps.tail w2, show ([] : List (sT × sT)) = spM D n [] from rfl, sp_o (b := b) hcp e0 e4 hn hi [] rfl]
              show _ = Value.long ((if c = b' then ρ2.2.2.2.1 b else ρ2.2.2.2.1 c) j)
              rw [if_neg hcc.2.2]
          · obtain ⟨p, hp, rfl⟩ := List.mem_map.mp hu
            show ¬ ((spU a b b' ps ρ2).1 D * Int32.ofNat n + Int32.ofNat p.1) < 0
            have hp6 := List.all_eq_true.mp hp1 p (hpt p hp)
            simp only [Bool.and_eq_true, decide_eq_true_eq] at hp6
            rw [eD, Int32.lt_iff_toInt_lt]
            have h3 : (ρ2.1 D).toInt = 0 ∨ (ρ2.1 D).toInt = 1 ∨ (ρ2.1 D).toInt = 2 ∨ (ρ2.1 D).toInt = 3 := by omega
            have q5 : (ρ2.1 D * Int32.ofNat n + Int32.ofNat p.1).toInt = (ρ2.1 D).toInt * n + p.1 := by
              refine i_of (n := (ρ2.1 D).toInt * n + p.1) (by rw [i_ad (i_ml (i_s (ρ2.1 D)) (i_s (Int32.ofNat n))) (i_s (Int32.ofNat p.1)), sp_nat (by omega), sp_nat (by omega)]) ?_ ?_
              · rcases h3 with q | q | q | q <;> rw [q] <;> omega
              · rcases h3 with q | q | q | q <;> rw [q] <;> omega
            rw [q5]
            show ¬ _ < (0 : Int)
            rcases h3 with q | q | q | q <;> rw [q] <;> omega
      · rw [gne x hck hxm] at g2
        rw [g1] at g2
        cases g2
        have hc2 := List.all_eq_true.mp h2 x hc
        rw [Bool.or_eq_true] at hc2
        have hc3 := hc2.resolve_left (by simpa using hxm)
        rw [g1] at hc3
        exact nod2_CR (alk_symm al2) hc3 hy
end SPREAD
