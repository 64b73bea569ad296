/-! ===== one drive's view, where a row in which all drives stand has places of their own ===== -/
/-- a place of the whole row: it is one of the drive's own, or lies besides and stays -/
noncomputable def fwp (D : Nat) (k : Int32) (mods : List Nat) (u2 : List (sT × sT)) (lo hi : Nat) (x : sT × sT) : Bool := match x.1 with
  | .int v => u2.any (fun y => match pevI D k y.1 with
      | some q => decide (q.toNatClampNeg = v.toNatClampNeg)
      | none => false) || ((Nat.blt v.toNatClampNeg lo || Nat.ble hi v.toNatClampNeg) && nod (fun i => i == D || mods.contains i) (fun _ => true) x.2)
  | _ => false
noncomputable def fcw_ (D : Nat) (k : Int32) (RL : List (Nat × Nat)) (mods moda : List Nat) (c : Nat) (e1 e2 : sE) : Bool := match e1, e2 with
  | .inl (t1, n1, .old (.mul (.sub (.index m) (.index w)) l1), u1), .inl (t2, n2, .old (.add (.sub (.arg q) (.index kk)) (.add (.mul (.sub (.index m2) (.index w2)) l2) (.index r))), u2) => decide (t1 = t2) && (decide (n1 = n2) && (decide (q = D) && (decide (m = m2) && (decide (w = w2) && (decide (0 < w) && (decide (kk = w * (kk / w)) && (decide (rfd RL r = some (r, c)) && ((List.range (kk / w)).all (fun b => decide (catA l2 b = catA l1 (k.toNatClampNeg * (kk / w) + b))) && (nodL (fun a => (RL.map (fun p => p.1)).contains a) l2 && ((List.range ((n1 + w - 1) / w)).all (fun b => match catA l1 b with
      | some a => decide (a % 2 = r % 2) && (decide (k.toNatClampNeg * (kk / w) ≤ b ∧ b < k.toNatClampNeg * (kk / w) + kk / w) || (!(moda.contains a) && !((RL.map (fun p => p.1)).contains a)))
      | none => false) && (!(moda.contains r) && (u1.all (fun x => sk x.2 == r % 2) && (u2.all (fun x => fsm D k u1 x && nod (fun i => i == D) (fun a => (RL.map (fun p => p.1)).contains a) x.2) && (u1.all (fwp D k mods u2 (k.toNatClampNeg * kk) (k.toNatClampNeg * kk + kk)) && u1.all (fun x => pnn x.1)))))))))))))))
  | _, _ => false
section FOW
variable {X : pX} {Z : sH} {D : Nat} {k : Int32} {RL : List (Nat × Nat)} {ρ ρ' : sR}
noncomputable def tyv (r : Nat) (v : Value) : Value := if r % 2 = 1 then .long (vL v) else .int (vI v)
theorem kd_adn {r j : Nat} {b : sT} (hb : bden X ρ b j = tyv r (bden X ρ b j)) : ∀ u : List (sT × sT), u.all (fun x => sk x.2 == r % 2) = true → aden X ρ b u j = tyv r (aden X ρ b u j)
  | [], _ => hb
  | x :: u, h => by
    simp only [List.all_cons, Bool.and_eq_true, beq_iff_eq] at h
    show (if (sd X ρ x.1).1.toNatClampNeg = j then sv X ρ x.2 else aden X ρ b u j) = tyv r (if (sd X ρ x.1).1.toNatClampNeg = j then sv X ρ x.2 else aden X ρ b u j)
    by_cases hc : (sd X ρ x.1).1.toNatClampNeg = j
    · rw [if_pos hc]
      exact kd_sv h.1
    · rw [if_neg hc]
      exact kd_adn hb u h.2
/-- no place of the row is hit where the drive's own are not -/
theorem fwp_in {ρ1 : sR} {mods : List Nat} {u2 : List (sT × sT)} {lo hi j : Nat} (hD : ρ1.1 D = k) (hx : ¬ ∃ x ∈ u2, (sd X ρ1 x.1).1.toNatClampNeg = j) (h1 : lo ≤ j) (h2 : j < hi) {x : sT × sT} (h : fwp D k mods u2 lo hi x = true) (ρ2 : sR) : ¬ (sd X ρ2 x.1).1.toNatClampNeg = j := fun e => by
  unfold fwp at h
  split at h
  · next v hv =>
    rw [hv] at e
    have e : v.toNatClampNeg = j := e
    rcases Bool.or_eq_true _ _ ▸ h with h3 | h3
    · obtain ⟨y, hy, h4⟩ := List.any_eq_true.mp h3
      split at h4
      · next q hq =>
        have h5 := pevI_ok (X := X) hD hq
        exact hx ⟨y, hy, by rw [h5, of_decide_eq_true h4]; exact e⟩
      · cases h4
    · simp only [Bool.and_eq_true, Bool.or_eq_true] at h3
      rcases h3.1 with h4 | h4
      · have := Nat.blt_eq.mp h4
        omega
      · have := Nat.le_of_ble_eq_true h4
        omega
  · cases h
theorem fwp_out {mods : List Nat} {u2 : List (sT × sT)} {b : sT} {lo hi j : Nat} (hD : ρ'.1 D = k) (ha : alk (fun i => i == D || mods.contains i) (fun _ => true) ρ ρ') (hb : bden X ρ b j = bden X ρ' b j) (hx : ¬ ∃ x ∈ u2, (sd X ρ' x.1).1.toNatClampNeg = j) : ∀ w : List (sT × sT), w.all (fwp D k mods u2 lo hi) = true → aden X ρ b w j = aden X ρ' b w j
  | [], _ => hb
  | x :: r, hw => by
    simp only [List.all_cons, Bool.and_eq_true] at hw
    have ih := fwp_out hD ha hb hx r hw.2
    have h1 := hw.1
    unfold fwp at h1
    split at h1
    · next v hv =>
      show (if (sd X ρ x.1).1.toNatClampNeg = j then sv X ρ x.2 else aden X ρ b r j) = if (sd X ρ' x.1).1.toNatClampNeg = j then sv X ρ' x.2 else aden X ρ' b r j
      rw [hv]
      show (if v.toNatClampNeg = j then sv X ρ x.2 else aden X ρ b r j) = if v.toNatClampNeg = j then sv X ρ' x.2 else aden X ρ' b r j
      by_cases e : v.toNatClampNeg = j
      · rw [if_pos e, if_pos e]
        rcases Bool.or_eq_true _ _ ▸ h1 with h2 | h2
        · exfalso
          obtain ⟨y, hy, h3⟩ := List.any_eq_true.mp h2
          split at h3
          · next q hq =>
            have h4 := pevI_ok (X := X) hD hq
            exact hx ⟨y, hy, by rw [h4, of_decide_eq_true h3]; exact e⟩
          · cases h3
        · simp only [Bool.and_eq_true] at h2
          exact nod_v ha h2.2
      · rw [if_neg e, if_neg e]
        exact ih
    · cases h1
theorem fcw_ok {C : sC} {c : Nat} {e1 e2 : sE} (h : fcw_ D k RL C.2.2.2.2.1.1 C.2.2.2.2.1.2 c e1 e2 = true) (hZ : hget Z c = some e1) : (∀ {y : pE}, CR X ρ e1 y → CR X (rfo X Z D k RL ρ) e2 y) ∧ (stay X C ρ' (rfo X Z D k RL ρ) → D ∉ C.2.2.2.2.1.1 → ∀ {y : pE}, CR X ρ' e2 y → CR X ρ' e1 y) := by
  unfold fcw_ at h
  split at h
  · next t1 n1 m w l1 u1 t2 n2 q kk m2 w2 l2 r u2 =>
    simp only [Bool.and_eq_true, decide_eq_true_eq] at h
    obtain ⟨h3, h4, h5, h6, h7, h8, h9, h10, h11, h12, h13, h14, h15, h16, h17, h18⟩ := h
    have h5 := h5.symm
    subst h3 h4 h5 h6 h7
    generalize hlen : kk / w = len at h9 h11 h13
    subst h9
    have hl : ∀ b, b < len → catA l2 b = catA l1 (k.toNatClampNeg * len + b) := fun b hb => of_decide_eq_true (List.all_eq_true.mp h11 b (List.mem_range.mpr hb))
    have hj13 : ∀ j, j < n1 → ∃ a, catA l1 (j / w) = some a ∧ a % 2 = r % 2 ∧ ((k.toNatClampNeg * (w * len) ≤ j ∧ j < k.toNatClampNeg * (w * len) + w * len) ∨ (a ∉ C.2.2.2.2.1.2 ∧ (RL.map (fun p => p.1)).contains a = false)) := fun j hj => by
      have hb : j / w < (n1 + w - 1) / w := by
        have e1 : n1 + w - 1 = (n1 - 1) + w := by omega
        rw [e1, Nat.add_div_right _ h8]
        have := Nat.div_le_div_right (c := w) (show j ≤ n1 - 1 by omega)
        omega
      have h15 := List.all_eq_true.mp h13 (j / w) (List.mem_range.mpr hb)
      cases hc : catA l1 (j / w) with
      | none => rw [hc] at h15; cases h15
      | some a =>
        rw [hc] at h15
        simp only [Bool.and_eq_true, Bool.or_eq_true, decide_eq_true_eq, Bool.not_eq_true'] at h15
        refine ⟨a, rfl, h15.1, ?_⟩
        rcases h15.2 with h16 | h16
        · exact Or.inl (blk_of h8 h16)
        · exact Or.inr ⟨ncont (by rw [h16.1]; rfl), h16.2⟩
    have hu : ∀ x ∈ u2, fsm D k u1 x = true ∧ nod (fun i => i == D) (fun a => (RL.map (fun p => p.1)).contains a) x.2 = true := fun x hx => by
      have := List.all_eq_true.mp h16 x hx
      simpa only [Bool.and_eq_true] using this
    have hfco : ∀ j, fco X Z ρ c j = aden X ρ (.old (.mul (.sub (.index m) (.index w)) l1)) u1 j := fun j => by
      unfold fco
      rw [hZ]
    have hty : ∀ j, j < n1 → aden X ρ (.old (.mul (.sub (.index m) (.index w)) l1)) u1 j = tyv r (fco X Z ρ c j) := fun j hj => by
      obtain ⟨a, ha, hpa, -⟩ := hj13 j hj
      rw [hfco]
      exact kd_adn (show bden X ρ (.old (.mul (.sub (.index m) (.index w)) l1)) j = tyv r (bden X ρ (.old (.mul (.sub (.index m) (.index w)) l1)) j) from rden_k (ρ := ρ) (m := m) ⟨a, ha, hpa⟩) u1 h15
    have hhit : ∀ (ρ1 : sR) (b : sT) (j : Nat), ρ1.1 D = k → (∃ x ∈ u2, (sd X ρ1 x.1).1.toNatClampNeg = j) → ∃ y : sT, aden X ρ1 b u2 j = sv X ρ1 y ∧ nod (fun i => i == D) (fun a => (RL.map (fun p => p.1)).contains a) y = true ∧ ∀ (ρ2 : sR) (b2 : sT), aden X ρ2 b2 u1 j = sv X ρ2 y := fun ρ1 b j hD hx => by
      obtain ⟨x, hx2, hj, hv⟩ := aden_first (X := X) (ρ := ρ1) (b := b) u2 hx
      have h1 := (hu x hx2).1
      unfold fsm at h1
      split at h1
      · next v hq =>
        simp only [Bool.and_eq_true, decide_eq_true_eq] at h1
        rw [pevI_ok (X := X) hD hq] at hj
        have h2 := h1.2
        split at h2
        · next y hy =>
          have e := tqe_ok _ _ h2
          refine ⟨x.2, hv, (hu x hx2).2, fun ρ2 b2 => ?_⟩
          rw [← e, ← hj]
          exact lk1_ok u1 y hy
        · cases h2
      · cases h1
    constructor
    · intro y hy
      cases y with
      | inr z => exact hy.elim
      | inl z =>
        obtain ⟨q1, q2, q3, q4⟩ := hy
        refine ⟨q1, q2, fun j hj => (q3 j hj).trans ?_, fun x hx => ?_⟩
        · by_cases hx : ∃ x ∈ u2, (sd X (rfo X Z D k RL ρ) x.1).1.toNatClampNeg = j
          · obtain ⟨y, e1, e2, e3⟩ := hhit (rfo X Z D k RL ρ) (.old (.add (.sub (.arg D) (.index (w * len))) (.add (.mul (.sub (.index m) (.index w)) l2) (.index r)))) j rfo_D hx
            rw [e1, e3 ρ _]
            exact (nod_v rfo_alk e2).symm
          · rw [aden_no u2 (fun x hx2 e => hx ⟨x, hx2, e⟩)]
            show _ = (if ((rfo X Z D k RL ρ).1 D).toNatClampNeg * (w * len) ≤ j ∧ j < ((rfo X Z D k RL ρ).1 D).toNatClampNeg * (w * len) + w * len then rden (rfo X Z D k RL ρ) m w l2 (j - ((rfo X Z D k RL ρ).1 D).toNatClampNeg * (w * len)) else bden X (rfo X Z D k RL ρ) (.arg r) j)
            rw [rfo_D]
            by_cases hb : k.toNatClampNeg * (w * len) ≤ j ∧ j < k.toNatClampNeg * (w * len) + w * len
            · rw [if_pos hb, row_in h8 hl (fun b a hb => rfo_alk.2 a (nodL_c l2 b a h12 hb)) hb.1 hb.2]
              exact aden_no u1 (fun x hx1 => fwp_in (X := X) rfo_D hx hb.1 hb.2 (List.all_eq_true.mp h17 x hx1) ρ)
            · rw [if_neg hb, rfo_r h10]
              exact hty j hj
        · have h11 := (hu x hx).1
          unfold fsm at h11
          split at h11
          · next v hv =>
            simp only [Bool.and_eq_true, decide_eq_true_eq] at h11
            rw [pevI_ok (X := X) (ρ := rfo X Z D k RL ρ) rfo_D hv]
            exact h11.1
          · cases h11
    · intro hs hDm y hy
      have hD : ρ'.1 D = k := ((hs.1 D hDm).1).trans rfo_D
      cases y with
      | inr z => exact hy.elim
      | inl z =>
        obtain ⟨q1, q2, q3, q4⟩ := hy
        refine ⟨q1, q2, fun j hj => (q3 j hj).trans ?_, fun x hx => ?_⟩
        · by_cases hx : ∃ x ∈ u2, (sd X ρ' x.1).1.toNatClampNeg = j
          · obtain ⟨y, e1, -, e3⟩ := hhit ρ' (.old (.add (.sub (.arg D) (.index (w * len))) (.add (.mul (.sub (.index m) (.index w)) l2) (.index r)))) j hD hx
            rw [e1, e3 ρ' _]
          · rw [aden_no u2 (fun x hx2 e => hx ⟨x, hx2, e⟩)]
            obtain ⟨a, ha, hpa, ho⟩ := hj13 j hj
            by_cases hb : k.toNatClampNeg * (w * len) ≤ j ∧ j < k.toNatClampNeg * (w * len) + w * len
            · show (if (ρ'.1 D).toNatClampNeg * (w * len) ≤ j ∧ j < (ρ'.1 D).toNatClampNeg * (w * len) + w * len then rden ρ' m w l2 (j - (ρ'.1 D).toNatClampNeg * (w * len)) else bden X ρ' (.arg r) j) = _
              rw [hD, if_pos hb, row_in h8 hl (fun _ _ _ => ⟨rfl, rfl⟩) hb.1 hb.2]
              exact (aden_no (b := .old (.mul (.sub (.index m) (.index w)) l1)) u1 (fun x hx1 => fwp_in (X := X) hD hx hb.1 hb.2 (List.all_eq_true.mp h17 x hx1) ρ')).symm
            · show (if (ρ'.1 D).toNatClampNeg * (w * len) ≤ j ∧ j < (ρ'.1 D).toNatClampNeg * (w * len) + w * len then rden ρ' m w l2 (j - (ρ'.1 D).toNatClampNeg * (w * len)) else bden X ρ' (.arg r) j) = _
              rw [hD, if_neg hb, hs.2 r (ncont h14) j, rfo_r h10]
              refine (hty j hj).symm.trans ?_
              refine fwp_out hD ⟨fun i hi => ?_, fun a ha => by cases ha⟩ ?_ hx u1 h17
              · have hi : i ≠ D ∧ i ∉ C.2.2.2.2.1.1 := by
                  simp only [Bool.or_eq_false_iff, beq_eq_false_iff_ne, ne_eq] at hi
                  exact ⟨hi.1, fun e => by rw [List.contains_iff_mem.mpr e] at hi; exact absurd hi.2 (by decide)⟩
                have h1 := hs.1 i hi.2
                have h2 : (rfo X Z D k RL ρ).1 i = ρ.1 i := if_neg hi.1
                exact ⟨(h1.1.trans h2).symm, h1.2.symm⟩
              · rcases ho with h1 | ⟨h1, h2⟩
                · exact absurd h1 hb
                · have h3 : bden X ρ' (.arg a) (j % w) = bden X ρ (.arg a) (j % w) := by
                    rw [hs.2 a h1 (j % w)]
                    show (if a % 2 = 1 then Value.long ((rfo X Z D k RL ρ).2.2.2.1 a (j % w)) else .int ((rfo X Z D k RL ρ).2.2.1 a (j % w))) = if a % 2 = 1 then Value.long (ρ.2.2.2.1 a (j % w)) else .int (ρ.2.2.1 a (j % w))
                    rw [(rfo_alk.2 a h2).1, (rfo_alk.2 a h2).2]
                  have h3 : (if a % 2 = 1 then Value.long (ρ'.2.2.2.1 a (j % w)) else .int (ρ'.2.2.1 a (j % w))) = if a % 2 = 1 then Value.long (ρ.2.2.2.1 a (j % w)) else .int (ρ.2.2.1 a (j % w)) := h3
                  show rden ρ m w l1 j = rden ρ' m w l1 j
                  unfold rden
                  rw [ha]
                  dsimp only
                  by_cases h4 : a % 2 = 1
                  · rw [if_pos h4, if_pos h4] at h3 ⊢
                    exact h3.symm
                  · rw [if_neg h4, if_neg h4] at h3 ⊢
                    rw [Value.int.inj h3]
        · have h11 := List.all_eq_true.mp h18 x hx
          unfold pnn at h11
          split at h11
          · next v hv => rw [hv]; exact of_decide_eq_true h11
          · cases h11
  · cases h
noncomputable def fcelW (D : Nat) (k : Int32) (RL : List (Nat × Nat)) (mods moda : List Nat) (Z1 Z2 : sH) (c : Nat) : Bool := fcel D k RL mods moda Z1 Z2 c || (match hget Z1 c, hget Z2 c with
  | some e1, some e2 => fcw_ D k RL mods moda c e1 e2
  | _, _ => false)
/-- a contract over one drive's view is one over all -/
theorem SREL_drvW {Ft : Nat → Nat → FieldType} {dfl : Nat → Nat × List Value} {Mt : List pM} {K : sK} {Z1 Z2 : sH} {C : sC} {pre1 : sFs} (hx : K.2.2.2 = false) (hk0 : ∀ a l, K.2.2.1 a = some l → a < 1000) (hp : C.2.2.2.1 = ((0, .arg D, .int k), true) :: pre1) (hD : ∀ q, vrng D = some q → q.1 ≤ k.toInt ∧ k.toInt ≤ q.2) (hD2 : D % 2 = 0) (hDm : D ∉ C.2.2.2.2.1.1) (hR : RL.all (rgc Z1) = true) (n1 : nodF (fun i => i == D) (fun a => (RL.map (fun p => p.1)).contains a) pre1 = true) (n2 : nodI (fun i => i == D) (fun a => (RL.map (fun p => p.1)).contains a) C.2.2.2.2.2.2.2.1 = true) (n3 : C.2.1.1.all (nod (fun i => i == D) (fun a => (RL.map (fun p => p.1)).contains a)) = true) (n4 : C.2.1.2.all (nod (fun i => i == D) (fun a => (RL.map (fun p => p.1)).contains a)) = true) (hc : (C.2.2.1.1 ++ C.2.2.1.2).all (fcelW D k RL C.2.2.2.2.1.1 C.2.2.2.2.1.2 Z1 Z2) = true) (h : SREL X Ft dfl Mt K Z2 C) : SREL X Ft dfl Mt K Z1 (C.1, C.2.1, C.2.2.1, pre1, (D :: C.2.2.2.2.1.1, RL.map (fun p => p.1) ++ C.2.2.2.2.1.2), C.2.2.2.2.2) := by
  have cel : ∀ c, c ∈ C.2.2.1.1 ∨ c ∈ C.2.2.1.2 → fcelW D k RL C.2.2.2.2.1.1 C.2.2.2.2.1.2 Z1 Z2 c = true := fun c hm => List.all_eq_true.mp hc c (List.mem_append.mpr hm)
  refine SREL_foc (R := RL.map (fun p => p.1)) hp (rfo X Z1 D k RL) (fun ρ => rfo_alk) (fun ρ => rfo_D) (fun ρ hv => rfo_vok hv hD hD2 hR) (fun ρ hk => rfo_kok hx hk0 hR hk) n1 n2 n3 n4 (fun c hm => ?_) (fun ρ hv c hm e1 e2 y h1 h2 h3 => ?_) (fun ρ ρ' hv hs c hm e1 e2 y h1 h2 h3 => ?_) h
  · have h0 := cel c hm
    unfold fcelW at h0
    rcases (Bool.or_eq_true _ _).mp h0 with h1 | h1
    · unfold fcel at h1
      split at h1
      · next e1 e2 g1 g2 => rw [g1, g2]; exact ⟨fun e => (by cases e), fun e => (by cases e)⟩
      · next g1 g2 => rw [g1, g2]
      · cases h1
    · split at h1
      · next e1 e2 g1 g2 => rw [g1, g2]; exact ⟨fun e => (by cases e), fun e => (by cases e)⟩
      · cases h1
  · have h0 := cel c hm
    unfold fcelW at h0
    rcases (Bool.or_eq_true _ _).mp h0 with h4 | h4
    · unfold fcel at h4
      rw [h1, h2] at h4
      simp only [Bool.or_eq_true, Bool.and_eq_true, decide_eq_true_eq] at h4
      rcases h4 with ⟨h5, h6⟩ | h5 | h5 | h5
      · subst h5
        exact nod_CR (alk_symm rfo_alk) h6 h3
      · exact fcs_fw h5 h1 h3
      · exact (fcr_ok (ρ' := ρ) h5 h1).1 h3
      · exact fch_fw hD2 h5 h3
    · rw [h1, h2] at h4
      exact (fcw_ok (ρ' := ρ) h4 h1).1 h3
  · have h0 := cel c hm
    unfold fcelW at h0
    rcases (Bool.or_eq_true _ _).mp h0 with h4 | h4
    · unfold fcel at h4
      rw [h1, h2] at h4
      simp only [Bool.or_eq_true, Bool.and_eq_true, decide_eq_true_eq] at h4
      rcases h4 with ⟨h5, h6⟩ | h5 | h5 | h5
      · subst h5
        exact h3
      · exact fcs_bk hs hDm h5 h1 h3
      · exact (fcr_ok (ρ := ρ) h5 h1).2 hs hDm h3
      · exact fch_bk hD2 hs hDm h5 h3
    · rw [h1, h2] at h4
      exact (fcw_ok (ρ := ρ) h4 h1).2 hs hDm h3
end FOW
