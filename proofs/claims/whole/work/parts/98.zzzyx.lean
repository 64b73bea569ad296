set_option maxRecDepth 20000
/-! ===== a contract over few cells, told over all of them ===== -/
noncomputable def rmixA (ma : List Nat) (ρ' ρ : sR) : sR := (ρ'.1, ρ'.2.1, fun a => if a ∈ ma then ρ'.2.2.1 a else ρ.2.2.1 a, fun a => if a ∈ ma then ρ'.2.2.2.1 a else ρ.2.2.2.1 a, ρ'.2.2.2.2)
section MIX
variable {X : pX} {ma : List Nat} {ρ' ρ : sR}
theorem mix_par (h : ∀ a, a ∉ ma → ∀ j, bden X ρ' (.arg a) j = bden X ρ (.arg a) j) (a j : Nat) : (a % 2 = 1 → (rmixA ma ρ' ρ).2.2.2.1 a j = ρ'.2.2.2.1 a j) ∧ (¬ a % 2 = 1 → (rmixA ma ρ' ρ).2.2.1 a j = ρ'.2.2.1 a j) := by
  by_cases hm : a ∈ ma
  · have e1 : (rmixA ma ρ' ρ).2.2.2.1 a = ρ'.2.2.2.1 a := if_pos hm
    have e2 : (rmixA ma ρ' ρ).2.2.1 a = ρ'.2.2.1 a := if_pos hm
    rw [e1, e2]
    exact ⟨fun _ => rfl, fun _ => rfl⟩
  · have e1 : (rmixA ma ρ' ρ).2.2.2.1 a = ρ.2.2.2.1 a := if_neg hm
    have e2 : (rmixA ma ρ' ρ).2.2.1 a = ρ.2.2.1 a := if_neg hm
    have q : (if a % 2 = 1 then Value.long (ρ'.2.2.2.1 a j) else .int (ρ'.2.2.1 a j)) = (if a % 2 = 1 then Value.long (ρ.2.2.2.1 a j) else .int (ρ.2.2.1 a j)) := h a hm j
    rw [e1, e2]
    constructor
    · intro p
      rw [if_pos p, if_pos p] at q
      exact (Value.long.inj q).symm
    · intro p
      rw [if_neg p, if_neg p] at q
      exact (Value.int.inj q).symm
theorem mix_bden (h : ∀ a, a ∉ ma → ∀ j, bden X ρ' (.arg a) j = bden X ρ (.arg a) j) (a j : Nat) : bden X (rmixA ma ρ' ρ) (.arg a) j = bden X ρ' (.arg a) j := by
  obtain ⟨p1, p2⟩ := mix_par h a j
  show (if a % 2 = 1 then Value.long ((rmixA ma ρ' ρ).2.2.2.1 a j) else .int ((rmixA ma ρ' ρ).2.2.1 a j)) = (if a % 2 = 1 then Value.long (ρ'.2.2.2.1 a j) else .int (ρ'.2.2.1 a j))
  by_cases p : a % 2 = 1
  · rw [if_pos p, if_pos p, p1 p]
  · rw [if_neg p, if_neg p, p2 p]
theorem mix_rden (h : ∀ a, a ∉ ma → ∀ j, bden X ρ' (.arg a) j = bden X ρ (.arg a) j) (m n : Nat) (l : sT) (j : Nat) : rden (rmixA ma ρ' ρ) m n l j = rden ρ' m n l j := by
  unfold rden
  cases catA l (j / n) with
  | none => rfl
  | some a =>
    dsimp only
    obtain ⟨p1, p2⟩ := mix_par h a (j % n)
    by_cases p : a % 2 = 1
    · rw [if_pos p, if_pos p, p1 p]
    · rw [if_neg p, if_neg p, p2 p]
theorem mix_alk : alk (fun _ => false) (fun _ => true) (rmixA ma ρ' ρ) ρ' := ⟨fun _ _ => ⟨rfl, rfl⟩, fun a h => by cases h⟩
/-- no array but as a cell's base -/
noncomputable def arrB (b : sT) : Bool := match b with
  | .arg _ => true
  | .old (.mul (.sub (.index _) (.index _)) _) => true
  | .old _ => false
  | b => nod (fun _ => false) (fun _ => true) b
noncomputable def arrE (e : sE) : Bool := match e with
  | .inr o => o.2.all (nod (fun _ => false) (fun _ => true))
  | .inl a => arrB a.2.2.1 && a.2.2.2.all (fun u => nod (fun _ => false) (fun _ => true) u.1 && nod (fun _ => false) (fun _ => true) u.2)
theorem zT_arr : hall arrE 9 zT.1 = true := by decide +kernel
theorem mix_b (h : ∀ a, a ∉ ma → ∀ j, bden X ρ' (.arg a) j = bden X ρ (.arg a) j) {b : sT} (hb : arrB b = true) (j : Nat) : bden X (rmixA ma ρ' ρ) b j = bden X ρ' b j := by
  unfold arrB at hb
  split at hb
  · exact mix_bden h _ j
  · exact mix_rden h _ _ _ j
  · cases hb
  · next n1 n0 n2 =>
    have e : ∀ r : sR, bden X r b j = sv X r b := fun r => by
      unfold bden
      split
      · exact (n1 _ rfl).elim
      · exact (n2 _ rfl).elim
      · rfl
    rw [e, e]
    exact nod_v mix_alk hb
theorem mix_CR (h : ∀ a, a ∉ ma → ∀ j, bden X ρ' (.arg a) j = bden X ρ (.arg a) j) {e : sE} (he : arrE e = true) {y : pE} (hc : CR X ρ' e y) : CR X (rmixA ma ρ' ρ) e y := by
  cases e with
  | inr x =>
    cases y with
    | inl _ => exact hc
    | inr z =>
      have hc : z = (x.1, x.2.map (sv X ρ')) := hc
      show z = (x.1, x.2.map (sv X (rmixA ma ρ' ρ)))
      rw [hc]
      exact congrArg (fun l => (x.1, l)) (List.map_congr_left (fun t ht => (nod_v mix_alk (List.all_eq_true.mp he t ht)).symm))
  | inl x =>
    cases y with
    | inr _ => exact hc
    | inl z =>
      simp only [arrE, Bool.and_eq_true] at he
      obtain ⟨hb, hu⟩ := he
      have hu := List.all_eq_true.mp hu
      obtain ⟨q1, q2, q3, q4⟩ := hc
      have ha : ∀ u : List (sT × sT), (∀ p ∈ u, (nod (fun _ => false) (fun _ => true) p.1 && nod (fun _ => false) (fun _ => true) p.2) = true) → ∀ j, aden X (rmixA ma ρ' ρ) x.2.2.1 u j = aden X ρ' x.2.2.1 u j := by
        intro u
        induction u with
        | nil => exact fun _ j => mix_b h hb j
        | cons p r ih =>
          intro hp j
          have h1 := hp p List.mem_cons_self
          rw [Bool.and_eq_true] at h1
          unfold aden
          rw [nod_d mix_alk _ h1.1, nod_v mix_alk h1.2, ih (fun q hq => hp q (List.mem_cons_of_mem _ hq)) j]
      exact ⟨q1, q2, fun j hj => (q3 j hj).trans (ha _ hu j).symm, fun u hu' => by
        have h1 := hu u hu'
        rw [Bool.and_eq_true] at h1
        rw [nod_d mix_alk _ h1.1]
        exact q4 u hu'⟩
theorem mix_vok (h : ∀ a, a ∉ ma → ∀ j, bden X ρ' (.arg a) j = bden X ρ (.arg a) j) (hv : vok X ρ') : vok X (rmixA ma ρ' ρ) := by
  refine ⟨fun i r hr => hv.1 i r hr, fun a t r hr => ?_⟩
  have e : sn X (rmixA ma ρ' ρ) (.elem (.arg a) t) = sn X ρ' (.elem (.arg a) (.int (sd X (rmixA ma ρ' ρ) t).1)) := by
    obtain ⟨p1, p2⟩ := mix_par h a (sd X (rmixA ma ρ' ρ) t).1.toNatClampNeg
    show (if a % 2 = 1 then ((rmixA ma ρ' ρ).2.2.2.1 a (sd X (rmixA ma ρ' ρ) t).1.toNatClampNeg).toInt else ((rmixA ma ρ' ρ).2.2.1 a (sd X (rmixA ma ρ' ρ) t).1.toNatClampNeg).toInt) = if a % 2 = 1 then (ρ'.2.2.2.1 a (sd X (rmixA ma ρ' ρ) t).1.toNatClampNeg).toInt else (ρ'.2.2.1 a (sd X (rmixA ma ρ' ρ) t).1.toNatClampNeg).toInt
    by_cases p : a % 2 = 1
    · rw [if_pos p, if_pos p, p1 p]
    · rw [if_neg p, if_neg p, p2 p]
  rw [e]
  exact hv.2 a _ r hr
end MIX
/-- what a contract says, over all cells -/
noncomputable def QC0 (X : pX) (C : sC) (ρ ρ' : sR) (v1 v2 : Option Value) : Prop := agrM 65536 C.2.2.2.2.1.1 C.2.2.2.2.1.2 ρ' ρ ∧ kok X ρ' kR ∧ fok X ρ' C.2.2.2.2.2.2.1 ∧ iok X ρ' C.2.2.2.2.2.2.2.2 ∧ v1 = C.2.2.2.2.2.1.1.map (sv X ρ') ∧ v2 = C.2.2.2.2.2.1.2.map (sv X ρ')
noncomputable def wideC (C : sC) : sC := (C.1, C.2.1, (fT1, fT2), C.2.2.2)
noncomputable def wok (C : sC) : Bool := Nat.ble C.1.2.2 19 && (C.2.2.1.1.all (fun k => fT1.contains k) && (C.2.2.1.2.all (fun k => fT2.contains k) && (C.2.2.2.2.1.2.all (fun a => Nat.ble 1000 a) && (nodF (fun _ => false) (fun _ => true) C.2.2.2.2.2.2.1 && (nodI (fun _ => false) (fun _ => true) C.2.2.2.2.2.2.2.2 && (C.2.2.2.2.2.1.1.toList.all (nod (fun _ => false) (fun _ => true)) && (C.2.2.2.2.2.1.2.toList.all (nod (fun _ => false) (fun _ => true)) && (fT1 ++ fT2).all (fun k => C.2.2.1.1.contains k || (C.2.2.1.2.contains k || (match hget zT k with
  | some e => nodE (kV C.2.2.2.2.1.1) (kV C.2.2.2.2.1.2) e
  | none => true))))))))))
theorem half_wide {X : pX} {C : sC} {l fT : List Nat} {ρ ρ1 ρ2 : sR} (hl : ∀ k ∈ l, k ∈ fT) (hag : agrM 65536 C.2.2.2.2.1.1 C.2.2.2.2.1.2 ρ2 ρ) (hmix : ∀ e y, arrE e = true → CR X ρ1 e y → CR X ρ2 e y) (hcell : ∀ k ∈ fT, k ∉ l → ∀ e, hget zT k = some e → nodE (kV C.2.2.2.2.1.1) (kV C.2.2.2.2.1.2) e = true) {B : pB} {G G' : pH} (hR : HR X (rwB ρ B) (foot zT fT) G) (h' : HR X (rwB ρ1 (G, G.length, B.2.2)) (foot zT l) G') : HR X (rwB ρ2 B) (foot zT fT) G' := by
  have l1 : G'.length = G.length := by have this : 0 + G.length = G'.length := h'.1; omega
  have l2 : 0 + B.2.1 = G.length := hR.1
  have b1 : ∀ k, k ∉ l → k < G.length → G'[k]? = G[k]? := fun k hk hlt => h'.2.2.2 k (by show hget (foot zT l) k = none; rw [foot_get, if_neg hk]) hlt
  refine ⟨by show 0 + B.2.1 = G'.length; omega, fun k e hk => ?_, by rw [l1]; exact hR.2.2.1, fun k hk hlt => ?_⟩
  · rw [foot_get] at hk
    split at hk
    · next hm =>
      by_cases hkl : k ∈ l
      · obtain ⟨y, hy, hc⟩ := h'.2.1 k e (by rw [foot_get, if_pos hkl]; exact hk)
        exact ⟨y, hy, CR_B (B := ρ2.2.2.2.2) (hmix e y (hall_get zT_arr hk) (CR_B (B' := ρ1.2.2.2.2) hc))⟩
      · obtain ⟨y, hy, hc⟩ := hR.2.1 k e (by rw [foot_get, if_pos hm]; exact hk)
        have hlt := (List.getElem?_eq_some_iff.mp hy).1
        have a1 := alkM hag
        exact ⟨y, (b1 k hkl hlt).trans hy, CR_B (B := ρ2.2.2.2.2) (nod_CR (V := kV C.2.2.2.2.1.1) (R := kV C.2.2.2.2.1.2) ⟨fun i h => ⟨(a1.1 i h).1.symm, (a1.1 i h).2.symm⟩, fun a h => ⟨(a1.2 a h).1.symm, (a1.2 a h).2.symm⟩⟩ (hcell k hm hkl e hk) (CR_B (B' := ρ.2.2.2.2) hc))⟩
    · cases hk
  · have hlt2 : k < G.length := Nat.lt_of_lt_of_le hlt hR.2.2.1
    have e0 := hR.2.2.2 k hk hlt
    by_cases hkl : k ∈ l
    · have hz : hget (foot zT l) k = none := by
        rw [foot_get, if_pos hkl]
        rw [foot_get, if_pos (hl k hkl)] at hk
        exact hk
      exact (h'.2.2.2 k hz hlt2).trans e0
    · exact (b1 k hkl hlt2).trans e0
theorem HR_small {X : pX} {l fT : List Nat} {ρ : sR} (hl : ∀ k ∈ l, k ∈ fT) {B : pB} {G : pH} (hR : HR X (rwB ρ B) (foot zT fT) G) : HR X (rwB ρ (G, G.length, B.2.2)) (foot zT l) G := by
  refine ⟨by show 0 + G.length = G.length; omega, fun k e hk => ?_, Nat.le_refl _, fun k _ _ => rfl⟩
  rw [foot_get] at hk
  split at hk
  · next hm =>
    obtain ⟨y, hy, hc⟩ := hR.2.1 k e (by rw [foot_get, if_pos (hl k hm)]; exact hk)
    exact ⟨y, hy, CR_B (B := B) hc⟩
  · cases hk
theorem SREL_wide {X : pX} {C : sC} {P : sR → Prop} (h : SREL X pF pdfl mt_all kR zT C) (hw : wok C = true) : SRELP X kR zT (wideC C) 19 20 P (QC0 X C) := by
  intro ρ hK hF hI _
  simp only [wok, Bool.and_eq_true] at hw
  obtain ⟨w1, w2, w3, w4, w5, w6, w7, w8, w9⟩ := hw
  have w2 : ∀ k ∈ C.2.2.1.1, k ∈ fT1 := fun k hk => List.contains_iff_mem.mp (List.all_eq_true.mp w2 k hk)
  have w3 : ∀ k ∈ C.2.2.1.2, k ∈ fT2 := fun k hk => List.contains_iff_mem.mp (List.all_eq_true.mp w3 k hk)
  obtain ⟨ρ', ⟨h1, h2⟩, h3, h4, h5, h6⟩ := h ρ hK hF hI
  have hmix : ∀ e y, arrE e = true → CR X ρ' e y → CR X (rmixA C.2.2.2.2.1.2 ρ' ρ) e y := fun e y he hc => mix_CR h2 he hc
  have hag : agrM 65536 C.2.2.2.2.1.1 C.2.2.2.2.1.2 (rmixA C.2.2.2.2.1.2 ρ' ρ) ρ := ⟨fun i _ hi => h1 i hi, fun a _ ha => ⟨if_neg ha, if_neg ha⟩⟩
  have hlo : ∀ a, a < 1000 → a ∉ C.2.2.2.2.1.2 := fun a ha hm => by
    have := Nat.le_of_ble_eq_true (List.all_eq_true.mp w4 a hm)
    omega
  have hcl : ∀ k, k ∈ fT1 ∨ k ∈ fT2 → k ∉ C.2.2.1.1 → k ∉ C.2.2.1.2 → ∀ e, hget zT k = some e → nodE (kV C.2.2.2.2.1.1) (kV C.2.2.2.2.1.2) e = true := fun k hk n1 n2 e he => by
    have := List.all_eq_true.mp w9 k (List.mem_append.mpr hk)
    rw [he] at this
    simp only [Bool.or_eq_true] at this
    rcases this with t | t | t
    · exact absurd (List.contains_iff_mem.mp t) n1
    · exact absurd (List.contains_iff_mem.mp t) n2
    · exact t
  have rv : ∀ o : Option sT, o.toList.all (nod (fun _ => false) (fun _ => true)) = true → o.map (sv X ρ') = o.map (sv X (rmixA C.2.2.2.2.1.2 ρ' ρ)) := fun o ho => by
    cases o with
    | none => rfl
    | some t =>
      have := List.all_eq_true.mp ho t (List.mem_singleton.mpr rfl)
      show some _ = some _
      rw [nod_v mix_alk this]
  refine ⟨rmixA C.2.2.2.2.1.2 ρ' ρ, _, _, ⟨hag, ⟨hK.1, hK.2.1, fun a l hl j => ?_, fun e => by rw [kR_x] at e; cases e⟩, ⟨mix_vok h2 h3.1, nod_fall mix_alk w5 h3.2⟩, nod_iok mix_alk w6 h4, rv _ w7, rv _ w8⟩, fun B G hR => ?_, fun B G hR => ?_⟩
  · have ha := hlo a (kR_0 a l hl)
    have e1 : (rmixA C.2.2.2.2.1.2 ρ' ρ).2.2.1 a = ρ.2.2.1 a := if_neg ha
    have e2 : (rmixA C.2.2.2.2.1.2 ρ' ρ).2.2.2.1 a = ρ.2.2.2.1 a := if_neg ha
    rw [e1, e2]
    exact hK.2.2.1 a l hl j
  · obtain ⟨G', c, r⟩ := h5 (G, G.length, B.2.2) G (HR_small w2 hR)
    exact ⟨G', CALL_up (Nat.le_of_ble_eq_true w1) c, half_wide w2 hag hmix (fun k hk hn e he => hcl k (.inl hk) hn (fun q => fT_no hk (w3 k q)) e he) hR r⟩
  · obtain ⟨G', c, r⟩ := h6 (G, G.length, B.2.2) G (HR_small w3 hR)
    exact ⟨G', CALL_up (Nat.le_trans (Nat.le_of_ble_eq_true w1) (by decide)) c, half_wide w3 hag hmix (fun k hk hn e he => hcl k (.inr hk) (fun q => fT_no (w2 k q) hk) hn e he) hR r⟩
