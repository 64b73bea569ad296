/-! ===== runs that keep what Lean knows of the numbers: from cut to cut with any promise ===== -/
section PCUT
variable {X : pX} {K : sK} {J : sR → List Value → List Value → Prop} {dc dm : Nat} {Zc Zm : sH}
theorem cbody_okJ (hx : K.2.2.2 = false) (hk0 : ∀ a l, K.2.2.1 a = some l → a < 1000) {Z : sH} {Cs : List (sH × sC)} (hCs : ∀ C ∈ Cs, SREL X pF pdfl mt_all K C.1 C.2) {l1 l2 : List Nat} {ρ1 : sR} {st1 st2 : List (Nat × Nat)} {leaf : sFs → sI → sS → sS → Bool} {A : sR → Prop} (hA : ∀ (off : Nat) (ρ ρ'' : sR), 65536 ≤ off → agr off ρ'' ρ → A ρ → A ρ'') (hleaf : ∀ (ρ : sR) (F : sFs) (I : sI) (s1 s2 : sS), kok X ρ K → fok X ρ F → iok X ρ I → A ρ → kdom (foot Z l1) s1.2.2.2.1 → kdom (foot Z l2) s2.2.2.2.1 → leaf F I s1 s2 = true → RelP X pF pdfl mt_all dc dm Zc Zm J ρ s1 s2) (n : Nat) {b1 b2 : Bool} {F0 : sFs} {I0 : sI} {c1 c2 : sF × List sF × Nat} (h : cbody K Cs st1 st2 leaf n b1 b2 F0 I0 (cst Z l1 c1) (cst Z l2 c2) = true) (k1 : kok X ρ1 K) (k2 : fok X ρ1 F0) (k3 : iok X ρ1 I0) (hA1 : A ρ1) : RelP X pF pdfl mt_all dc dm Zc Zm J ρ1 (cst Z l1 c1) (cst Z l2 c2) := by
  have m1 : ∀ s1 : sS, (if b1 then sstepG ysN K (isatP F0 I0) pF pdfl mt_all hlp (cst Z l1 c1).1 (cst Z l1 c1).2.1 (cst Z l1 c1).2.2.1 (cst Z l1 c1).2.2.2.1 (cst Z l1 c1).2.2.2.2 else some (.inl (cst Z l1 c1))) = some (.inl s1) → kdom (foot Z l1) s1.2.2.2.1 ∧ ∀ s2 : sS, RelP X pF pdfl mt_all dc dm Zc Zm J ρ1 s1 s2 → RelP X pF pdfl mt_all dc dm Zc Zm J ρ1 (cst Z l1 c1) s2 := by
    intro s1 e
    cases b1 with
    | true => exact ⟨kdom_kd (stepG_dom hx e) (kdom_foot _ _), fun s2 hr => RelP.c flN hx k1 (isatP_ok k2 k3) e hr⟩
    | false => cases e; exact ⟨kdom_foot _ _, fun s2 hr => hr⟩
  have m2 : ∀ s2 : sS, (if b2 then sstepG ysN K (isatP F0 I0) pF pdfl mt_all hlp (cst Z l2 c2).1 (cst Z l2 c2).2.1 (cst Z l2 c2).2.2.1 (cst Z l2 c2).2.2.2.1 (cst Z l2 c2).2.2.2.2 else some (.inl (cst Z l2 c2))) = some (.inl s2) → kdom (foot Z l2) s2.2.2.2.1 ∧ ∀ s1 : sS, RelP X pF pdfl mt_all dc dm Zc Zm J ρ1 s1 s2 → RelP X pF pdfl mt_all dc dm Zc Zm J ρ1 s1 (cst Z l2 c2) := by
    intro s2 e
    cases b2 with
    | true => exact ⟨kdom_kd (stepG_dom hx e) (kdom_foot _ _), fun s1 hr => RelP.m flN hx k1 (isatP_ok k2 k3) e hr⟩
    | false => cases e; exact ⟨kdom_foot _ _, fun s1 hr => hr⟩
  unfold cbody at h
  split at h
  · next s1 s2 e1 e2 =>
    obtain ⟨g1, n1⟩ := m1 s1 e1
    obtain ⟨g2, n2⟩ := m2 s2 e2
    exact n1 _ (n2 _ (frun_ok (n0 := 65536) (l1 := foot Z l1) (l2 := foot Z l2) (A := A) hx hk0 hCs hA hleaf n 65536 _ I0 s1 s2 ρ1 (Nat.le_refl _) h k1 (isatP_ok k2 k3) k3 hA1 g1 g2))
  · cases h
/-- at one of the later cuts -/
noncomputable def cleafN (K : sK) (Z : sH) (C : sC) (Q : List sCut) (F : sFs) (I : sI) (s1 s2 : sS) : Bool := Q.any (fun q => cutat K Z C none q F I s1 s2)
/-- from a cut to later ones; what is not among C's numbers is as it was -/
theorem CUT_P (hx : K.2.2.2 = false) (hk0 : ∀ a l, K.2.2.1 a = some l → a < 1000) {Z : sH} {Cs : List (sH × sC)} (hCs : ∀ C ∈ Cs, SREL X pF pdfl mt_all K C.1 C.2) {C : sC} (hfine : cfine Z 65536 C = true) {Q : List sCut} (n : Nat) {b1 b2 : Bool} {q : sCut} (h : cbody K Cs (cpl1 Z C Q) (cpl2 Z C Q) (cleafN K Z C Q) n b1 b2 q.2.2.1 q.2.2.2 (cst Z C.2.2.1.1 q.1) (cst Z C.2.2.1.2 q.2.1) = true) {ρ1 : sR} (k1 : kok X ρ1 K) (k2 : fok X ρ1 q.2.2.1) (k3 : iok X ρ1 q.2.2.2) (hQ : ∀ p ∈ Q, ∀ ρ3 : sR, kok X ρ3 K → fok X ρ3 p.2.2.1 → iok X ρ3 p.2.2.2 → agrM 65536 C.2.2.2.2.1.1 C.2.2.2.2.1.2 ρ3 ρ1 → RelP X pF pdfl mt_all dc dm Zc Zm J ρ3 (cst Z C.2.2.1.1 p.1) (cst Z C.2.2.1.2 p.2.1)) : RelP X pF pdfl mt_all dc dm Zc Zm J ρ1 (cst Z C.2.2.1.1 q.1) (cst Z C.2.2.1.2 q.2.1) := by
  refine cbody_okJ hx hk0 hCs (A := fun ρ2 => agrM 65536 C.2.2.2.2.1.1 C.2.2.2.2.1.2 ρ2 ρ1) (fun _ _ _ h1 h2 h3 => agrM_new h1 h2 h3) (fun ρ F I s1 s2 q1 q2 q3 q4 g1 g2 q5 => ?_) n h k1 k2 k3 ⟨fun _ _ _ => ⟨rfl, rfl⟩, fun _ _ _ => ⟨rfl, rfl⟩⟩
  obtain ⟨p, hp, h5⟩ := List.any_eq_true.mp q5
  simp only [cutat, Bool.and_eq_true] at h5
  exact rcase_ok hx q1 q2 q3 q4 rfl rfl g1 g2 h5.2.2.2.2 (fun ρ3 r1 r2 r3 r4 _ => hQ p hp ρ3 r1 r2 r3 r4)
/-- both are at their ends, nothing has changed -/
noncomputable def lendP (K : sK) (Z : sH) (l1 l2 : List Nat) (t1 t2 : List sT) (F : sFs) (_ : sI) (s1 s2 : sS) : Bool := sbot s1 && (sbot s2 && (sMok K ([], []) && (hinstL K F ([], []) Z l1 s1.2.2.2.1 && (hinstL K F ([], []) Z l2 s2.2.2.2.1 && (teqsX F t1 s1.1.2.2.2.2.2.2.2 && (teqsX F t2 s2.1.2.2.2.2.2.2.2 && (t1.all (vlt 65536) && t2.all (vlt 65536))))))))
theorem END_P (hx : K.2.2.2 = false) (hk0 : ∀ a l, K.2.2.1 a = some l → a < 1000) {Z : sH} {Cs : List (sH × sC)} (hCs : ∀ C ∈ Cs, SREL X pF pdfl mt_all K C.1 C.2) {C : sC} (hfine : cfine Z 65536 C = true) {t1 t2 : List sT} (n : Nat) {b1 b2 : Bool} {q : sCut} (h : cbody K Cs [] [] (lendP K Z C.2.2.1.1 C.2.2.1.2 t1 t2) n b1 b2 q.2.2.1 q.2.2.2 (cst Z C.2.2.1.1 q.1) (cst Z C.2.2.1.2 q.2.1) = true) {ρ1 : sR} (k1 : kok X ρ1 K) (k2 : fok X ρ1 q.2.2.1) (k3 : iok X ρ1 q.2.2.2) (hJ : J ρ1 (dS X ρ1 t1) (dS X ρ1 t2)) : RelP X pF pdfl mt_all dc dm (foot Z C.2.2.1.1) (foot Z C.2.2.1.2) J ρ1 (cst Z C.2.2.1.1 q.1) (cst Z C.2.2.1.2 q.2.1) := by
  refine cbody_okJ hx hk0 hCs (A := fun ρ2 => agr 65536 ρ2 ρ1) (fun off ρ2 ρ3 h1 h2 h3 => ⟨fun i hi => ⟨(h2.1 i (by omega)).1.trans (h3.1 i hi).1, (h2.1 i (by omega)).2.trans (h3.1 i hi).2⟩, fun a ha => ⟨(h2.2 a (by omega)).1.trans (h3.2 a ha).1, (h2.2 a (by omega)).2.trans (h3.2 a ha).2⟩⟩) (fun ρ F I s1 s2 q1 q2 q3 q4 g1 g2 q5 => ?_) n h k1 k2 k3 ⟨fun _ _ => ⟨rfl, rfl⟩, fun _ _ => ⟨rfl, rfl⟩⟩
  unfold lendP at q5
  simp only [Bool.and_eq_true] at q5
  obtain ⟨e1, e2, e3, e4, e5, e6, e7, e8, e9⟩ := q5
  have f := hfine
  simp only [cfine, Bool.and_eq_true] at f
  obtain ⟨z1, z2, -⟩ := f
  have d1 := teqsX_ok (X := X) (ρ := ρ) q2 e6
  have d2 := teqsX_ok (X := X) (ρ := ρ) q2 e7
  have w1 : dS X ρ s1.1.2.2.2.2.2.2.2 = dS X ρ1 t1 := d1.symm.trans (dS_vlt q4 e8)
  have w2 : dS X ρ s2.1.2.2.2.2.2.2.2 = dS X ρ1 t2 := d2.symm.trans (dS_vlt q4 e9)
  refine ⟨ρ1, dS X ρ1 t1, dS X ρ1 t2, hJ, w1 ▸ GPh.bot e1 (fun B G hR => ?_), w2 ▸ GPh.bot e2 (fun B G hR => ?_)⟩
  · have := HR_subL (fok_B B q2) (kok_B B hx q1) e3 g1 e4 hR
    rw [rsub_B] at this
    have this : HR X (rwB ρ B) (foot Z C.2.2.1.1) G := this
    exact HR_agr q4 z1 this
  · have := HR_subL (fok_B B q2) (kok_B B hx q1) e3 g2 e5 hR
    rw [rsub_B] at this
    have this : HR X (rwB ρ B) (foot Z C.2.2.1.2) G := this
    exact HR_agr q4 z2 this
/-- a pair of methods that keeps what Lean knows -/
noncomputable def SRELP (X : pX) (K : sK) (Z : sH) (C : sC) (lc lm : Nat) (P : sR → Prop) (Q : sR → sR → Option Value → Option Value → Prop) : Prop := ∀ ρ : sR, kok X ρ K → fok X ρ C.2.2.2.1 → iok X ρ C.2.2.2.2.2.2.2.1 → P ρ → ∃ (ρ' : sR) (v1 v2 : Option Value), Q ρ ρ' v1 v2 ∧
  (∀ (B : pB) (G : pH), HR X (rwB ρ B) (foot Z C.2.2.1.1) G → ∃ G' : pH, CALL X pF pdfl mt_all lc C.1.1 (dS X ρ C.2.1.1) G B.2.2 (.inl v1, G', B.2.2) ∧ HR X (rwB ρ' B) (foot Z C.2.2.1.1) G') ∧
  ∀ (B : pB) (G : pH), HR X (rwB ρ B) (foot Z C.2.2.1.2) G → ∃ G' : pH, CALL X pF pdfl mt_all lm C.1.2.1 (dS X ρ C.2.1.2) G B.2.2 (.inl v2, G', B.2.2) ∧ HR X (rwB ρ' B) (foot Z C.2.2.1.2) G'
theorem SRELP_in {Z : sH} {C : sC} {d1 d2 : Nat} {P : sR → Prop} {Q : sR → sR → Option Value → Option Value → Prop} (hfine : cfine Z 65536 C = true) (h : ∀ ρ : sR, kok X ρ K → fok X ρ C.2.2.2.1 → iok X ρ C.2.2.2.2.2.2.2.1 → P ρ → RelP X pF pdfl mt_all (d1 + 1) (d2 + 1) (foot Z C.2.2.1.1) (foot Z C.2.2.1.2) (fun ρ' a b => ∃ v1 v2 : Option Value, a = v1.toList ∧ b = v2.toList ∧ Q ρ ρ' v1 v2) ρ (sin0 mt_all C.1.1 d1 C.2.1.1 (foot Z C.2.2.1.1)) (sin0 mt_all C.1.2.1 d2 C.2.1.2 (foot Z C.2.2.1.2))) : SRELP X K Z C (d1 + 1) (d2 + 1) P Q := by
  intro ρ hK hF hI hP
  have hfine' := hfine
  simp only [cfine, Bool.and_eq_true] at hfine'
  obtain ⟨-, -, -, -, -, -, o1, o2⟩ := hfine'
  obtain ⟨ρ', a, b, ⟨v1, v2, j4, j5, j6⟩, r1, r2⟩ := h ρ hK hF hI hP
  have tl : ∀ a b : Option Value, a.toList = b.toList → a = b := by
    intro a b e
    cases a <;> cases b <;> first | rfl | (cases e; done) | (cases e; rfl)
  refine ⟨ρ', v1, v2, j6, fun B G hR => ?_, fun B G hR => ?_⟩
  · obtain ⟨v, G', sl', hc, q1, q2, q3⟩ := CALL_in o1 r1 B hR
    rw [j4] at q1
    have e := tl _ _ q1
    subst e
    subst q3
    exact ⟨G', hc, q2⟩
  · obtain ⟨v, G', sl', hc, q1, q2, q3⟩ := CALL_in o2 r2 B hR
    rw [j5] at q1
    have e := tl _ _ q1
    subst e
    subst q3
    exact ⟨G', hc, q2⟩
/-- what a contract says, kept by Lean -/
theorem SRELP_of {Z : sH} {C : sC} {P : sR → Prop} (h : SREL X pF pdfl mt_all K Z C) : SRELP X K Z C C.1.2.2 C.1.2.2 P (fun ρ ρ' v1 v2 => ((∀ i, i ∉ C.2.2.2.2.1.1 → ρ'.1 i = ρ.1 i ∧ ρ'.2.1 i = ρ.2.1 i) ∧ ∀ a, a ∉ C.2.2.2.2.1.2 → ∀ j, bden X ρ' (.arg a) j = bden X ρ (.arg a) j) ∧ fok X ρ' C.2.2.2.2.2.2.1 ∧ iok X ρ' C.2.2.2.2.2.2.2.2 ∧ v1 = C.2.2.2.2.2.1.1.map (sv X ρ') ∧ v2 = C.2.2.2.2.2.1.2.map (sv X ρ')) := fun ρ hK hF hI _ => by
  obtain ⟨ρ', h1, h2, h3, h4, h5⟩ := h ρ hK hF hI
  exact ⟨ρ', _, _, ⟨h1, h2, h3, rfl, rfl⟩, h4, h5⟩
/-- facts and implications that speak of none of the numbers let go -/
theorem fall_M {mods moda : List Nat} {F : sFs} {ρ ρ' : sR} (h1 : ∀ i, i < 65536 → i ∉ mods → ρ'.1 i = ρ.1 i ∧ ρ'.2.1 i = ρ.2.1 i) (h2 : ∀ a, a < 65536 → a ∉ moda → ρ'.2.2.1 a = ρ.2.2.1 a ∧ ρ'.2.2.2.1 a = ρ.2.2.2.1 a) (hn : nodF (fun i => mods.contains i || Nat.ble 65536 i) (fun a => moda.contains a || Nat.ble 65536 a) F = true) (hF : fall X ρ F) : fall X ρ' F := nod_fall (V := fun i => mods.contains i || Nat.ble 65536 i) (R := fun a => moda.contains a || Nat.ble 65536 a) ⟨fun i hi => by
    simp only [Bool.or_eq_false_iff] at hi
    have h3 : ¬ 65536 ≤ i := fun e => by rw [Nat.ble_eq_true_of_le e] at hi; cases hi.2
    exact h1 i (by omega) (fun e => by rw [List.contains_iff_mem.mpr e] at hi; cases hi.1), fun a ha => by
    simp only [Bool.or_eq_false_iff] at ha
    have h3 : ¬ 65536 ≤ a := fun e => by rw [Nat.ble_eq_true_of_le e] at ha; cases ha.2
    exact h2 a (by omega) (fun e => by rw [List.contains_iff_mem.mpr e] at ha; cases ha.1)⟩ hn hF
theorem iok_M {mods moda : List Nat} {I : sI} {ρ ρ' : sR} (h1 : ∀ i, i < 65536 → i ∉ mods → ρ'.1 i = ρ.1 i ∧ ρ'.2.1 i = ρ.2.1 i) (h2 : ∀ a, a < 65536 → a ∉ moda → ρ'.2.2.1 a = ρ.2.2.1 a ∧ ρ'.2.2.2.1 a = ρ.2.2.2.1 a) (hn : nodI (fun i => mods.contains i || Nat.ble 65536 i) (fun a => moda.contains a || Nat.ble 65536 a) I = true) (hI : iok X ρ I) : iok X ρ' I := nod_iok (V := fun i => mods.contains i || Nat.ble 65536 i) (R := fun a => moda.contains a || Nat.ble 65536 a) ⟨fun i hi => by
    simp only [Bool.or_eq_false_iff] at hi
    have h3 : ¬ 65536 ≤ i := fun e => by rw [Nat.ble_eq_true_of_le e] at hi; cases hi.2
    exact h1 i (by omega) (fun e => by rw [List.contains_iff_mem.mpr e] at hi; cases hi.1), fun a ha => by
    simp only [Bool.or_eq_false_iff] at ha
    have h3 : ¬ 65536 ≤ a := fun e => by rw [Nat.ble_eq_true_of_le e] at ha; cases ha.2
    exact h2 a (by omega) (fun e => by rw [List.contains_iff_mem.mpr e] at ha; cases ha.1)⟩ hn hI
end PCUT
