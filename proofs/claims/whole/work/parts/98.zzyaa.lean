/-! ===== a contract in other words: another pattern, another valuation; one side alone ===== -/
section VIA
variable {X : pX} {Ft : Nat → Nat → FieldType} {dfl : Nat → Nat × List Value} {Mt : List pM} {K : sK}
/-- what a contract leaves as it was -/
noncomputable def keepM (C : sC) (X : pX) (ρ' ρ : sR) : Prop := (∀ i, i ∉ C.2.2.2.2.1.1 → ρ'.1 i = ρ.1 i ∧ ρ'.2.1 i = ρ.2.1 i) ∧ ∀ a, a ∉ C.2.2.2.2.1.2 → ∀ j, bden X ρ' (.arg a) j = bden X ρ (.arg a) j
theorem SREL_via {Z Z' : sH} {C C' : sC} (h : SREL X Ft dfl Mt K Z C) (hid : C'.1 = C.1) (hp : ∀ ρ : sR, kok X ρ K → fok X ρ C'.2.2.2.1 → iok X ρ C'.2.2.2.2.2.2.2.1 → ∃ ρ1 : sR, kok X ρ1 K ∧ fok X ρ1 C.2.2.2.1 ∧ iok X ρ1 C.2.2.2.2.2.2.2.1 ∧ dS X ρ1 C.2.1.1 = dS X ρ C'.2.1.1 ∧ dS X ρ1 C.2.1.2 = dS X ρ C'.2.1.2 ∧ (∀ (B : pB) (G : pH), HR X (rwB ρ B) (foot Z' C'.2.2.1.1) G → HR X (rwB ρ1 B) (foot Z C.2.2.1.1) G) ∧ (∀ (B : pB) (G : pH), HR X (rwB ρ B) (foot Z' C'.2.2.1.2) G → HR X (rwB ρ1 B) (foot Z C.2.2.1.2) G) ∧ ∀ ρ2 : sR, keepM C X ρ2 ρ1 → fok X ρ2 C.2.2.2.2.2.2.1 → iok X ρ2 C.2.2.2.2.2.2.2.2 → ∃ ρ' : sR, keepM C' X ρ' ρ ∧ fok X ρ' C'.2.2.2.2.2.2.1 ∧ iok X ρ' C'.2.2.2.2.2.2.2.2 ∧ C.2.2.2.2.2.1.1.map (sv X ρ2) = C'.2.2.2.2.2.1.1.map (sv X ρ') ∧ C.2.2.2.2.2.1.2.map (sv X ρ2) = C'.2.2.2.2.2.1.2.map (sv X ρ') ∧ (∀ (B : pB) (G : pH), HR X (rwB ρ2 B) (foot Z C.2.2.1.1) G → HR X (rwB ρ' B) (foot Z' C'.2.2.1.1) G) ∧ ∀ (B : pB) (G : pH), HR X (rwB ρ2 B) (foot Z C.2.2.1.2) G → HR X (rwB ρ' B) (foot Z' C'.2.2.1.2) G) : SREL X Ft dfl Mt K Z' C' := by
  intro ρ hK hF hI
  obtain ⟨ρ1, k1, f1, i1, a1, a2, r1, r2, hn⟩ := hp ρ hK hF hI
  obtain ⟨ρ2, hag, hf, hi, hc, hm⟩ := h ρ1 k1 f1 i1
  obtain ⟨ρ', q1, q2, q3, e1, e2, s1, s2⟩ := hn ρ2 hag hf hi
  refine ⟨ρ', q1, q2, q3, fun B G hR => ?_, fun B G hR => ?_⟩
  · obtain ⟨G', g1, g2⟩ := hc B G (r1 B G hR)
    rw [a1, e1] at g1
    rw [hid]
    exact ⟨G', g1, s1 B G' g2⟩
  · obtain ⟨G', g1, g2⟩ := hm B G (r2 B G hR)
    rw [a2, e2] at g1
    rw [hid]
    exact ⟨G', g1, s2 B G' g2⟩
theorem HR_nil {ρ ρ' : sR} {Z Z' : sH} {B : pB} {G : pH} (h : HR X (rwB ρ B) (foot Z' []) G) : HR X (rwB ρ' B) (foot Z []) G := ⟨by
  have h1 := h.1
  rw [foot_len] at h1 ⊢
  exact h1, fun k e he => (by
  rw [foot_get, if_neg (fun q => by cases q)] at he
  cases he), h.2.2.1, fun k _ hl => h.2.2.2 k (by rw [foot_get]; exact if_neg (fun q => by cases q)) hl⟩
/-- the class's side alone: the other is one that does nothing -/
theorem SREL_left {Z Zd : sH} {C Cd : sC} (h : SREL X Ft dfl Mt K Z C) (hd : SREL X Ft dfl Mt K Zd Cd) (e1 : Cd.2.2.1.2 = []) (e2 : Cd.2.2.2.1 = []) (e3 : Cd.2.2.2.2.2.2.2.1 = []) (hl : Cd.1.2.2 ≤ C.1.2.2) (ha : ∀ ρ ρ' : sR, dS X ρ Cd.2.1.2 = dS X ρ' [.int 0]) (hr : ∀ ρ ρ' : sR, Cd.2.2.2.2.2.1.2.map (sv X ρ) = (some (.int 0) : Option sT).map (sv X ρ')) : SREL X Ft dfl Mt K Z ((C.1.1, Cd.1.2.1, C.1.2.2), (C.2.1.1, [.int 0]), (C.2.2.1.1, []), C.2.2.2.1, C.2.2.2.2.1, (C.2.2.2.2.2.1.1, some (.int 0)), C.2.2.2.2.2.2) := by
  intro ρ hK hF hI
  obtain ⟨ρ', hag, hf, hi, hc, hm⟩ := h ρ hK hF hI
  obtain ⟨ρd, -, -, -, -, hd⟩ := hd ρ hK (by rw [e2]; exact ⟨hF.1, fun f hf => by cases hf⟩) (by rw [e3]; exact fun c hc => by cases hc)
  refine ⟨ρ', hag, hf, hi, hc, fun B G hR => ?_⟩
  have hR : HR X (rwB ρ B) (foot Z []) G := hR
  have hR2 : HR X (rwB ρ B) (foot Zd Cd.2.2.1.2) G := by rw [e1]; exact HR_nil (Z := Zd) hR
  obtain ⟨G', g1, g2⟩ := hd B G hR2
  rw [e1] at g2
  rw [ha ρ ρ, hr ρd ρ'] at g1
  exact ⟨G', CALL_up hl g1, HR_nil (Z := Z) g2⟩
/-- the model's side alone -/
theorem SREL_right {Z Zd : sH} {C Cd : sC} (h : SREL X Ft dfl Mt K Z C) (hd : SREL X Ft dfl Mt K Zd Cd) (e1 : Cd.2.2.1.1 = []) (e2 : ∀ ρ : sR, fok X ρ C.2.2.2.1 → fok X ρ Cd.2.2.2.1) (e3 : Cd.2.2.2.2.2.2.2.1 = []) (hl : Cd.1.2.2 ≤ C.1.2.2) (ha : ∀ ρ ρ' : sR, dS X ρ Cd.2.1.1 = dS X ρ' [.long 0]) (hr : ∀ ρ ρ' : sR, Cd.2.2.2.2.2.1.1.map (sv X ρ) = (some (.long 0) : Option sT).map (sv X ρ')) : SREL X Ft dfl Mt K Z ((Cd.1.1, C.1.2.1, C.1.2.2), ([.long 0], C.2.1.2), ([], C.2.2.1.2), C.2.2.2.1, C.2.2.2.2.1, (some (.long 0), C.2.2.2.2.2.1.2), C.2.2.2.2.2.2) := by
  intro ρ hK hF hI
  obtain ⟨ρ', hag, hf, hi, hc, hm⟩ := h ρ hK hF hI
  obtain ⟨ρd, -, -, -, hd, -⟩ := hd ρ hK (e2 ρ hF) (by rw [e3]; exact fun c hc => by cases hc)
  refine ⟨ρ', hag, hf, hi, fun B G hR => ?_, hm⟩
  have hR : HR X (rwB ρ B) (foot Z []) G := hR
  have hR2 : HR X (rwB ρ B) (foot Zd Cd.2.2.1.1) G := by rw [e1]; exact HR_nil (Z := Zd) hR
  obtain ⟨G', g1, g2⟩ := hd B G hR2
  rw [e1] at g2
  rw [ha ρ ρ, hr ρd ρ'] at g1
  exact ⟨G', CALL_up hl g1, HR_nil (Z := Z) g2⟩
end VIA
/-! ===== a loop within a loop: what is known of the outer one stands while the inner one goes round ===== -/
section NEST
variable {X : pX} {K : sK}
theorem rst_rst {g : Nat} {x : Int32} {ρ : sR} : rst g (ρ.1 g) (rst g x ρ) = ρ := by
  unfold rst
  refine Prod.ext (funext fun i => ?_) rfl
  show (if i = g then ρ.1 g else if i = g then x else ρ.1 i) = ρ.1 i
  by_cases e : i = g
  · rw [if_pos e, e]
  · rw [if_neg e, if_neg e]
theorem CUTOK_rst {Z : sH} {C : sC} {d g : Nat} {c1 c2 : sF × List sF × Nat} {F : sFs} {I : sI} {x : Int32} {ρ0 : sR} (hx : K.2.2.2 = false) (hn : vrng g = none) (hfine : cfine Z g C = true) (hF : fvlt g F = true) (hI : ivlt g I = true) (h1 : (c1.1 :: c1.2.1).all (vltF g) = true) (h2 : (c2.1 :: c2.2.1).all (vltF g) = true) (h : CUTOK X K Z C d ρ0 (c1, c2, F, I)) : CUTOK X K Z C d (rst g x ρ0) (c1, c2, F, I) := by
  have zf := hfine
  simp only [cfine, Bool.and_eq_true] at zf
  obtain ⟨z1, z2, -⟩ := zf
  intro ρ2 l1 l2 l3 l4
  have ag := rst_agr (g := g) (x := ρ0.1 g) (ρ := ρ2)
  have kk : kok X (rst g (ρ0.1 g) ρ2) K := ⟨l1.1, l1.2.1, l1.2.2.1, fun e => by rw [hx] at e; cases e⟩
  have k4 : agrM 65536 C.2.2.2.2.1.1 C.2.2.2.2.1.2 (rst g (ρ0.1 g) ρ2) ρ0 := ⟨fun i hi hm => by
    obtain ⟨q1, q2⟩ := l4.1 i hi hm
    refine ⟨?_, q2⟩
    by_cases e : i = g
    · rw [e]; exact if_pos rfl
    · exact (if_neg e).trans (q1.trans (if_neg e)), l4.2⟩
  have r := h (rst g (ρ0.1 g) ρ2) kk ⟨rst_vok l2.1 hn, fall_agr ag hF l2.2⟩ (iok_agr ag hI l3) k4
  exact RelP_rst (n := g) ag h1 z1 h2 z2 z1 z2 (fun ρ' vc vm j => ⟨rst g ((rst g x ρ0).1 g) ρ', rst_agr, cJ_rst (x := ρ0.1 g) hfine hn (by rw [rst_rst]; exact j)⟩) r
theorem CUT_nest {Z : sH} {C : sC} {d g : Nat} {mt : sT} {c1 c2 : sF × List sF × Nat} {F : sFs} {I : sI} {P : sR → Prop} (hx : K.2.2.2 = false) (hn : vrng g = none) (hg6 : g < 65536) (hgm : g ∉ C.2.2.2.2.1.1) (hmg : vlt g mt = true) (hfine : cfine Z g C = true) (hF : fvlt g F = true) (hI : ivlt g I = true) (h1 : (c1.1 :: c1.2.1).all (vltF g) = true) (h2 : (c2.1 :: c2.2.1).all (vltF g) = true) (hP : ∀ (ρ0 : sR) (x : Int32), P ρ0 → P (rst g x ρ0)) (h : ∀ ρ0 : sR, vok X ρ0 → P ρ0 → CUTOK X K Z C d ρ0 (c1, c2, ((2, mt, .arg g), true) :: F, I) → CUTOK X K Z C d ρ0 (c1, c2, ((0, mt, .arg g), true) :: F, I)) {ρ0 : sR} (hv : vok X ρ0) (hp : P ρ0) : CUTOK X K Z C d ρ0 (c1, c2, F, I) := by
  have zf := hfine
  simp only [cfine, Bool.and_eq_true] at zf
  obtain ⟨z1, z2, -⟩ := zf
  have key : ∀ (n : Nat) (ρ0 ρ1 : sR), vok X ρ0 → P ρ0 → kok X ρ1 K → fok X ρ1 F → iok X ρ1 I → agrM 65536 C.2.2.2.2.1.1 C.2.2.2.2.1.2 ρ1 ρ0 → ((sd X ρ1 mt).1.toInt + 2147483648).toNat < n → RelP X pF pdfl mt_all (d + 1) (d + 1) (foot Z C.2.2.1.1) (foot Z C.2.2.1.2) (cJ X C ρ0) ρ1 (cst Z C.2.2.1.1 c1) (cst Z C.2.2.1.2 c2) := by
    intro n
    induction n with
    | zero => intro ρ0 ρ1 _ _ _ _ _ _ hm; omega
    | succ n ih =>
      intro ρ0 ρ1 hv hp k1 k2 k3 k4 hm
      have hv' : vok X (rst g (sd X ρ1 mt).1 ρ0) := rst_vok hv hn
      have hp' := hP ρ0 (sd X ρ1 mt).1 hp
      have hk : CUTOK X K Z C d (rst g (sd X ρ1 mt).1 ρ0) (c1, c2, ((2, mt, .arg g), true) :: F, I) := by
        intro ρ2 l1 l2 l3 l4
        have e : ρ2.1 g = (sd X ρ1 mt).1 := ((l4.1 g hg6 hgm).1).trans (if_pos rfl)
        have lt : (sd X ρ2 mt).1 < ρ2.1 g := of_decide_eq_true (l2.2 _ List.mem_cons_self)
        rw [e] at lt
        have lt := Int32.lt_iff_toInt_lt.mp lt
        have b1 : (-2147483648 : Int) ≤ (sd X ρ2 mt).1.toInt := Int32.le_toInt _
        exact ih _ ρ2 hv' hp' l1 ⟨l2.1, fun f hf => l2.2 f (List.mem_cons_of_mem _ hf)⟩ l3 l4 (by omega)
      have ag := rst_agr (g := g) (x := (sd X ρ1 mt).1) (ρ := ρ1)
      have kk : kok X (rst g (sd X ρ1 mt).1 ρ1) K := ⟨k1.1, k1.2.1, k1.2.2.1, fun e => by rw [hx] at e; cases e⟩
      have f0 := fall_agr ag hF k2.2
      have ff : fok X (rst g (sd X ρ1 mt).1 ρ1) (((0, mt, .arg g), true) :: F) := ⟨rst_vok k2.1 hn, fun f hf => by
        rcases List.mem_cons.mp hf with hf | hf
        · rw [hf]
          exact decide_eq_true (show (sd X (rst g (sd X ρ1 mt).1 ρ1) mt).1 = (if g = g then (sd X ρ1 mt).1 else ρ1.1 g) by rw [if_pos rfl, vlt_d ag mt hmg])
        · exact f0 f hf⟩
      have k4' : agrM 65536 C.2.2.2.2.1.1 C.2.2.2.2.1.2 (rst g (sd X ρ1 mt).1 ρ1) (rst g (sd X ρ1 mt).1 ρ0) := ⟨fun i hi hm => by
        refine ⟨?_, (k4.1 i hi hm).2⟩
        show (if i = g then (sd X ρ1 mt).1 else ρ1.1 i) = (if i = g then (sd X ρ1 mt).1 else ρ0.1 i)
        rw [(k4.1 i hi hm).1], k4.2⟩
      have r := h _ hv' hp' hk (rst g (sd X ρ1 mt).1 ρ1) kk ff (iok_agr ag hI k3) k4'
      exact RelP_rst (n := g) (ρ2 := rst g (sd X ρ1 mt).1 ρ1) (ρ := ρ1) ag h1 z1 h2 z2 z1 z2 (fun ρ' vc vm j => ⟨rst g (ρ0.1 g) ρ', rst_agr, cJ_rst hfine hn j⟩) r
  exact fun ρ1 k1 k2 k3 k4 => key _ ρ0 ρ1 hv hp k1 k2 k3 k4 (Nat.lt_succ_self _)
end NEST
