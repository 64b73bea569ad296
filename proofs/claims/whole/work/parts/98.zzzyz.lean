set_option maxRecDepth 20000
/-! ===== a contract's answer, in the law's words ===== -/
theorem ge_i {x c : Int32} (h : ¬ x < c) : c.toInt ≤ x.toInt := by rw [Int32.lt_iff_toInt_lt] at h; omega
theorem le_i {x c : Int32} (h : ¬ c < x) : x.toInt ≤ c.toInt := by rw [Int32.lt_iff_toInt_lt] at h; omega
noncomputable def QC1 (X : pX) (C : sC) (P : sR → Prop) (ρ ρ' : sR) (v1 v2 : Option Value) : Prop := (P ρ ∧ fok X ρ C.2.2.2.1) ∧ QC0 X C ρ ρ' v1 v2
theorem SREL_w1 {X : pX} {C : sC} {P : sR → Prop} (h : SREL X pF pdfl mt_all kR zT C) (hw : wok C = true) : SRELP X kR zT (wideC C) 19 20 P (QC1 X C P) := fun ρ k f i p => by
  obtain ⟨ρ', v1, v2, q, c⟩ := SREL_wide (P := P) h hw ρ k f i p
  exact ⟨ρ', v1, v2, ⟨⟨p, f⟩, q⟩, c⟩
noncomputable def KP (X : pX) (C : sC) (t : Int) : Prop := ∀ ρ ρ' : sR, agrM 65536 C.2.2.2.2.1.1 C.2.2.2.2.1.2 ρ' ρ → PT X t ρ → fok X ρ C.2.2.2.1 → fok X ρ' C.2.2.2.2.2.2.1 → iok X ρ' C.2.2.2.2.2.2.2.2 → PT X t ρ'
theorem KP_of {X : pX} {C : sC} {t : Int} (h : ptk C.2.2.2.2.1.1 C.2.2.2.2.1.2 = true) : KP X C t := fun _ _ am p _ _ _ => PT_keep am h p
theorem hQ_I {X : pX} {C : sC} {t : Int} {i : Nat} (hret : C.2.2.2.2.2.1 = (some (.arg i), some (.arg i))) (hi : sk (.arg i) = 0) (hth : fin1 C.2.2.2.2.2.2.1 ((0, .arg 19232, .int 0), true) = true) (hk : KP X C t) (ρ ρ' : sR) (v1 v2 : Option Value) (q : QC1 X C (PT X t) ρ ρ' v1 v2) : ∃ (w : Int32) (z : Int64), (∀ ρ0 : sR, dS X (rIJ w z ρ' ρ0) [.arg 59808] = v1.toList) ∧ v2 = v1 ∧ kok X ρ' kR ∧ vok X ρ' ∧ ρ'.1 19232 = 0 ∧ PT X t ρ' := by
  obtain ⟨⟨p, f⟩, am, k', f', i', e1, e2⟩ := q
  rw [hret] at e1 e2
  refine ⟨ρ'.1 i, 0, fun ρ0 => ?_, e2.trans e1.symm, k', f'.1, of_decide_eq_true (f'.2 _ (fin1_ok hth)), hk ρ ρ' am p f f' i'⟩
  rw [e1]
  show [sv X _ (.arg 59808)] = [sv X ρ' (.arg i)]
  rw [sv_int (t := .arg 59808) rfl, sv_int (t := .arg i) hi]
  rfl
theorem hQ_J {X : pX} {C : sC} {t : Int} {i : Nat} (hret : C.2.2.2.2.2.1 = (some (.arg i), some (.arg i))) (hi : sk (.arg i) = 1) (hth : fin1 C.2.2.2.2.2.2.1 ((0, .arg 19232, .int 0), true) = true) (hk : KP X C t) (ρ ρ' : sR) (v1 v2 : Option Value) (q : QC1 X C (PT X t) ρ ρ' v1 v2) : ∃ (w : Int32) (z : Int64), (∀ ρ0 : sR, dS X (rIJ w z ρ' ρ0) [.arg 59809] = v1.toList) ∧ v2 = v1 ∧ kok X ρ' kR ∧ vok X ρ' ∧ ρ'.1 19232 = 0 ∧ PT X t ρ' := by
  obtain ⟨⟨p, f⟩, am, k', f', i', e1, e2⟩ := q
  rw [hret] at e1 e2
  refine ⟨0, ρ'.2.1 i, fun ρ0 => ?_, e2.trans e1.symm, k', f'.1, of_decide_eq_true (f'.2 _ (fin1_ok hth)), hk ρ ρ' am p f f' i'⟩
  rw [e1]
  show [sv X _ (.arg 59809)] = [sv X ρ' (.arg i)]
  rw [sv_long (t := .arg 59809) rfl, sv_long (t := .arg i) hi]
  rfl
theorem hQ_V {X : pX} {C : sC} {t : Int} (hret : C.2.2.2.2.2.1 = (none, none)) (hth : fin1 C.2.2.2.2.2.2.1 ((0, .arg 19232, .int 0), true) = true) (hk : KP X C t) (ρ ρ' : sR) (v1 v2 : Option Value) (q : QC1 X C (PT X t) ρ ρ' v1 v2) : ∃ (w : Int32) (z : Int64), (∀ ρ0 : sR, dS X (rIJ w z ρ' ρ0) [] = v1.toList) ∧ v2 = v1 ∧ kok X ρ' kR ∧ vok X ρ' ∧ ρ'.1 19232 = 0 ∧ PT X t ρ' := by
  obtain ⟨⟨p, f⟩, am, k', f', i', e1, e2⟩ := q
  rw [hret] at e1 e2
  exact ⟨0, 0, fun ρ0 => by rw [e1]; rfl, e2.trans e1.symm, k', f'.1, of_decide_eq_true (f'.2 _ (fin1_ok hth)), hk ρ ρ' am p f f' i'⟩
/-- what the calls ask of each drive -/
noncomputable def ivt1 (c : sFs × sQ × Bool) : Bool := (fqe c.1 [((0, .arg 1282, .int 0), false)] && fin1 fw_0 c.2) || ((fqe c.1 [((0, .arg 1282, .int 0), true)] && fin1 fo_0 c.2) || ((fqe c.1 [((0, .arg 1314, .int 0), false)] && fin1 fw_1 c.2) || ((fqe c.1 [((0, .arg 1314, .int 0), true)] && fin1 fo_1 c.2) || ((fqe c.1 [((0, .arg 1346, .int 0), false)] && fin1 fw_2 c.2) || ((fqe c.1 [((0, .arg 1346, .int 0), true)] && fin1 fo_2 c.2) || ((fqe c.1 [((0, .arg 1378, .int 0), false)] && fin1 fw_3 c.2) || ((fqe c.1 [((0, .arg 1378, .int 0), true)] && fin1 fo_3 c.2))))))))
theorem iok_TD {X : pX} {ρ : sR} {I : sI} (hc : I.all ivt1 = true) (d : TD X ρ) : iok X ρ I := fun c hm hg => by
  have k := List.all_eq_true.mp hc c hm
  simp only [ivt1, Bool.or_eq_true] at k
  rcases k with k | k | k | k | k | k | k | k
  · rw [Bool.and_eq_true] at k
    have e := fqe_ok k.1
    have g : sc X ρ (0, .arg 1282, .int 0) = false := hg _ (by rw [e]; exact List.mem_cons_self)
    exact ((d.1.1).1 (of_decide_eq_false g)).1 _ (fin1_ok k.2)
  · rw [Bool.and_eq_true] at k
    have e := fqe_ok k.1
    have g : sc X ρ (0, .arg 1282, .int 0) = true := hg _ (by rw [e]; exact List.mem_cons_self)
    exact ((d.1.1).2 (of_decide_eq_true g)) _ (fin1_ok k.2)
  · rw [Bool.and_eq_true] at k
    have e := fqe_ok k.1
    have g : sc X ρ (0, .arg 1314, .int 0) = false := hg _ (by rw [e]; exact List.mem_cons_self)
    exact ((d.1.2.1).1 (of_decide_eq_false g)).1 _ (fin1_ok k.2)
  · rw [Bool.and_eq_true] at k
    have e := fqe_ok k.1
    have g : sc X ρ (0, .arg 1314, .int 0) = true := hg _ (by rw [e]; exact List.mem_cons_self)
    exact ((d.1.2.1).2 (of_decide_eq_true g)) _ (fin1_ok k.2)
  · rw [Bool.and_eq_true] at k
    have e := fqe_ok k.1
    have g : sc X ρ (0, .arg 1346, .int 0) = false := hg _ (by rw [e]; exact List.mem_cons_self)
    exact ((d.1.2.2.1).1 (of_decide_eq_false g)).1 _ (fin1_ok k.2)
  · rw [Bool.and_eq_true] at k
    have e := fqe_ok k.1
    have g : sc X ρ (0, .arg 1346, .int 0) = true := hg _ (by rw [e]; exact List.mem_cons_self)
    exact ((d.1.2.2.1).2 (of_decide_eq_true g)) _ (fin1_ok k.2)
  · rw [Bool.and_eq_true] at k
    have e := fqe_ok k.1
    have g : sc X ρ (0, .arg 1378, .int 0) = false := hg _ (by rw [e]; exact List.mem_cons_self)
    exact ((d.1.2.2.2).1 (of_decide_eq_false g)).1 _ (fin1_ok k.2)
  · rw [Bool.and_eq_true] at k
    have e := fqe_ok k.1
    have g : sc X ρ (0, .arg 1378, .int 0) = true := hg _ (by rw [e]; exact List.mem_cons_self)
    exact ((d.1.2.2.2).2 (of_decide_eq_true g)) _ (fin1_ok k.2)
