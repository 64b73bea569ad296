/-! ===== a loop over several cuts: a number kept aside, and one that falls below it ===== -/
noncomputable def rst (g : Nat) (x : Int32) (ρ : sR) : sR := (fun i => if i = g then x else ρ.1 i, ρ.2)
section AGN
variable {X : pX} {K : sK}
theorem rst_agr {g : Nat} {x : Int32} {ρ : sR} : agr g (rst g x ρ) ρ := ⟨fun _ hi => ⟨if_neg (Nat.ne_of_lt hi), rfl⟩, fun _ _ => ⟨rfl, rfl⟩⟩
theorem rst_vok {g : Nat} {x : Int32} {ρ : sR} (hv : vok X ρ) (hn : vrng g = none) : vok X (rst g x ρ) := by
  constructor
  · intro i r hr
    by_cases hi : i = g
    · rw [hi, hn] at hr; cases hr
    · have e : sn X (rst g x ρ) (.arg i) = sn X ρ (.arg i) := by
        show (if i % 2 = 1 then (ρ.2.1 i).toInt else (if i = g then x else ρ.1 i).toInt) = if i % 2 = 1 then (ρ.2.1 i).toInt else (ρ.1 i).toInt
        rw [if_neg hi]
      rw [e]
      exact hv.1 i r hr
  · intro a t r hr
    have e : sn X (rst g x ρ) (.elem (.arg a) t) = sn X ρ (.elem (.arg a) (.int (sd X (rst g x ρ) t).1)) := rfl
    rw [e]
    exact hv.2 a _ r hr
theorem QH_agr {n : Nat} {ρ1 ρ2 : sR} {Z : sH} {v : List Value} (h : agr n ρ1 ρ2) (hv : hall (vltE n) 9 Z.1 = true) : QH X Z ρ1 v = QH X Z ρ2 v := by
  funext B st G sl
  unfold QH
  exact propext ⟨fun q => ⟨q.1, HR_agr h hv q.2.1, q.2.2⟩, fun q => ⟨q.1, HR_agr (agr_symm h) hv q.2.1, q.2.2⟩⟩
theorem cJ_rst {Z : sH} {C : sC} {g : Nat} (hf : cfine Z g C = true) (hn : vrng g = none) {x : Int32} {ρ0 ρ' : sR} {v1 v2 : List Value} (h : cJ X C (rst g x ρ0) ρ' v1 v2) : cJ X C ρ0 (rst g (ρ0.1 g) ρ') v1 v2 := by
  simp only [cfine, Bool.and_eq_true] at hf
  obtain ⟨g1, g2, g4, g6, g7, g8, -⟩ := hf
  obtain ⟨⟨h1, h2⟩, h3, h4, h5, h6⟩ := h
  have ag : agr g (rst g (ρ0.1 g) ρ') ρ' := rst_agr
  have ans : ∀ (v0 : Option sT) (v : List Value), v0.toList.all (fun t => scl t && vlt g t) = true → v = (v0.map (sv X ρ')).toList → v = (v0.map (sv X (rst g (ρ0.1 g) ρ'))).toList := by
    intro v0 v q1 q2
    rw [q2]
    cases v0 with
    | none => rfl
    | some t =>
      simp only [Option.toList_some, List.all_cons, List.all_nil, Bool.and_true, Bool.and_eq_true] at q1
      show [sv X ρ' t] = [sv X (rst g (ρ0.1 g) ρ') t]
      rw [vlt_v ag q1.2]
  refine ⟨⟨fun i hi => ?_, fun a ha j => h2 a ha j⟩, ⟨rst_vok h3.1 hn, fall_agr ag g4 h3.2⟩, iok_agr ag g6 h4, ans _ _ g7 h5, ans _ _ g8 h6⟩
  obtain ⟨q1, q2⟩ := h1 i hi
  refine ⟨?_, q2⟩
  by_cases e : i = g
  · rw [e]
    exact if_pos rfl
  · exact (if_neg e).trans (q1.trans (if_neg e))
theorem RelP_rst {Ft : Nat → Nat → FieldType} {dfl : Nat → Nat × List Value} {Mt : List pM} {n dc dm : Nat} {Zc Zm : sH} {J J' : sR → List Value → List Value → Prop} {ρ2 ρ : sR} (ag : agr n ρ2 ρ) {s1 s2 : sS} (h1 : (s1.1 :: s1.2.1).all (vltF n) = true) (z1 : hall (vltE n) 9 s1.2.2.2.1.1 = true) (h2 : (s2.1 :: s2.2.1).all (vltF n) = true) (z2 : hall (vltE n) 9 s2.2.2.2.1.1 = true) (y1 : hall (vltE n) 9 Zc.1 = true) (y2 : hall (vltE n) 9 Zm.1 = true) (hJ : ∀ ρ' vc vm, J ρ' vc vm → ∃ ρ'', agr n ρ'' ρ' ∧ J' ρ'' vc vm) (h : RelP X Ft dfl Mt dc dm Zc Zm J ρ2 s1 s2) : RelP X Ft dfl Mt dc dm Zc Zm J' ρ s1 s2 := by
  obtain ⟨ρ', vc, vm, j, a, b⟩ := h
  obtain ⟨ρ'', ag2, j2⟩ := hJ ρ' vc vm j
  have a' := GPh_agr ag h1 z1 a
  have b' := GPh_agr ag h2 z2 b
  rw [← QH_agr ag2 y1] at a'
  rw [← QH_agr ag2 y2] at b'
  exact ⟨ρ'', vc, vm, j2, a', b'⟩
/-- a cut that is met again over others: what is behind it may take it as shown where the measure is below g -/
theorem CUT_again {Z : sH} {C : sC} {d g : Nat} {mt : sT} {c1 c2 : sF × List sF × Nat} {F : sFs} {I : sI} (hx : K.2.2.2 = false) (hn : vrng g = none) (hg6 : g < 65536) (hgm : g ∉ C.2.2.2.2.1.1) (hmg : vlt g mt = true) (hfine : cfine Z g C = true) (hF : fvlt g F = true) (hI : ivlt g I = true) (h1 : (c1.1 :: c1.2.1).all (vltF g) = true) (h2 : (c2.1 :: c2.2.1).all (vltF g) = true) (h : ∀ ρ0 : sR, vok X ρ0 → CUTOK X K Z C d ρ0 (c1, c2, ((2, mt, .arg g), true) :: F, I) → CUTOK X K Z C d ρ0 (c1, c2, ((0, mt, .arg g), true) :: F, I)) : ∀ ρ0 : sR, vok X ρ0 → CUTOK X K Z C d ρ0 (c1, c2, F, I) := by
  have zf := hfine
  simp only [cfine, Bool.and_eq_true] at zf
  obtain ⟨z1, z2, -⟩ := zf
  have key : ∀ (n : Nat) (ρ0 ρ1 : sR), vok X ρ0 → kok X ρ1 K → fok X ρ1 F → iok X ρ1 I → agrM 65536 C.2.2.2.2.1.1 C.2.2.2.2.1.2 ρ1 ρ0 → ((sd X ρ1 mt).1.toInt + 2147483648).toNat < n → RelP X pF pdfl mt_all (d + 1) (d + 1) (foot Z C.2.2.1.1) (foot Z C.2.2.1.2) (cJ X C ρ0) ρ1 (cst Z C.2.2.1.1 c1) (cst Z C.2.2.1.2 c2) := by
    intro n
    induction n with
    | zero => intro ρ0 ρ1 _ _ _ _ _ hm; omega
    | succ n ih =>
      intro ρ0 ρ1 hv k1 k2 k3 k4 hm
      have hv' : vok X (rst g (sd X ρ1 mt).1 ρ0) := rst_vok hv hn
      have hk : CUTOK X K Z C d (rst g (sd X ρ1 mt).1 ρ0) (c1, c2, ((2, mt, .arg g), true) :: F, I) := by
        intro ρ2 l1 l2 l3 l4
        have e : ρ2.1 g = (sd X ρ1 mt).1 := ((l4.1 g hg6 hgm).1).trans (if_pos rfl)
        have lt : (sd X ρ2 mt).1 < ρ2.1 g := of_decide_eq_true (l2.2 _ List.mem_cons_self)
        rw [e] at lt
        have lt := Int32.lt_iff_toInt_lt.mp lt
        have b1 : (-2147483648 : Int) ≤ (sd X ρ2 mt).1.toInt := Int32.le_toInt _
        exact ih _ ρ2 hv' l1 ⟨l2.1, fun f hf => l2.2 f (List.mem_cons_of_mem _ hf)⟩ l3 l4 (by omega)
      have ag := rst_agr (g := g) (x := (sd X ρ1 mt).1) (ρ := ρ1)
      have kk : kok X (rst g (sd X ρ1 mt).1 ρ1) K := ⟨k1.1, k1.2.1, k1.2.2.1, fun e => by rw [hx] at e; cases e⟩
      have f0 := fall_agr ag hF k2.2
      have ff : fok X (rst g (sd X ρ1 mt).1 ρ1) (((0, mt, .arg g), true) :: F) := ⟨rst_vok k2.1 hn, fun f hf => by
        rcases List.mem_cons.mp hf with hf | hf
        · rw [hf]
          exact decide_eq_true (show (sd X (rst g (sd X ρ1 mt).1 ρ1) mt).1 = (if g = g then (sd X ρ1 mt).1 else ρ1.1 g) by rw [if_pos rfl, vlt_d ag mt hmg])
        · exact f0 f hf⟩
      have k4' : agrM 65536 C.2.2.2.2.1.1 C.2.2.2.2.1.2 (rst g (sd X ρ1 mt).1 ρ1) (rst g (sd X ρ1 mt).1 ρ0) := ⟨fun i hi hm => by
        refine ⟨?_, (k4.1 i hi hm).2⟩
        show (if i = g then (sd X ρ1 mt).1 else ρ1.1 i) = (if i = g then (sd X ρ1 mt).1 else ρ0.1 i)
        rw [(k4.1 i hi hm).1], k4.2⟩
      have r := h _ hv' hk (rst g (sd X ρ1 mt).1 ρ1) kk ff (iok_agr ag hI k3) k4'
      exact RelP_rst (n := g) (ρ2 := rst g (sd X ρ1 mt).1 ρ1) (ρ := ρ1) ag h1 z1 h2 z2 z1 z2 (fun ρ' vc vm j => ⟨rst g (ρ0.1 g) ρ', rst_agr, cJ_rst hfine hn j⟩) r
  intro ρ0 hv ρ1 k1 k2 k3 k4
  exact key _ ρ0 ρ1 hv k1 k2 k3 k4 (Nat.lt_succ_self _)
end AGN
