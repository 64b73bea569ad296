/-! ===== the tick: what is left alone, by masks ===== -/
set_option maxRecDepth 20000
section TKL
variable {X : pX}
noncomputable def mkm (l : List Nat) : Nat := @List.rec Nat (fun _ => Nat) 0 (fun i _ ih => Nat.lor (Nat.shiftLeft 1 i) ih) l
theorem mkm_ok {i : Nat} : ∀ {l : List Nat}, i ∈ l → (mkm l).testBit i = true
  | [], h => by cases h
  | a :: l, h => by
    have e0 : mkm (a :: l) = (1 <<< a) ||| mkm l := rfl
    rw [e0, Nat.testBit_or, Bool.or_eq_true]
    rcases List.mem_cons.mp h with e | h
    · left
      rw [e, Nat.testBit_shiftLeft]
      simp
    · exact .inr (mkm_ok h)
noncomputable def kV (l : List Nat) (i : Nat) : Bool := (mkm l).testBit i || Nat.ble 65536 i
theorem kV_no {l : List Nat} {i : Nat} (h : kV l i = false) : i < 65536 ∧ i ∉ l := by
  simp only [kV, Bool.or_eq_false_iff] at h
  constructor
  · have h3 : ¬ 65536 ≤ i := fun e => by rw [Nat.ble_eq_true_of_le e] at h; cases h.2
    omega
  · intro e
    rw [mkm_ok e] at h
    cases h.1
theorem alkM {mods moda : List Nat} {ρ ρ' : sR} (h : agrM 65536 mods moda ρ' ρ) : alk (kV mods) (kV moda) ρ' ρ := ⟨fun i hi => h.1 i (kV_no hi).1 (kV_no hi).2, fun a ha => h.2 a (kV_no ha).1 (kV_no ha).2⟩
noncomputable def fin1 (L : sFs) (f : sQ × Bool) : Bool := L.any (fun g => (f.2 == g.2) && qqe f.1 g.1)
theorem fin1_ok {L : sFs} {f : sQ × Bool} (h : fin1 L f = true) : f ∈ L := by
  obtain ⟨g, hg, e⟩ := List.any_eq_true.mp h
  simp only [Bool.and_eq_true, beq_iff_eq] at e
  have e2 : f = g := Prod.ext (qqe_ok e.2) e.1
  rw [e2]
  exact hg
theorem fall_S {F L : sFs} {ρ : sR} (hc : F.all (fin1 L) = true) (hL : fall X ρ L) : fall X ρ F := fun f hf => hL f (fin1_ok (List.all_eq_true.mp hc f hf))
theorem fall_R {mods moda : List Nat} {F L : sFs} {ρ ρ' : sR} (h : agrM 65536 mods moda ρ' ρ) (hc : F.all (fun f => nodF (kV mods) (kV moda) [f] || fin1 L f) = true) (hL : fall X ρ' L) (hF : fall X ρ F) : fall X ρ' F := fun f hf => by
  rcases (Bool.or_eq_true _ _).mp (List.all_eq_true.mp hc f hf) with c | c
  · exact nod_fall (alkM h) c (fun g hg => by rw [List.mem_singleton.mp hg]; exact hF f hf) f (List.mem_singleton.mpr rfl)
  · exact hL f (fin1_ok c)
theorem fall_K {mods moda : List Nat} {F : sFs} {ρ ρ' : sR} (h : agrM 65536 mods moda ρ' ρ) (hc : nodF (kV mods) (kV moda) F = true) (hF : fall X ρ F) : fall X ρ' F := nod_fall (alkM h) hc hF
theorem iok_K {mods moda : List Nat} {I : sI} {ρ ρ' : sR} (h : agrM 65536 mods moda ρ' ρ) (hc : nodI (kV mods) (kV moda) I = true) (hI : iok X ρ I) : iok X ρ' I := nod_iok (alkM h) hc hI
noncomputable def iqe (c d : sFs × sQ × Bool) : Bool := fqe c.1 d.1 && ((c.2.2 == d.2.2) && qqe c.2.1 d.2.1)
theorem iqe_ok {c d : sFs × sQ × Bool} (h : iqe c d = true) : c = d := by
  simp only [iqe, Bool.and_eq_true, beq_iff_eq] at h
  exact Prod.ext (fqe_ok h.1) (Prod.ext (qqe_ok h.2.2) h.2.1)
noncomputable def iqL : sI → sI → Bool
  | [], [] => true
  | c :: r, d :: s => iqe c d && iqL r s
  | _, _ => false
theorem iqL_ok : ∀ {I L : sI}, iqL I L = true → I = L
  | [], [], _ => rfl
  | [], _ :: _, h => by cases h
  | _ :: _, [], h => by cases h
  | c :: r, d :: s, h => by
    simp only [iqL, Bool.and_eq_true] at h
    rw [iqe_ok h.1, iqL_ok h.2]
noncomputable def ird (V R : Nat → Bool) (L : sI) (q : sQ) (c : sFs × sQ × Bool) : Bool := nodI V R [c] || (L.any (iqe c) || match c.1 with
  | f :: G => f.2 && (qqe f.1 q && nodI V R [(G, c.2)])
  | [] => false)
/-- implications under a condition that, where it holds then, held before -/
theorem iok_R {mods moda : List Nat} {I L : sI} {q : sQ} {ρ ρ' : sR} (h : agrM 65536 mods moda ρ' ρ) (hq : sc X ρ' q = true → sc X ρ q = true) (hc : I.all (ird (kV mods) (kV moda) L q) = true) (hL : iok X ρ' L) (hI : iok X ρ I) : iok X ρ' I := fun c hm hg => by
  have k := List.all_eq_true.mp hc c hm
  simp only [ird] at k
  rcases (Bool.or_eq_true _ _).mp k with k | k
  · exact nod_iok (alkM h) k (fun d hd => by rw [List.mem_singleton.mp hd]; exact hI c hm) c (List.mem_singleton.mpr rfl) hg
  rcases (Bool.or_eq_true _ _).mp k with k | k
  · obtain ⟨d, hd, e⟩ := List.any_eq_true.mp k
    have e := iqe_ok e
    subst e
    exact hL c hd hg
  · obtain ⟨c1, c2⟩ := c
    cases c1 with
    | nil => cases k
    | cons f G =>
      simp only [Bool.and_eq_true] at k
      have e := qqe_ok k.2.1
      have hf : sc X ρ' f.1 = f.2 := hg f List.mem_cons_self
      rw [k.1, e] at hf
      have hf' : sc X ρ f.1 = f.2 := by rw [k.1, e]; exact hq hf
      have hi : iok X ρ [(G, c2)] := fun d hd hg' => by
        rw [List.mem_singleton.mp hd] at hg' ⊢
        exact hI (f :: G, c2) hm (fun g hgm => by
          rcases List.mem_cons.mp hgm with e2 | e2
          · rw [e2]; exact hf'
          · exact hg' g e2)
      exact nod_iok (alkM h) k.2.2 hi (G, c2) (List.mem_singleton.mpr rfl) (fun g hgm => hg g (List.mem_cons_of_mem _ hgm))
/-- a drive: what is known with power, and without -/
noncomputable def drG (X : pX) (on : Nat) (fw : sFs) (iw : sI) (fo : sFs) (ρ : sR) : Prop := (¬ ρ.1 on = 0 → fall X ρ fw ∧ iok X ρ iw) ∧ (ρ.1 on = 0 → fall X ρ fo)
noncomputable def drc (mods moda : List Nat) (on : Nat) (fw : sFs) (iw : sI) (fo L : sFs) : Bool := (!(kV mods on)) && (nodF (kV mods) (kV moda) fw && (nodI (kV mods) (kV moda) iw && fo.all (fun f => nodF (kV mods) (kV moda) [f] || fin1 L f)))
theorem kV_e {mods moda : List Nat} {i : Nat} {ρ ρ' : sR} (h : agrM 65536 mods moda ρ' ρ) (hc : (!(kV mods i)) = true) : ρ'.1 i = ρ.1 i := ((alkM h).1 i (by simpa using hc)).1
theorem drK {mods moda : List Nat} {on : Nat} {fw : sFs} {iw : sI} {fo L : sFs} {ρ ρ' : sR} (h : agrM 65536 mods moda ρ' ρ) (hc : drc mods moda on fw iw fo L = true) (hL : ρ.1 on = 0 → fall X ρ' L) (d : drG X on fw iw fo ρ) : drG X on fw iw fo ρ' := by
  simp only [drc, Bool.and_eq_true] at hc
  have e := kV_e h hc.1
  exact ⟨fun g => by rw [e] at g; exact ⟨fall_K h hc.2.1 (d.1 g).1, iok_K h hc.2.2.1 (d.1 g).2⟩, fun g => by rw [e] at g; exact fall_R h hc.2.2.2 (hL g) (d.2 g)⟩
theorem dr_ag {n on : Nat} {fw : sFs} {iw : sI} {fo : sFs} {ρ ρ' : sR} (h : agr n ρ' ρ) (hc : (Nat.blt on n && (fvlt n fw && (ivlt n iw && fvlt n fo))) = true) (d : drG X on fw iw fo ρ) : drG X on fw iw fo ρ' := by
  simp only [Bool.and_eq_true] at hc
  have e : ρ'.1 on = ρ.1 on := (h.1 on (by have := Nat.le_of_ble_eq_true hc.1; omega)).1
  exact ⟨fun g => by rw [e] at g; exact ⟨fall_agr h hc.2.1 (d.1 g).1, iok_agr h hc.2.2.1 (d.1 g).2⟩, fun g => by rw [e] at g; exact fall_agr h hc.2.2.2 (d.2 g)⟩
theorem agr_M {ρ ρ' : sR} (h : agrM 65536 [] [] ρ' ρ) : agr 65536 ρ' ρ := ⟨fun i hi => h.1 i hi (fun e => by cases e), fun a ha => h.2 a ha (fun e => by cases e)⟩
/-- nothing waits; what waits is known -/
noncomputable def st0 (i z : Nat) (ρ : sR) : Prop := ρ.1 i = 0 ∧ ρ.1 z = 0
noncomputable def stF (X : pX) (on i z : Nat) (f : sFs) (ρ : sR) : Prop := fall X ρ f ∧ ρ.1 z = ρ.1 i ∧ (ρ.1 on = 0 → ρ.1 i = 0)
/-- bounds of the log and of the clock -/
noncomputable def bd (l t : Int) (ρ : sR) : Prop := 0 ≤ (ρ.1 1376).toInt ∧ (ρ.1 1376).toInt ≤ l ∧ (ρ.1 1280).toInt ≤ t
theorem bd_e {l t : Int} {ρ ρ' : sR} (e1 : ρ'.1 1376 = ρ.1 1376) (e2 : ρ'.1 1280 = ρ.1 1280) (h : bd l t ρ) : bd l t ρ' := by
  unfold bd
  rw [e1, e2]
  exact h
theorem st0_e {i z : Nat} {ρ ρ' : sR} (e1 : ρ'.1 i = ρ.1 i) (e2 : ρ'.1 z = ρ.1 z) (h : st0 i z ρ) : st0 i z ρ' := ⟨e1.trans h.1, e2.trans h.2⟩
theorem START_P {K : sK} {J : sR → List Value → List Value → Prop} {dc dm : Nat} {Zc Zm : sH} (hx : K.2.2.2 = false) (hk0 : ∀ a l, K.2.2.1 a = some l → a < 1000) {Z : sH} {Cs : List (sH × sC)} (hCs : ∀ C ∈ Cs, SREL X pF pdfl mt_all K C.1 C.2) {C : sC} (hfine : cfine Z 65536 C = true) {Q : List sCut} (n : Nat) {d1 d2 : Nat} {F : sFs} {I : sI} (h : frun K Cs (cpl1 Z C Q) (cpl2 Z C Q) (cleafN K Z C Q) n 65536 (isatP F I) I (sin0 mt_all C.1.1 d1 C.2.1.1 (foot Z C.2.2.1.1)) (sin0 mt_all C.1.2.1 d2 C.2.1.2 (foot Z C.2.2.1.2)) = true) {ρ1 : sR} (k1 : kok X ρ1 K) (k2 : fok X ρ1 F) (k3 : iok X ρ1 I) (hQ : ∀ p ∈ Q, ∀ ρ3 : sR, kok X ρ3 K → fok X ρ3 p.2.2.1 → iok X ρ3 p.2.2.2 → agrM 65536 C.2.2.2.2.1.1 C.2.2.2.2.1.2 ρ3 ρ1 → RelP X pF pdfl mt_all dc dm Zc Zm J ρ3 (cst Z C.2.2.1.1 p.1) (cst Z C.2.2.1.2 p.2.1)) : RelP X pF pdfl mt_all dc dm Zc Zm J ρ1 (sin0 mt_all C.1.1 d1 C.2.1.1 (foot Z C.2.2.1.1)) (sin0 mt_all C.1.2.1 d2 C.2.1.2 (foot Z C.2.2.1.2)) := by
  have hf := hfine
  simp only [cfine, Bool.and_eq_true] at hf
  obtain ⟨-, -, -, -, -, -, o1, o2⟩ := hf
  exact frun_ok (n0 := 65536) (l1 := foot Z C.2.2.1.1) (l2 := foot Z C.2.2.1.2) (A := fun ρ2 => agrM 65536 C.2.2.2.2.1.1 C.2.2.2.2.1.2 ρ2 ρ1) hx hk0 hCs (fun off ρ2 ρ3 h1 h2 h3 => agrM_new h1 h2 h3) (fun ρ F I s1 s2 q1 q2 q3 q4 g1 g2 q5 => by
    obtain ⟨p, hp, h5⟩ := List.any_eq_true.mp q5
    simp only [cutat, Bool.and_eq_true] at h5
    exact rcase_ok hx q1 q2 q3 q4 rfl rfl g1 g2 h5.2.2.2.2 (fun ρ3 r1 r2 r3 r4 _ => hQ p hp ρ3 r1 r2 r3 r4)) n 65536 _ I _ _ ρ1 (Nat.le_refl _) h k1 (isatP_ok k2 k3) k3 ⟨fun _ _ _ => ⟨rfl, rfl⟩, fun _ _ _ => ⟨rfl, rfl⟩⟩ (kdom_in o1) (kdom_in o2)
end TKL
noncomputable def f_inf4 : sFs := [((2, .arg 20032, .int 0), false), ((2, .int 8, .arg 20032), false), ((2, .arg 1856, .int 0), false), ((2, .int 8, .arg 1856), false), ((2, .arg 1856, .arg 20032), false), ((106, .add (.sub (.arg 1856) (.arg 20032)) (.add (.elem (.arg 1696) (.int 0)) (.elem (.arg 19872) (.int 0))), .arg 20032), true), ((107, .add (.sub (.arg 1856) (.arg 20032)) (.add (.elem (.arg 1569) (.int 0)) (.elem (.arg 5281) (.int 0))), .arg 20032), true)]
theorem inf_4 {X : pX} {ρ ρ' : sR} (e1 : ρ'.1 20032 = ρ.1 20032) (e2 : ρ'.1 1856 = ρ.1 1856) (a1 : ρ'.2.2.1 1696 = ρ.2.2.1 1696) (a2 : ρ'.2.2.1 19872 = ρ.2.2.1 19872) (a3 : ρ'.2.2.2.1 1569 = ρ.2.2.2.1 1569) (a4 : ρ'.2.2.2.1 5281 = ρ.2.2.2.1 5281) (h : fall X ρ f_inf4) : fall X ρ' f_inf4 := by
  have x0 : sc X ρ' (2, .arg 20032, .int 0) = false := by
    have q : sc X ρ (2, .arg 20032, .int 0) = false := h _ (List.mem_cons_self)
    show decide (ρ'.1 20032 < 0) = false
    rw [e1]
    exact q
  have x1 : sc X ρ' (2, .int 8, .arg 20032) = false := by
    have q : sc X ρ (2, .int 8, .arg 20032) = false := h _ (List.mem_cons_of_mem _ (List.mem_cons_self))
    show decide ((8 : Int32) < ρ'.1 20032) = false
    rw [e1]
    exact q
  have x2 : sc X ρ' (2, .arg 1856, .int 0) = false := by
    have q : sc X ρ (2, .arg 1856, .int 0) = false := h _ (List.mem_cons_of_mem _ (List.mem_cons_of_mem _ (List.mem_cons_self)))
    show decide (ρ'.1 1856 < 0) = false
    rw [e2]
    exact q
  have x3 : sc X ρ' (2, .int 8, .arg 1856) = false := by
    have q : sc X ρ (2, .int 8, .arg 1856) = false := h _ (List.mem_cons_of_mem _ (List.mem_cons_of_mem _ (List.mem_cons_of_mem _ (List.mem_cons_self))))
    show decide ((8 : Int32) < ρ'.1 1856) = false
    rw [e2]
    exact q
  have x4 : sc X ρ' (2, .arg 1856, .arg 20032) = false := by
    have q : sc X ρ (2, .arg 1856, .arg 20032) = false := h _ (List.mem_cons_of_mem _ (List.mem_cons_of_mem _ (List.mem_cons_of_mem _ (List.mem_cons_of_mem _ (List.mem_cons_self)))))
    show decide (ρ'.1 1856 < ρ'.1 20032) = false
    rw [e2, e1]
    exact q
  have x5 : sc X ρ' (106, .add (.sub (.arg 1856) (.arg 20032)) (.add (.elem (.arg 1696) (.int 0)) (.elem (.arg 19872) (.int 0))), .arg 20032) = true := by
    have q : sc X ρ (106, .add (.sub (.arg 1856) (.arg 20032)) (.add (.elem (.arg 1696) (.int 0)) (.elem (.arg 19872) (.int 0))), .arg 20032) = true := h _ (List.mem_cons_of_mem _ (List.mem_cons_of_mem _ (List.mem_cons_of_mem _ (List.mem_cons_of_mem _ (List.mem_cons_of_mem _ (List.mem_cons_self))))))
    show (List.range (ρ'.1 20032).toInt.toNat).all (fun j => decide (ρ'.2.2.1 1696 ((ρ'.1 1856 - ρ'.1 20032).toInt.toNat + j) = ρ'.2.2.1 19872 j)) = true
    rw [e1, e2, a1, a2]
    exact q
  have x6 : sc X ρ' (107, .add (.sub (.arg 1856) (.arg 20032)) (.add (.elem (.arg 1569) (.int 0)) (.elem (.arg 5281) (.int 0))), .arg 20032) = true := by
    have q : sc X ρ (107, .add (.sub (.arg 1856) (.arg 20032)) (.add (.elem (.arg 1569) (.int 0)) (.elem (.arg 5281) (.int 0))), .arg 20032) = true := h _ (List.mem_cons_of_mem _ (List.mem_cons_of_mem _ (List.mem_cons_of_mem _ (List.mem_cons_of_mem _ (List.mem_cons_of_mem _ (List.mem_cons_of_mem _ (List.mem_cons_self)))))))
    show (List.range (ρ'.1 20032).toInt.toNat).all (fun j => decide (ρ'.2.2.2.1 1569 ((ρ'.1 1856 - ρ'.1 20032).toInt.toNat + j) = ρ'.2.2.2.1 5281 j)) = true
    rw [e1, e2, a3, a4]
    exact q
  exact fcn x0 (fcn x1 (fcn x2 (fcn x3 (fcn x4 (fcn x5 (fcn x6 (fun f hf => by cases hf)))))))
