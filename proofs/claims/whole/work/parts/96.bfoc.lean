/-! ===== ... by checks ===== -/
noncomputable def rgl (q : Int × Int) : sT → Bool
  | .index a => decide (vrng a = some q) && Nat.beq (a % 2) 0
  | .add (.index a) r => (decide (vrng a = some q) && Nat.beq (a % 2) 0) && rgl q r
  | _ => false
/-- what a rest holds is within its range -/
noncomputable def rgc (Z : sH) (p : Nat × Nat) : Bool := Nat.ble 1000 p.1 && (match vrng p.1 with
  | none => true
  | some q => Nat.beq (p.1 % 2) 0 && (match hget Z p.2 with
    | some (.inl (_, _, .old (.mul (.sub (.index m) (.index w)) l), u)) => Nat.beq m 0 && (u.isEmpty && (Nat.ble w 65536 && (Nat.blt 0 w && (rgl q l && (decide (q.1 ≤ 0) && decide (0 ≤ q.2))))))
    | some (.inl (_, _, .int z, u)) => u.all (fun x => sk x.2 == 0 && (decide (q.1 ≤ (sivl [] x.2).1) && decide ((sivl [] x.2).2 ≤ q.2))) && (decide (q.1 ≤ z.toInt) && decide (z.toInt ≤ q.2))
    | _ => false))
section FOZ
variable {X : pX} {Z : sH} {D : Nat} {k : Int32} {RL : List (Nat × Nat)} {ρ ρ' : sR}
theorem rgl_c {q : Int × Int} : ∀ (l : sT) (b a : Nat), rgl q l = true → catA l b = some a → vrng a = some q ∧ a % 2 = 0 := by
  intro l
  induction l with
  | index c =>
    intro b a h hc
    simp only [rgl, Bool.and_eq_true, decide_eq_true_eq] at h
    cases b with
    | zero => simp only [catA, Option.some.injEq] at hc; rw [← hc]; exact ⟨h.1, Nat.eq_of_beq_eq_true h.2⟩
    | succ b => simp [catA] at hc
  | add x y ihx ihy =>
    intro b a h hc
    cases x with
    | index c =>
      simp only [rgl, Bool.and_eq_true, decide_eq_true_eq] at h
      cases b with
      | zero => simp only [catA, Option.some.injEq] at hc; rw [← hc]; exact ⟨h.1.1, Nat.eq_of_beq_eq_true h.1.2⟩
      | succ b => exact ihy b a h.2 (by simpa [catA] using hc)
    | _ => simp [rgl] at h
  | _ => intro b a h _; simp [rgl] at h
theorem rgc_ok (hv : vok X ρ) {p : Nat × Nat} (h : rgc Z p = true) {q : Int × Int} (hq : vrng p.1 = some q) (j : Nat) : p.1 % 2 = 0 ∧ q.1 ≤ (vI (fco X Z ρ p.2 j)).toInt ∧ (vI (fco X Z ρ p.2 j)).toInt ≤ q.2 := by
  unfold rgc at h
  rw [hq] at h
  simp only [Bool.and_eq_true] at h
  refine ⟨Nat.eq_of_beq_eq_true h.2.1, ?_⟩
  have h := h.2.2
  split at h
  · next t n m w l u hZ =>
    simp only [Bool.and_eq_true, List.isEmpty_iff, decide_eq_true_eq] at h
    obtain ⟨h1, h2, h3, h4, h5, h6, h7⟩ := h
    have h1 := Nat.eq_of_beq_eq_true h1
    have h3 := Nat.le_of_ble_eq_true h3
    have h4 : 0 < w := Nat.blt_eq.mp h4
    subst h1 h2
    have e : fco X Z ρ p.2 j = rden ρ 0 w l j := by
      unfold fco
      rw [hZ]
      rfl
    rw [e]
    unfold rden
    cases hc : catA l (j / w) with
    | none => exact ⟨h6, h7⟩
    | some a =>
      obtain ⟨g1, g2⟩ := rgl_c l _ a h5 hc
      dsimp only
      rw [if_neg (by omega)]
      have hi : j % w < w := Nat.mod_lt _ h4
      have h8 := hv.2 a (.int (Int32.ofNat (j % w))) q g1
      have e8 : sn X ρ (.elem (.arg a) (.int (Int32.ofNat (j % w)))) = (ρ.2.2.1 a (j % w)).toInt := by
        show (if a % 2 = 1 then (ρ.2.2.2.1 a (Int32.ofNat (j % w)).toNatClampNeg).toInt else (ρ.2.2.1 a (Int32.ofNat (j % w)).toNatClampNeg).toInt) = _
        rw [if_neg (by omega), s_nat, Int32.toInt_ofNat_small (by omega)]
        rfl
      rw [e8] at h8
      exact h8
  · next t n z u hZ =>
    simp only [Bool.and_eq_true, decide_eq_true_eq] at h
    have e : fco X Z ρ p.2 j = aden X ρ (.int z) u j := by
      unfold fco
      rw [hZ]
    rw [e]
    have key : ∀ w : List (sT × sT), (∀ x ∈ w, x ∈ u) → q.1 ≤ (vI (aden X ρ (.int z) w j)).toInt ∧ (vI (aden X ρ (.int z) w j)).toInt ≤ q.2 := by
      intro w
      induction w with
      | nil =>
        intro _
        exact ⟨h.2.1, h.2.2⟩
      | cons x r ih =>
        intro hw
        have hx := List.all_eq_true.mp h.1 x (hw x List.mem_cons_self)
        simp only [Bool.and_eq_true, decide_eq_true_eq, beq_iff_eq] at hx
        have ih := ih (fun y hy => hw y (List.mem_cons_of_mem _ hy))
        show q.1 ≤ (vI (if (sd X ρ x.1).1.toNatClampNeg = j then sv X ρ x.2 else aden X ρ (.int z) r j)).toInt ∧ (vI (if (sd X ρ x.1).1.toNatClampNeg = j then sv X ρ x.2 else aden X ρ (.int z) r j)).toInt ≤ q.2
        by_cases hc : (sd X ρ x.1).1.toNatClampNeg = j
        · rw [if_pos hc, sv_int hx.1]
          have h9 := sivl_ok (X := X) (ρ := ρ) (F := []) ⟨hv, fun f hf => by cases hf⟩ x.2
          rw [sn_i hx.1] at h9
          exact ⟨Int.le_trans hx.2.1 h9.1, Int.le_trans h9.2 hx.2.2⟩
        · rw [if_neg hc]
          exact ih
    exact key u (fun _ h => h)
  · cases h
theorem rfo_vok (hv : vok X ρ) (hD : ∀ q, vrng D = some q → q.1 ≤ k.toInt ∧ k.toInt ≤ q.2) (hD2 : D % 2 = 0) (hR : RL.all (rgc Z) = true) : vok X (rfo X Z D k RL ρ) := by
  constructor
  · intro i q hq
    by_cases hi : i = D
    · have e : sn X (rfo X Z D k RL ρ) (.arg i) = k.toInt := by
        show (if i % 2 = 1 then (ρ.2.1 i).toInt else (if i = D then k else ρ.1 i).toInt) = _
        rw [if_neg (by rw [hi]; omega), if_pos hi]
      rw [e]
      exact hD q (hi ▸ hq)
    · have e : sn X (rfo X Z D k RL ρ) (.arg i) = sn X ρ (.arg i) := by
        show (if i % 2 = 1 then (ρ.2.1 i).toInt else (if i = D then k else ρ.1 i).toInt) = if i % 2 = 1 then (ρ.2.1 i).toInt else (ρ.1 i).toInt
        rw [if_neg hi]
      rw [e]
      exact hv.1 i q hq
  · intro a t q hq
    cases hf : rfd RL a with
    | none =>
      have e1 : (rfo X Z D k RL ρ).2.2.1 a = ρ.2.2.1 a := by
        show (match rfd RL a with
          | some p => fun j => vI (fco X Z ρ p.2 j)
          | none => ρ.2.2.1 a) = _
        rw [hf]
      have e2 : (rfo X Z D k RL ρ).2.2.2.1 a = ρ.2.2.2.1 a := by
        show (match rfd RL a with
          | some p => fun j => vL (fco X Z ρ p.2 j)
          | none => ρ.2.2.2.1 a) = _
        rw [hf]
      have e : sn X (rfo X Z D k RL ρ) (.elem (.arg a) t) = sn X ρ (.elem (.arg a) (.int (sd X (rfo X Z D k RL ρ) t).1)) := by
        show (if a % 2 = 1 then ((rfo X Z D k RL ρ).2.2.2.1 a (sd X (rfo X Z D k RL ρ) t).1.toNatClampNeg).toInt else ((rfo X Z D k RL ρ).2.2.1 a (sd X (rfo X Z D k RL ρ) t).1.toNatClampNeg).toInt) = if a % 2 = 1 then (ρ.2.2.2.1 a (sd X (rfo X Z D k RL ρ) t).1.toNatClampNeg).toInt else (ρ.2.2.1 a (sd X (rfo X Z D k RL ρ) t).1.toNatClampNeg).toInt
        rw [e1, e2]
      rw [e]
      exact hv.2 a _ q hq
    | some p =>
      have hm := List.mem_of_find?_eq_some hf
      have ha : p.1 = a := by
        have h := List.find?_some (p := fun q : Nat × Nat => q.1 == a) hf
        simpa using h
      have h1 := rgc_ok (X := X) hv (List.all_eq_true.mp hR p hm) (ha ▸ hq) (sd X (rfo X Z D k RL ρ) t).1.toNatClampNeg
      have e1 : (rfo X Z D k RL ρ).2.2.1 a = fun j => vI (fco X Z ρ p.2 j) := by
        show (match rfd RL a with
          | some p => fun j => vI (fco X Z ρ p.2 j)
          | none => ρ.2.2.1 a) = _
        rw [hf]
      have e : sn X (rfo X Z D k RL ρ) (.elem (.arg a) t) = (vI (fco X Z ρ p.2 (sd X (rfo X Z D k RL ρ) t).1.toNatClampNeg)).toInt := by
        show (if a % 2 = 1 then ((rfo X Z D k RL ρ).2.2.2.1 a (sd X (rfo X Z D k RL ρ) t).1.toNatClampNeg).toInt else ((rfo X Z D k RL ρ).2.2.1 a (sd X (rfo X Z D k RL ρ) t).1.toNatClampNeg).toInt) = _
        rw [if_neg (by rw [← ha]; omega), e1]
      rw [e]
      exact h1.2
theorem rfo_kok {K : sK} (hx : K.2.2.2 = false) (hk0 : ∀ a l, K.2.2.1 a = some l → a < 1000) (hR : RL.all (rgc Z) = true) (h : kok X ρ K) : kok X (rfo X Z D k RL ρ) K := by
  refine ⟨h.1, h.2.1, fun a l ha j => ?_, fun e => by rw [hx] at e; cases e⟩
  have hf : rfd RL a = none := by
    unfold rfd
    rw [List.find?_eq_none]
    intro p hp hc
    have hc : p.1 = a := by simpa using hc
    have h1 := List.all_eq_true.mp hR p hp
    simp only [rgc, Bool.and_eq_true] at h1
    have h2 := Nat.le_of_ble_eq_true h1.1
    have h3 := hk0 a l ha
    omega
  have e1 : (rfo X Z D k RL ρ).2.2.1 a = ρ.2.2.1 a := by
    show (match rfd RL a with
      | some p => fun j => vI (fco X Z ρ p.2 j)
      | none => ρ.2.2.1 a) = _
    rw [hf]
  have e2 : (rfo X Z D k RL ρ).2.2.2.1 a = ρ.2.2.2.1 a := by
    show (match rfd RL a with
      | some p => fun j => vL (fco X Z ρ p.2 j)
      | none => ρ.2.2.2.1 a) = _
    rw [hf]
  rw [e1, e2]
  exact h.2.2.1 a l ha j
/-! cell by cell -/
noncomputable def bcst (b : sT) : Bool := match b with
  | .int _ => true
  | .long _ => true
  | _ => false
noncomputable def pnn (t : sT) : Bool := match t with
  | .int v => decide (¬ v < 0)
  | _ => false
noncomputable def fcs_ (D : Nat) (k : Int32) (RL : List (Nat × Nat)) (mods moda : List Nat) (c : Nat) (e1 e2 : sE) : Bool := match e1, e2 with
  | .inl (t1, n1, b1, u1), .inl (t2, n2, .arg r, u2) => decide (t1 = t2) && (decide (n1 = n2) && (decide (rfd RL r = some (r, c)) && (kdB r b1 && (bcst b1 && (u1.all (fun x => sk x.2 == r % 2) && (u2.all (fun x => fsm D k u1 x && nod (fun i => i == D) (fun a => (RL.map (fun p => p.1)).contains a) x.2) && (u1.all (fkp D k mods u2) && (u1.all (fun x => pnn x.1) && !(moda.contains r)))))))))
  | _, _ => false
noncomputable def fcr_ (D : Nat) (k : Int32) (RL : List (Nat × Nat)) (moda : List Nat) (c : Nat) (e1 e2 : sE) : Bool := match e1, e2 with
  | .inl (t1, n1, .old (.mul (.sub (.index m) (.index w)) l1), u1), .inl (t2, n2, .old (.add (.sub (.arg q) (.index kk)) (.add (.mul (.sub (.index m2) (.index w2)) l2) (.index r))), u2) => u1.isEmpty && (u2.isEmpty && (decide (t1 = t2) && (decide (n1 = n2) && (decide (q = D) && (decide (m = m2) && (decide (w = w2) && (decide (0 < w) && (decide (kk = w * (kk / w)) && (decide (rfd RL r = some (r, c)) && ((List.range (kk / w)).all (fun b => decide (catA l2 b = catA l1 (k.toNatClampNeg * (kk / w) + b))) && (nodL (fun a => (RL.map (fun p => p.1)).contains a) l2 && ((List.range ((n1 + w - 1) / w)).all (fun b => match catA l1 b with
      | some a => decide (a % 2 = r % 2) && (decide (k.toNatClampNeg * (kk / w) ≤ b ∧ b < k.toNatClampNeg * (kk / w) + kk / w) || (!(moda.contains a) && !((RL.map (fun p => p.1)).contains a)))
      | none => false) && !(moda.contains r)))))))))))))
  | _, _ => false
/-- an object that tells the drive's number -/
noncomputable def pev1 (D : Nat) (k : Int32) (t : sT) : Option Int32 := match t with
  | .arg i => if i = D then some k else none
  | .add (.arg i) (.int j) => if i = D then some (k + j) else none
  | _ => none
theorem pev1_ok {ρ1 : sR} (hD : ρ1.1 D = k) (hD2 : D % 2 = 0) {t : sT} {v : Int32} (h : pev1 D k t = some v) : sv X ρ1 t = .int v := by
  unfold pev1 at h
  split at h
  · next i =>
    split at h
    · next e =>
      cases h
      subst e
      show (if i % 2 = 1 then Value.long (ρ1.2.1 i) else Value.int (ρ1.1 i)) = _
      rw [if_neg (by omega), hD]
    · cases h
  · next i j =>
    split at h
    · next e =>
      cases h
      subst e
      rw [sv_int (t := .add (.arg i) (.int j)) rfl]
      show Value.int (ρ1.1 i + j) = _
      rw [hD]
    · cases h
  · cases h
noncomputable def fcf (D : Nat) (k : Int32) (RL : List (Nat × Nat)) (p : sT × sT) : Bool := (decide (p.1 = p.2) && nod (fun i => i == D) (fun a => (RL.map (fun p => p.1)).contains a) p.1) || (match p.1, pev1 D k p.2 with
  | .int a, some b => decide (a = b)
  | _, _ => false)
noncomputable def fch_ (D : Nat) (k : Int32) (RL : List (Nat × Nat)) (e1 e2 : sE) : Bool := match e1, e2 with
  | .inr (c1, v1), .inr (c2, v2) => decide (c1 = c2) && (Nat.beq v1.length v2.length && (v1.zip v2).all (fcf D k RL))
  | _, _ => false
noncomputable def fcel (D : Nat) (k : Int32) (RL : List (Nat × Nat)) (mods moda : List Nat) (Z1 Z2 : sH) (c : Nat) : Bool := match hget Z1 c, hget Z2 c with
  | some e1, some e2 => (decide (e1 = e2) && nodE (fun i => i == D) (fun a => (RL.map (fun p => p.1)).contains a) e1) || (fcs_ D k RL mods moda c e1 e2 || (fcr_ D k RL moda c e1 e2 || fch_ D k RL e1 e2))
  | none, none => true
  | _, _ => false
theorem ncont {l : List Nat} {a : Nat} (h : (!(l.contains a)) = true) : a ∉ l := fun e => by
  rw [List.contains_iff_mem.mpr e] at h
  cases h
theorem fcs_fw {mods moda : List Nat} {c : Nat} {e1 e2 : sE} (h : fcs_ D k RL mods moda c e1 e2 = true) (hZ : hget Z c = some e1) {y : pE} (hy : CR X ρ e1 y) : CR X (rfo X Z D k RL ρ) e2 y := by
  unfold fcs_ at h
  split at h
  · next t1 n1 b1 u1 t2 n2 r u2 =>
    simp only [Bool.and_eq_true, decide_eq_true_eq] at h
    obtain ⟨h1, h2, h3, h4, h5, h6, h7, h8, h9, h10⟩ := h
    subst h1 h2
    have hu : ∀ x ∈ u2, fsm D k u1 x = true ∧ nod (fun i => i == D) (fun a => (RL.map (fun p => p.1)).contains a) x.2 = true := fun x hx => by
      have := List.all_eq_true.mp h7 x hx
      simpa only [Bool.and_eq_true] using this
    cases y with
    | inr z => exact hy.elim
    | inl z =>
      obtain ⟨q1, q2, q3, q4⟩ := hy
      refine ⟨q1, q2, fun j hj => (q3 j hj).trans (foc_fw h3 hZ h4 h6 hu u2 (fun _ hx => hx)).symm, fun x hx => ?_⟩
      have h11 := (hu x hx).1
      unfold fsm at h11
      split at h11
      · next v hv =>
        simp only [Bool.and_eq_true, decide_eq_true_eq] at h11
        rw [pevI_ok (X := X) (ρ := rfo X Z D k RL ρ) rfo_D hv]
        exact h11.1
      · cases h11
  · cases h
theorem fcs_bk {C : sC} {c : Nat} {e1 e2 : sE} (hs : stay X C ρ' (rfo X Z D k RL ρ)) (hDm : D ∉ C.2.2.2.2.1.1) (h : fcs_ D k RL C.2.2.2.2.1.1 C.2.2.2.2.1.2 c e1 e2 = true) (hZ : hget Z c = some e1) {y : pE} (hy : CR X ρ' e2 y) : CR X ρ' e1 y := by
  unfold fcs_ at h
  split at h
  · next t1 n1 b1 u1 t2 n2 r u2 =>
    simp only [Bool.and_eq_true, decide_eq_true_eq] at h
    obtain ⟨h1, h2, h3, h4, h5, h6, h7, h8, h9, h10⟩ := h
    subst h1 h2
    have hu : ∀ x ∈ u2, fsm D k u1 x = true := fun x hx => by
      have := List.all_eq_true.mp h7 x hx
      simp only [Bool.and_eq_true] at this
      exact this.1
    have hbn : ∀ (j : Nat) (ρ1 ρ2 : sR), bden X ρ1 b1 j = bden X ρ2 b1 j := fun j ρ1 ρ2 => by
      unfold bcst at h5
      split at h5
      · rfl
      · rfl
      · cases h5
    cases y with
    | inr z => exact hy.elim
    | inl z =>
      obtain ⟨q1, q2, q3, q4⟩ := hy
      refine ⟨q1, q2, fun j hj => (q3 j hj).trans (foc_bk hs hDm (ncont h10) h3 hZ h4 (hbn j) h6 hu h8), fun x hx => ?_⟩
      have h11 := List.all_eq_true.mp h9 x hx
      unfold pnn at h11
      split at h11
      · next v hv => rw [hv]; exact of_decide_eq_true h11
      · cases h11
  · cases h
theorem blk_of {w len kn j : Nat} (hw : 0 < w) (h : kn * len ≤ j / w ∧ j / w < kn * len + len) : kn * (w * len) ≤ j ∧ j < kn * (w * len) + w * len := by
  have h1 := (Nat.le_div_iff_mul_le hw).mp h.1
  have h2 := (Nat.div_lt_iff_lt_mul hw).mp h.2
  have e1 : kn * (w * len) = kn * len * w := by rw [Nat.mul_comm w len, Nat.mul_assoc]
  have e2 : (kn * len + len) * w = kn * len * w + w * len := by rw [Nat.add_mul, Nat.mul_comm len w]
  rw [e1]
  rw [e2] at h2
  exact ⟨h1, h2⟩
theorem fcr_ok {C : sC} {c : Nat} {e1 e2 : sE} (h : fcr_ D k RL C.2.2.2.2.1.2 c e1 e2 = true) (hZ : hget Z c = some e1) : (∀ {y : pE}, CR X ρ e1 y → CR X (rfo X Z D k RL ρ) e2 y) ∧ (stay X C ρ' (rfo X Z D k RL ρ) → D ∉ C.2.2.2.2.1.1 → ∀ {y : pE}, CR X ρ' e2 y → CR X ρ' e1 y) := by
  unfold fcr_ at h
  split at h
  · next t1 n1 m w l1 u1 t2 n2 q kk m2 w2 l2 r u2 =>
    simp only [Bool.and_eq_true, decide_eq_true_eq, List.isEmpty_iff] at h
    obtain ⟨h1, h2, h3, h4, h5, h6, h7, h8, h9, h10, h11, h12, h13, h14⟩ := h
    subst h1 h2 h3 h4 h5 h6 h7
    generalize hlen : kk / w = len at h9 h11 h13
    subst h9
    have hl : ∀ b, b < len → catA l2 b = catA l1 (k.toNatClampNeg * len + b) := fun b hb => of_decide_eq_true (List.all_eq_true.mp h11 b (List.mem_range.mpr hb))
    have hj13 : ∀ j, j < n1 → ∃ a, catA l1 (j / w) = some a ∧ a % 2 = r % 2 ∧ ((k.toNatClampNeg * (w * len) ≤ j ∧ j < k.toNatClampNeg * (w * len) + w * len) ∨ (a ∉ C.2.2.2.2.1.2 ∧ (RL.map (fun p => p.1)).contains a = false)) := fun j hj => by
      have hb : j / w < (n1 + w - 1) / w := by
        have e1 : n1 + w - 1 = (n1 - 1) + w := by omega
        rw [e1, Nat.add_div_right _ h8]
        have := Nat.div_le_div_right (c := w) (show j ≤ n1 - 1 by omega)
        omega
      have h15 := List.all_eq_true.mp h13 (j / w) (List.mem_range.mpr hb)
      cases hc : catA l1 (j / w) with
      | none => rw [hc] at h15; cases h15
      | some a =>
        rw [hc] at h15
        simp only [Bool.and_eq_true, Bool.or_eq_true, decide_eq_true_eq, Bool.not_eq_true'] at h15
        refine ⟨a, rfl, h15.1, ?_⟩
        rcases h15.2 with h16 | h16
        · exact Or.inl (blk_of h8 h16)
        · exact Or.inr ⟨ncont (by rw [h16.1]; rfl), h16.2⟩
    constructor
    · intro y hy
      cases y with
      | inr z => exact hy.elim
      | inl z =>
        obtain ⟨q1, q2, q3, q4⟩ := hy
        refine ⟨q1, q2, fun j hj => (q3 j hj).trans ?_, fun x hx => by cases hx⟩
        obtain ⟨a, ha, hpa, -⟩ := hj13 j hj
        exact (row_fw h10 hZ h8 hl h12 ⟨a, ha, hpa⟩).symm
    · intro hs hDm y hy
      cases y with
      | inr z => exact hy.elim
      | inl z =>
        obtain ⟨q1, q2, q3, q4⟩ := hy
        refine ⟨q1, q2, fun j hj => (q3 j hj).trans ?_, fun x hx => by cases hx⟩
        obtain ⟨a, ha, hpa, ho⟩ := hj13 j hj
        exact row_bk hs hDm (ncont h14) h10 hZ h8 hl ⟨a, ha, hpa⟩ (fun b hb => by rw [ha] at hb; cases hb; exact ho)
  · cases h
theorem fch_eq {ρ1 ρ2 : sR} (hD2 : D % 2 = 0) (h2 : ρ2.1 D = k) (hn : ∀ t : sT, nod (fun i => i == D) (fun a => (RL.map (fun p => p.1)).contains a) t = true → sv X ρ1 t = sv X ρ2 t) : ∀ v1 v2 : List sT, v1.length = v2.length → (v1.zip v2).all (fcf D k RL) = true → v1.map (sv X ρ1) = v2.map (sv X ρ2)
  | [], [], _, _ => rfl
  | [], _ :: _, h, _ => by cases h
  | _ :: _, [], h, _ => by cases h
  | a :: r, b :: q, hl, h => by
    simp only [List.zip_cons_cons, List.all_cons, Bool.and_eq_true] at h
    have hr := fch_eq hD2 h2 hn r q (by simpa using hl) h.2
    have ha : sv X ρ1 a = sv X ρ2 b := by
      have h3 := h.1
      simp only [fcf, Bool.or_eq_true, Bool.and_eq_true, decide_eq_true_eq] at h3
      rcases h3 with ⟨e, h4⟩ | h4
      · rw [← e]; exact hn a h4
      · split at h4
        · next x y hy =>
          have e := of_decide_eq_true h4
          rw [pev1_ok (X := X) h2 hD2 hy, ← e]
          rfl
        · cases h4
    rw [List.map_cons, List.map_cons, ha, hr]
theorem fch_fw {e1 e2 : sE} (hD2 : D % 2 = 0) (h : fch_ D k RL e1 e2 = true) {y : pE} (hy : CR X ρ e1 y) : CR X (rfo X Z D k RL ρ) e2 y := by
  unfold fch_ at h
  split at h
  · next c1 v1 c2 v2 =>
    simp only [Bool.and_eq_true, decide_eq_true_eq] at h
    obtain ⟨h1, h2, h3⟩ := h
    subst h1
    cases y with
    | inl z => exact hy.elim
    | inr z =>
      have hy : z = (c1, v1.map (sv X ρ)) := hy
      subst hy
      show (c1, v1.map (sv X ρ)) = (c1, v2.map (sv X (rfo X Z D k RL ρ)))
      rw [fch_eq (X := X) (ρ1 := ρ) (ρ2 := rfo X Z D k RL ρ) hD2 rfo_D (fun t ht => nod_v (alk_symm rfo_alk) ht) v1 v2 (Nat.eq_of_beq_eq_true h2) h3]
  · cases h
theorem fch_bk {C : sC} {e1 e2 : sE} (hD2 : D % 2 = 0) (hs : stay X C ρ' (rfo X Z D k RL ρ)) (hDm : D ∉ C.2.2.2.2.1.1) (h : fch_ D k RL e1 e2 = true) {y : pE} (hy : CR X ρ' e2 y) : CR X ρ' e1 y := by
  unfold fch_ at h
  split at h
  · next c1 v1 c2 v2 =>
    simp only [Bool.and_eq_true, decide_eq_true_eq] at h
    obtain ⟨h1, h2, h3⟩ := h
    subst h1
    cases y with
    | inl z => exact hy.elim
    | inr z =>
      have hy : z = (c1, v2.map (sv X ρ')) := hy
      subst hy
      show (c1, v2.map (sv X ρ')) = (c1, v1.map (sv X ρ'))
      rw [fch_eq (X := X) (ρ1 := ρ') (ρ2 := ρ') hD2 ((hs.1 D hDm).1.trans rfo_D) (fun t _ => rfl) v1 v2 (Nat.eq_of_beq_eq_true h2) h3]
  · cases h
/-- a contract over one drive's view is one over all -/
theorem SREL_drv {Ft : Nat → Nat → FieldType} {dfl : Nat → Nat × List Value} {Mt : List pM} {K : sK} {Z1 Z2 : sH} {C : sC} {pre1 : sFs} (hx : K.2.2.2 = false) (hk0 : ∀ a l, K.2.2.1 a = some l → a < 1000) (hp : C.2.2.2.1 = ((0, .arg D, .int k), true) :: pre1) (hD : ∀ q, vrng D = some q → q.1 ≤ k.toInt ∧ k.toInt ≤ q.2) (hD2 : D % 2 = 0) (hDm : D ∉ C.2.2.2.2.1.1) (hR : RL.all (rgc Z1) = true) (n1 : nodF (fun i => i == D) (fun a => (RL.map (fun p => p.1)).contains a) pre1 = true) (n2 : nodI (fun i => i == D) (fun a => (RL.map (fun p => p.1)).contains a) C.2.2.2.2.2.2.2.1 = true) (n3 : C.2.1.1.all (nod (fun i => i == D) (fun a => (RL.map (fun p => p.1)).contains a)) = true) (n4 : C.2.1.2.all (nod (fun i => i == D) (fun a => (RL.map (fun p => p.1)).contains a)) = true) (hc : (C.2.2.1.1 ++ C.2.2.1.2).all (fcel D k RL C.2.2.2.2.1.1 C.2.2.2.2.1.2 Z1 Z2) = true) (h : SREL X Ft dfl Mt K Z2 C) : SREL X Ft dfl Mt K Z1 (C.1, C.2.1, C.2.2.1, pre1, (D :: C.2.2.2.2.1.1, RL.map (fun p => p.1) ++ C.2.2.2.2.1.2), C.2.2.2.2.2) := by
  have cel : ∀ c, c ∈ C.2.2.1.1 ∨ c ∈ C.2.2.1.2 → fcel D k RL C.2.2.2.2.1.1 C.2.2.2.2.1.2 Z1 Z2 c = true := fun c hm => List.all_eq_true.mp hc c (List.mem_append.mpr hm)
  refine SREL_foc (R := RL.map (fun p => p.1)) hp (rfo X Z1 D k RL) (fun ρ => rfo_alk) (fun ρ => rfo_D) (fun ρ hv => rfo_vok hv hD hD2 hR) (fun ρ hk => rfo_kok hx hk0 hR hk) n1 n2 n3 n4 (fun c hm => ?_) (fun ρ hv c hm e1 e2 y h1 h2 h3 => ?_) (fun ρ ρ' hv hs c hm e1 e2 y h1 h2 h3 => ?_) h
  · have h1 := cel c hm
    unfold fcel at h1
    split at h1
    · next e1 e2 g1 g2 => rw [g1, g2]; exact ⟨fun e => (by cases e), fun e => (by cases e)⟩
    · next g1 g2 => rw [g1, g2]
    · cases h1
  · have h4 := cel c hm
    unfold fcel at h4
    rw [h1, h2] at h4
    simp only [Bool.or_eq_true, Bool.and_eq_true, decide_eq_true_eq] at h4
    rcases h4 with ⟨h5, h6⟩ | h5 | h5 | h5
    · subst h5
      exact nod_CR (alk_symm rfo_alk) h6 h3
    · exact fcs_fw h5 h1 h3
    · exact (fcr_ok (ρ' := ρ) h5 h1).1 h3
    · exact fch_fw hD2 h5 h3
  · have h4 := cel c hm
    unfold fcel at h4
    rw [h1, h2] at h4
    simp only [Bool.or_eq_true, Bool.and_eq_true, decide_eq_true_eq] at h4
    rcases h4 with ⟨h5, h6⟩ | h5 | h5 | h5
    · subst h5
      exact h3
    · exact fcs_bk hs hDm h5 h1 h3
    · exact (fcr_ok (ρ := ρ) h5 h1).2 hs hDm h3
    · exact fch_bk hD2 hs hDm h5 h3
end FOZ
