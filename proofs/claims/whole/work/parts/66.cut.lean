/-! ===== a contract's run cut at places: both stand there in the pattern's cells ===== -/
section CUTS
variable {X : pX} {K : sK}
/-- where it is cut: both frames with those below them and their levels; facts; implications -/
abbrev sCut : Type := (sF × List sF × Nat) × (sF × List sF × Nat) × sFs × sI
noncomputable def cst (Z : sH) (l : List Nat) (x : sF × List sF × Nat) : sS := (x.1, x.2.1, x.2.2, foot Z l, 0)
noncomputable def CUTOK (X : pX) (K : sK) (Z : sH) (C : sC) (d : Nat) (ρ0 : sR) (q : sCut) : Prop := ∀ ρ1 : sR, kok X ρ1 K → fok X ρ1 q.2.2.1 → iok X ρ1 q.2.2.2 → agrM 65536 C.2.2.2.2.1.1 C.2.2.2.2.1.2 ρ1 ρ0 → RelP X pF pdfl mt_all (d + 1) (d + 1) (foot Z C.2.2.1.1) (foot Z C.2.2.1.2) (cJ X C ρ0) ρ1 (cst Z C.2.2.1.1 q.1) (cst Z C.2.2.1.2 q.2.1)
noncomputable def cutat (K : sK) (Z : sH) (C : sC) (kv : Option Nat) (q : sCut) (F : sFs) (I : sI) (s1 s2 : sS) : Bool := decide (spc (cst Z C.2.2.1.1 q.1) = spc s1) && (decide (spc (cst Z C.2.2.1.2 q.2.1) = spc s2) && (lvq q.1.1.2.2.2.2.2.2.1 s1.1.2.2.2.2.2.2.1 && (lvq q.2.1.1.2.2.2.2.2.2.1 s2.1.2.2.2.2.2.2.1 && rcase K Z C.2.2.1.1 C.2.2.1.2 q.2.2.2 C.2.2.2.2.1.1 C.2.2.2.2.1.2 kv q.2.2.1 (cst Z C.2.2.1.1 q.1) (cst Z C.2.2.1.2 q.2.1) F I s1 s2)))
/-- a run's end: at one of the later cuts, or at the contract's end -/
noncomputable def cleaf (K : sK) (Z : sH) (C : sC) (Q : List sCut) (F : sFs) (I : sI) (s1 s2 : sS) : Bool := Q.any (fun q => cutat K Z C none q F I s1 s2) || rleaf K Z C F I s1 s2
noncomputable def cpl1 (Z : sH) (C : sC) (Q : List sCut) : List (Nat × Nat) := Q.map (fun q => (spc (cst Z C.2.2.1.1 q.1), sdep (cst Z C.2.2.1.1 q.1)))
noncomputable def cpl2 (Z : sH) (C : sC) (Q : List sCut) : List (Nat × Nat) := Q.map (fun q => (spc (cst Z C.2.2.1.2 q.2.1), sdep (cst Z C.2.2.1.2 q.2.1)))
theorem cleaf_ok (hx : K.2.2.2 = false) {Z : sH} {C : sC} {d : Nat} (hfine : cfine Z 65536 C = true) {Q : List sCut} {ρ0 : sR} (hv0 : vok X ρ0) (hQ : ∀ q ∈ Q, CUTOK X K Z C d ρ0 q) {ρ : sR} (hK : kok X ρ K) {F : sFs} {I : sI} (hF : fok X ρ F) (hI : iok X ρ I) (hag : agrM 65536 C.2.2.2.2.1.1 C.2.2.2.2.1.2 ρ ρ0) {s1 s2 : sS} (hd1 : kdom (foot Z C.2.2.1.1) s1.2.2.2.1) (hd2 : kdom (foot Z C.2.2.1.2) s2.2.2.2.1) (h : cleaf K Z C Q F I s1 s2 = true) : RelP X pF pdfl mt_all (d + 1) (d + 1) (foot Z C.2.2.1.1) (foot Z C.2.2.1.2) (cJ X C ρ0) ρ s1 s2 := by
  simp only [cleaf, Bool.or_eq_true] at h
  rcases h with h | h
  · obtain ⟨q, hq, h⟩ := List.any_eq_true.mp h
    simp only [cutat, Bool.and_eq_true] at h
    exact rcase_ok hx hK hF hI hag rfl rfl hd1 hd2 h.2.2.2.2 (fun ρ1 r1 r2 r3 r4 _ => hQ q hq ρ1 r1 r2 r3 r4)
  · exact rleaf_ok hx hfine hK hF hI hv0 hag hd1 hd2 h
/-- from a cut on: one step on the sides that are told, then on -/
noncomputable def cbody (K : sK) (Cs : List (sH × sC)) (st1 st2 : List (Nat × Nat)) (leaf : sFs → sI → sS → sS → Bool) (n : Nat) (b1 b2 : Bool) (F0 : sFs) (iv0 : sI) (p1 p2 : sS) : Bool := match (if b1 then sstepG ysN K (isatP F0 iv0) pF pdfl mt_all hlp p1.1 p1.2.1 p1.2.2.1 p1.2.2.2.1 p1.2.2.2.2 else some (.inl p1)), (if b2 then sstepG ysN K (isatP F0 iv0) pF pdfl mt_all hlp p2.1 p2.2.1 p2.2.2.1 p2.2.2.2.1 p2.2.2.2.2 else some (.inl p2)) with
  | some (.inl s1), some (.inl s2) => frun K Cs st1 st2 leaf n 65536 (isatP F0 iv0) iv0 s1 s2
  | _, _ => false
theorem cbody_ok (hx : K.2.2.2 = false) (hk0 : ∀ a l, K.2.2.1 a = some l → a < 1000) {Z : sH} {Cs : List (sH × sC)} (hCs : ∀ C ∈ Cs, SREL X pF pdfl mt_all K C.1 C.2) {C : sC} {d : Nat} {ρ0 ρ1 : sR} {st1 st2 : List (Nat × Nat)} {leaf : sFs → sI → sS → sS → Bool} {A : sR → Prop} (hA : ∀ (off : Nat) (ρ ρ'' : sR), 65536 ≤ off → agr off ρ'' ρ → A ρ → A ρ'') (hleaf : ∀ (ρ : sR) (F : sFs) (I : sI) (s1 s2 : sS), kok X ρ K → fok X ρ F → iok X ρ I → A ρ → kdom (foot Z C.2.2.1.1) s1.2.2.2.1 → kdom (foot Z C.2.2.1.2) s2.2.2.2.1 → leaf F I s1 s2 = true → RelP X pF pdfl mt_all (d + 1) (d + 1) (foot Z C.2.2.1.1) (foot Z C.2.2.1.2) (cJ X C ρ0) ρ s1 s2) (n : Nat) {b1 b2 : Bool} {q : sCut} (h : cbody K Cs st1 st2 leaf n b1 b2 q.2.2.1 q.2.2.2 (cst Z C.2.2.1.1 q.1) (cst Z C.2.2.1.2 q.2.1) = true) (k1 : kok X ρ1 K) (k2 : fok X ρ1 q.2.2.1) (k3 : iok X ρ1 q.2.2.2) (hA1 : A ρ1) : RelP X pF pdfl mt_all (d + 1) (d + 1) (foot Z C.2.2.1.1) (foot Z C.2.2.1.2) (cJ X C ρ0) ρ1 (cst Z C.2.2.1.1 q.1) (cst Z C.2.2.1.2 q.2.1) := by
  have m1 : ∀ s1 : sS, (if b1 then sstepG ysN K (isatP q.2.2.1 q.2.2.2) pF pdfl mt_all hlp (cst Z C.2.2.1.1 q.1).1 (cst Z C.2.2.1.1 q.1).2.1 (cst Z C.2.2.1.1 q.1).2.2.1 (cst Z C.2.2.1.1 q.1).2.2.2.1 (cst Z C.2.2.1.1 q.1).2.2.2.2 else some (.inl (cst Z C.2.2.1.1 q.1))) = some (.inl s1) → kdom (foot Z C.2.2.1.1) s1.2.2.2.1 ∧ ∀ s2 : sS, RelP X pF pdfl mt_all (d + 1) (d + 1) (foot Z C.2.2.1.1) (foot Z C.2.2.1.2) (cJ X C ρ0) ρ1 s1 s2 → RelP X pF pdfl mt_all (d + 1) (d + 1) (foot Z C.2.2.1.1) (foot Z C.2.2.1.2) (cJ X C ρ0) ρ1 (cst Z C.2.2.1.1 q.1) s2 := by
    intro s1 e
    cases b1 with
    | true => exact ⟨kdom_kd (stepG_dom hx e) (kdom_foot _ _), fun s2 hr => RelP.c flN hx k1 (isatP_ok k2 k3) e hr⟩
    | false => cases e; exact ⟨kdom_foot _ _, fun s2 hr => hr⟩
  have m2 : ∀ s2 : sS, (if b2 then sstepG ysN K (isatP q.2.2.1 q.2.2.2) pF pdfl mt_all hlp (cst Z C.2.2.1.2 q.2.1).1 (cst Z C.2.2.1.2 q.2.1).2.1 (cst Z C.2.2.1.2 q.2.1).2.2.1 (cst Z C.2.2.1.2 q.2.1).2.2.2.1 (cst Z C.2.2.1.2 q.2.1).2.2.2.2 else some (.inl (cst Z C.2.2.1.2 q.2.1))) = some (.inl s2) → kdom (foot Z C.2.2.1.2) s2.2.2.2.1 ∧ ∀ s1 : sS, RelP X pF pdfl mt_all (d + 1) (d + 1) (foot Z C.2.2.1.1) (foot Z C.2.2.1.2) (cJ X C ρ0) ρ1 s1 s2 → RelP X pF pdfl mt_all (d + 1) (d + 1) (foot Z C.2.2.1.1) (foot Z C.2.2.1.2) (cJ X C ρ0) ρ1 s1 (cst Z C.2.2.1.2 q.2.1) := by
    intro s2 e
    cases b2 with
    | true => exact ⟨kdom_kd (stepG_dom hx e) (kdom_foot _ _), fun s1 hr => RelP.m flN hx k1 (isatP_ok k2 k3) e hr⟩
    | false => cases e; exact ⟨kdom_foot _ _, fun s1 hr => hr⟩
  unfold cbody at h
  split at h
  · next s1 s2 e1 e2 =>
    obtain ⟨g1, n1⟩ := m1 s1 e1
    obtain ⟨g2, n2⟩ := m2 s2 e2
    exact n1 _ (n2 _ (frun_ok (n0 := 65536) (l1 := foot Z C.2.2.1.1) (l2 := foot Z C.2.2.1.2) (A := A) hx hk0 hCs hA hleaf n 65536 _ q.2.2.2 s1 s2 ρ1 (Nat.le_refl _) h k1 (isatP_ok k2 k3) k3 hA1 g1 g2))
  · cases h
/-- a cut from those behind it -/
theorem CUT_run (hx : K.2.2.2 = false) (hk0 : ∀ a l, K.2.2.1 a = some l → a < 1000) {Z : sH} {Cs : List (sH × sC)} (hCs : ∀ C ∈ Cs, SREL X pF pdfl mt_all K C.1 C.2) {C : sC} {d : Nat} (hfine : cfine Z 65536 C = true) {Q : List sCut} {ρ0 : sR} (hv0 : vok X ρ0) (hQ : ∀ q ∈ Q, CUTOK X K Z C d ρ0 q) (n : Nat) {b1 b2 : Bool} {q : sCut} (h : cbody K Cs (cpl1 Z C Q) (cpl2 Z C Q) (cleaf K Z C Q) n b1 b2 q.2.2.1 q.2.2.2 (cst Z C.2.2.1.1 q.1) (cst Z C.2.2.1.2 q.2.1) = true) : CUTOK X K Z C d ρ0 q :=
  fun _ k1 k2 k3 k4 => cbody_ok hx hk0 hCs (A := fun ρ2 => agrM 65536 C.2.2.2.2.1.1 C.2.2.2.2.1.2 ρ2 ρ0) (fun _ _ _ h1 h2 h3 => agrM_new h1 h2 h3) (fun _ _ _ _ _ q1 q2 q3 q4 g1 g2 q5 => cleaf_ok hx hfine hv0 hQ q1 q2 q3 q4 g1 g2 q5) n h k1 k2 k3 k4
/-- a cut that is met again, with a measure that falls by one -/
theorem CUT_loop (hx : K.2.2.2 = false) (hk0 : ∀ a l, K.2.2.1 a = some l → a < 1000) {Z : sH} {Cs : List (sH × sC)} (hCs : ∀ C ∈ Cs, SREL X pF pdfl mt_all K C.1 C.2) {C : sC} {d : Nat} (hfine : cfine Z 65536 C = true) {Q : List sCut} {ρ0 : sR} (hv0 : vok X ρ0) (hQ : ∀ q ∈ Q, CUTOK X K Z C d ρ0 q) (n : Nat) {kv : Nat} (hkv : kv < 65536) {q : sCut} (h : cbody K Cs (cpl1 Z C (q :: Q)) (cpl2 Z C (q :: Q)) (fun F I s1 s2 => cutat K Z C (some kv) q F I s1 s2 || cleaf K Z C Q F I s1 s2) n true true q.2.2.1 q.2.2.2 (cst Z C.2.2.1.1 q.1) (cst Z C.2.2.1.2 q.2.1) = true) : CUTOK X K Z C d ρ0 q := by
  have step : ∀ ρ1 : sR, kok X ρ1 K → fok X ρ1 q.2.2.1 → iok X ρ1 q.2.2.2 → agrM 65536 C.2.2.2.2.1.1 C.2.2.2.2.1.2 ρ1 ρ0 → (∀ ρ2 : sR, kok X ρ2 K → fok X ρ2 q.2.2.1 → iok X ρ2 q.2.2.2 → agrM 65536 C.2.2.2.2.1.1 C.2.2.2.2.1.2 ρ2 ρ0 → ρ2.1 kv = ρ1.1 kv + (-1) → 0 < ρ1.1 kv → RelP X pF pdfl mt_all (d + 1) (d + 1) (foot Z C.2.2.1.1) (foot Z C.2.2.1.2) (cJ X C ρ0) ρ2 (cst Z C.2.2.1.1 q.1) (cst Z C.2.2.1.2 q.2.1)) → RelP X pF pdfl mt_all (d + 1) (d + 1) (foot Z C.2.2.1.1) (foot Z C.2.2.1.2) (cJ X C ρ0) ρ1 (cst Z C.2.2.1.1 q.1) (cst Z C.2.2.1.2 q.2.1) := by
    intro ρ1 k1 k2 k3 k4 ih
    refine cbody_ok hx hk0 hCs (A := fun ρ2 => agrM 65536 C.2.2.2.2.1.1 C.2.2.2.2.1.2 ρ2 ρ0 ∧ ρ2.1 kv = ρ1.1 kv) (fun off ρ2 ρ3 h1 h2 h3 => ⟨agrM_new h1 h2 h3.1, (h2.1 kv (by omega)).1.trans h3.2⟩) (fun ρ2 F I s1 s2 q1 q2 q3 q4 g1 g2 q5 => ?_) n h k1 k2 k3 ⟨k4, rfl⟩
    simp only [Bool.or_eq_true] at q5
    rcases q5 with q5 | q5
    · simp only [cutat, Bool.and_eq_true] at q5
      refine rcase_ok hx q1 q2 q3 q4.1 rfl rfl g1 g2 q5.2.2.2.2 (fun ρ3 r1 r2 r3 r4 r5 => ?_)
      obtain ⟨r6, r7⟩ := r5 kv rfl
      rw [q4.2] at r6 r7
      exact ih ρ3 r1 r2 r3 r4 r6 r7
    · exact cleaf_ok hx hfine hv0 hQ q1 q2 q3 q4.1 g1 g2 q5
  have head : ∀ (m : Nat) (ρ1 : sR), kok X ρ1 K → fok X ρ1 q.2.2.1 → iok X ρ1 q.2.2.2 → agrM 65536 C.2.2.2.2.1.1 C.2.2.2.2.1.2 ρ1 ρ0 → (ρ1.1 kv).toInt ≤ m → RelP X pF pdfl mt_all (d + 1) (d + 1) (foot Z C.2.2.1.1) (foot Z C.2.2.1.2) (cJ X C ρ0) ρ1 (cst Z C.2.2.1.1 q.1) (cst Z C.2.2.1.2 q.2.1) := by
    intro m
    induction m with
    | zero =>
      intro ρ1 k1 k2 k3 k4 k5
      refine step ρ1 k1 k2 k3 k4 (fun ρ2 _ _ _ _ _ r7 => ?_)
      have := Int32.lt_iff_toInt_lt.mp r7
      simp at this
      omega
    | succ m ih =>
      intro ρ1 k1 k2 k3 k4 k5
      refine step ρ1 k1 k2 k3 k4 (fun ρ2 r1 r2 r3 r4 r6 r7 => ih ρ2 r1 r2 r3 r4 ?_)
      have h9 := Int32.lt_iff_toInt_lt.mp r7
      simp at h9
      have hlt := Int32.toInt_lt (ρ1.1 kv)
      rw [r6, s_add (y := -1) (by show _ ≤ (ρ1.1 kv).toInt + -1; omega) (by show (ρ1.1 kv).toInt + -1 ≤ _; omega)]
      show (ρ1.1 kv).toInt + -1 ≤ _
      omega
  intro ρ1 k1 k2 k3 k4
  refine head 2147483648 ρ1 k1 k2 k3 k4 ?_
  have := Int32.toInt_lt (ρ1.1 kv)
  omega
/-- a contract from its cuts -/
theorem SREL_cut (hx : K.2.2.2 = false) (hk0 : ∀ a l, K.2.2.1 a = some l → a < 1000) {Z : sH} {Cs : List (sH × sC)} (hCs : ∀ C ∈ Cs, SREL X pF pdfl mt_all K C.1 C.2) {C : sC} {d : Nat} (hd : C.1.2.2 = d + 1) (hfine : cfine Z 65536 C = true) {Q : List sCut} (hQ : ∀ ρ0 : sR, vok X ρ0 → ∀ q ∈ Q, CUTOK X K Z C d ρ0 q) (n : Nat) (h : frun K Cs (cpl1 Z C Q) (cpl2 Z C Q) (cleaf K Z C Q) n 65536 (isatP C.2.2.2.1 C.2.2.2.2.2.2.2.1) C.2.2.2.2.2.2.2.1 (sin0 mt_all C.1.1 d C.2.1.1 (foot Z C.2.2.1.1)) (sin0 mt_all C.1.2.1 d C.2.1.2 (foot Z C.2.2.1.2)) = true) : SREL X pF pdfl mt_all K Z C :=
  have hfine' := hfine
  have o1 : sinok mt_all C.1.1 C.2.1.1 = true := by simp only [cfine, Bool.and_eq_true] at hfine'; exact hfine'.2.2.2.2.2.2.1
  have o2 : sinok mt_all C.1.2.1 C.2.1.2 = true := by simp only [cfine, Bool.and_eq_true] at hfine'; exact hfine'.2.2.2.2.2.2.2
  SREL_in hd hfine (fun ρ hK hF hI => frun_ok (n0 := 65536) (l1 := foot Z C.2.2.1.1) (l2 := foot Z C.2.2.1.2) (A := fun ρ1 => agrM 65536 C.2.2.2.2.1.1 C.2.2.2.2.1.2 ρ1 ρ) hx hk0 hCs (fun off ρ1 ρ2 h1 h2 h3 => agrM_new h1 h2 h3) (fun ρ1 F I s1 s2 hK1 hF1 hI1 hag k1 k2 hl => cleaf_ok hx hfine hF.1 (hQ ρ hF.1) hK1 hF1 hI1 hag k1 k2 hl) n 65536 _ C.2.2.2.2.2.2.2.1 _ _ ρ (Nat.le_refl _) h hK (isatP_ok hF hI) hI ⟨fun _ _ _ => ⟨rfl, rfl⟩, fun _ _ _ => ⟨rfl, rfl⟩⟩ (kdom_in o1) (kdom_in o2))
/-- under these facts some run of the contract holds -/
noncomputable def QC (X : pX) (K : sK) (Z : sH) (Cs : List (sH × sC)) (C : sC) (d : Nat) (Q : List sCut) (F : sFs) : Prop := ∀ ρ : sR, fok X ρ F → iok X ρ C.2.2.2.2.2.2.2.1 → ∃ (F' : sFs) (n : Nat), fok X ρ F' ∧ frun K Cs (cpl1 Z C Q) (cpl2 Z C Q) (cleaf K Z C Q) n 65536 F' C.2.2.2.2.2.2.2.1 (sin0 mt_all C.1.1 d C.2.1.1 (foot Z C.2.2.1.1)) (sin0 mt_all C.1.2.1 d C.2.1.2 (foot Z C.2.2.1.2)) = true
theorem QC_run {Z : sH} {Cs : List (sH × sC)} {C : sC} {d : Nat} {Q : List sCut} {F : sFs} (n : Nat) (h : frun K Cs (cpl1 Z C Q) (cpl2 Z C Q) (cleaf K Z C Q) n 65536 (isatP F C.2.2.2.2.2.2.2.1) C.2.2.2.2.2.2.2.1 (sin0 mt_all C.1.1 d C.2.1.1 (foot Z C.2.2.1.1)) (sin0 mt_all C.1.2.1 d C.2.1.2 (foot Z C.2.2.1.2)) = true) : QC X K Z Cs C d Q F :=
  fun _ hF hI => ⟨_, n, isatP_ok hF hI, h⟩
theorem QC_split {Z : sH} {Cs : List (sH × sC)} {C : sC} {d : Nat} {Q : List sCut} {F : sFs} (q : sQ) (h1 : QC X K Z Cs C d Q ((q, true) :: F)) (h2 : QC X K Z Cs C d Q ((q, false) :: F)) : QC X K Z Cs C d Q F := by
  intro ρ hF hI
  cases hc : sc X ρ q with
  | true => exact h1 ρ ⟨hF.1, fun f hf => by rcases List.mem_cons.mp hf with e | hf; (· rw [e]; exact hc); exact hF.2 f hf⟩ hI
  | false => exact h2 ρ ⟨hF.1, fun f hf => by rcases List.mem_cons.mp hf with e | hf; (· rw [e]; exact hc); exact hF.2 f hf⟩ hI
theorem QC_sub {Z : sH} {Cs : List (sH × sC)} {C : sC} {d : Nat} {Q : List sCut} {F F' : sFs} (hs : ∀ f ∈ F', f ∈ F) (h : QC X K Z Cs C d Q F') : QC X K Z Cs C d Q F :=
  fun ρ hF hI => h ρ ⟨hF.1, fun f hf => hF.2 f (hs f hf)⟩ hI
theorem QC_con {Z : sH} {Cs : List (sH × sC)} {C : sC} {d : Nat} {Q : List sCut} {F : sFs} (h : scon F = true) : QC X K Z Cs C d Q F :=
  fun _ hF _ => (scon_ok hF h).elim
/-- facts that gainsay each other, also by two sides -/
noncomputable def scon2 (F : sFs) : Bool := scon F || F.any (fun f => match sdec F f.1 with
  | some b => b != f.2
  | none => false)
theorem scon2_ok {ρ : sR} {F : sFs} (hF : fok X ρ F) (h : scon2 F = true) : False := by
  simp only [scon2, Bool.or_eq_true] at h
  rcases h with h | h
  · exact scon_ok hF h
  · obtain ⟨f, hf, h1⟩ := List.any_eq_true.mp h
    split at h1
    · next b hb =>
      have h2 := sdec_ok hF hb
      rw [hF.2 f hf] at h2
      rw [h2] at h1
      simp at h1
    · cases h1
theorem QC_con2 {Z : sH} {Cs : List (sH × sC)} {C : sC} {d : Nat} {Q : List sCut} {F : sFs} (h : scon2 F = true) : QC X K Z Cs C d Q F :=
  fun _ hF _ => (scon2_ok hF h).elim
/-- one after the other: each of the conditions, or none -/
theorem QC_each {Z : sH} {Cs : List (sH × sC)} {C : sC} {d : Nat} {Q : List sCut} {F : sFs} : ∀ (qs : List sQ), (∀ q ∈ qs, QC X K Z Cs C d Q ((q, true) :: F)) → QC X K Z Cs C d Q (qs.map (fun q => (q, false)) ++ F) → QC X K Z Cs C d Q F
  | [], _, h => h
  | q :: qs, h, h0 => by
    refine QC_each qs (fun q' hq => h q' (List.mem_cons_of_mem _ hq)) (QC_split q (QC_sub (fun f hf => ?_) (h q (List.mem_cons_self ..))) ?_)
    · rcases List.mem_cons.mp hf with e | hf
      · rw [e]; exact List.mem_cons_self ..
      · exact List.mem_cons_of_mem _ (List.mem_append_right _ hf)
    · simpa using h0
theorem SREL_QC (hx : K.2.2.2 = false) (hk0 : ∀ a l, K.2.2.1 a = some l → a < 1000) {Z : sH} {Cs : List (sH × sC)} (hCs : ∀ C ∈ Cs, SREL X pF pdfl mt_all K C.1 C.2) {C : sC} {d : Nat} (hd : C.1.2.2 = d + 1) (hfine : cfine Z 65536 C = true) {Q : List sCut} (hQ : ∀ ρ0 : sR, vok X ρ0 → ∀ q ∈ Q, CUTOK X K Z C d ρ0 q) (h : QC X K Z Cs C d Q C.2.2.2.1) : SREL X pF pdfl mt_all K Z C :=
  have hfine' := hfine
  have o1 : sinok mt_all C.1.1 C.2.1.1 = true := by simp only [cfine, Bool.and_eq_true] at hfine'; exact hfine'.2.2.2.2.2.2.1
  have o2 : sinok mt_all C.1.2.1 C.2.1.2 = true := by simp only [cfine, Bool.and_eq_true] at hfine'; exact hfine'.2.2.2.2.2.2.2
  SREL_in hd hfine (fun ρ hK hF hI => by
    obtain ⟨F', n, hF', hr⟩ := h ρ hF hI
    exact frun_ok (n0 := 65536) (l1 := foot Z C.2.2.1.1) (l2 := foot Z C.2.2.1.2) (A := fun ρ1 => agrM 65536 C.2.2.2.2.1.1 C.2.2.2.2.1.2 ρ1 ρ) hx hk0 hCs (fun off ρ1 ρ2 h1 h2 h3 => agrM_new h1 h2 h3) (fun ρ1 F I s1 s2 hK1 hF1 hI1 hag k1 k2 hl => cleaf_ok hx hfine hF.1 (hQ ρ hF.1) hK1 hF1 hI1 hag k1 k2 hl) n 65536 _ C.2.2.2.2.2.2.2.1 _ _ ρ (Nat.le_refl _) hr hK hF' hI ⟨fun _ _ _ => ⟨rfl, rfl⟩, fun _ _ _ => ⟨rfl, rfl⟩⟩ (kdom_in o1) (kdom_in o2))
end CUTS
