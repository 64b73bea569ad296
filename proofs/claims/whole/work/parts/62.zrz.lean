/-! ===== a leaf looks at what was written to alone ===== -/
/-- two masks have no bit in common -/
noncomputable def DJ (m D : Nat) : Prop := ∀ i, m.testBit i = true → D.testBit i = false
theorem DJ_of {m D : Nat} (h : Nat.beq (Nat.land m D) 0 = true) : DJ m D := fun i hi => by
  have e : m &&& D = 0 := Nat.eq_of_beq_eq_true h
  have h1 : (m &&& D).testBit i = false := by rw [e]; exact Nat.zero_testBit i
  rw [Nat.testBit_and, hi, Bool.true_and] at h1
  exact h1
theorem DJ_l {a b D : Nat} (h : DJ (Nat.lor a b) D) : DJ a D := fun i hi => h i (by show (a ||| b).testBit i = true; rw [Nat.testBit_or, hi]; rfl)
theorem DJ_r {a b D : Nat} (h : DJ (Nat.lor a b) D) : DJ b D := fun i hi => h i (by show (a ||| b).testBit i = true; rw [Nat.testBit_or, hi, Bool.or_true])
theorem DJ_bit {k D : Nat} (h : DJ (Nat.shiftLeft 1 k) D) : D.testBit k = false := h k (by show (1 <<< k).testBit k = true; rw [Nat.testBit_shiftLeft]; simp)
theorem DJ_2 {D : Nat} (hb : D.testBit 1 = true) (h : DJ 2 D) : False := by
  have := h 1 (by decide)
  rw [hb] at this
  cases this
/-- the numbers and arrays that a term speaks of, as bits: 2 i, 2 a + 1; bit 1 where it can't be told -/
noncomputable def tvme (t : sT) : Nat := @Jvm.Term.rec (fun _ => Nat) (fun a => Nat.shiftLeft 1 (Nat.add (Nat.mul 2 a) 1)) (fun _ => 2) (fun _ => 2) (2) (fun _ => 2) (fun _ _ _ _ _ => 2) (fun _ _ _ => 2) (fun _ _ => 0) (fun _ => 2) (fun _ _ => 2) (fun _ _ _ _ => 2) (fun _ _ _ _ => 2) (fun _ _ _ _ => 2) (fun _ _ _ _ => 2) (fun _ _ _ _ => 2) (fun _ _ _ _ => 2) (fun _ _ _ _ _ => 2) (fun _ _ _ => 2) (fun _ _ => 2) (2) (2) (fun _ _ => 2) t
noncomputable def tvm (t : sT) : Nat := @Jvm.Term.rec (fun _ => Nat) (fun i => Nat.shiftLeft 1 (Nat.mul 2 i)) (fun _ => 0) (fun _ => 0) (0) (fun _ => 0) (fun _ _ _ _ _ => 2) (fun _ _ _ => 2) (fun _ _ => 0) (fun _ => 2) (fun t _ => @Bool.rec (fun _ => Nat) 2 0 (skstr t)) (fun t _ _ hi => Nat.lor (tvme t) hi) (fun _ _ ha hb => Nat.lor ha hb) (fun _ _ ha hb => Nat.lor ha hb) (fun _ _ ha hb => Nat.lor ha hb) (fun _ _ ha hb => Nat.lor ha hb) (fun _ _ ha hb => Nat.lor ha hb) (fun _ _ _ ha hb => Nat.lor ha hb) (fun _ _ ha => ha) (fun _ _ => 2) (2) (2) (fun _ _ => 2) t
/-- the same but for what the mask names -/
noncomputable def agD (D : Nat) (ρ1 ρ2 : sR) : Prop := (∀ i, D.testBit (2 * i) = false → ρ1.1 i = ρ2.1 i ∧ ρ1.2.1 i = ρ2.2.1 i) ∧ ∀ a, D.testBit (2 * a + 1) = false → ρ1.2.2.1 a = ρ2.2.2.1 a ∧ ρ1.2.2.2.1 a = ρ2.2.2.2.1 a
section DJS
variable {X : pX} {D : Nat} {ρ1 ρ2 : sR}
theorem sd_dj (h : agD D ρ1 ρ2) (hb : D.testBit 1 = true) : ∀ t : sT, DJ (tvm t) D → sd X ρ1 t = sd X ρ2 t := by
  intro t
  induction t with
  | arg i =>
    intro ht
    have h1 := h.1 i (DJ_bit ht)
    simp only [sd, h1.1, h1.2]
  | add a b iha ihb =>
    intro ht
    have ht : DJ (Nat.lor (tvm a) (tvm b)) D := ht
    simp only [sd, iha (DJ_l ht), ihb (DJ_r ht)]
  | sub a b iha ihb =>
    intro ht
    have ht : DJ (Nat.lor (tvm a) (tvm b)) D := ht
    simp only [sd, iha (DJ_l ht), ihb (DJ_r ht)]
  | mul a b iha ihb =>
    intro ht
    have ht : DJ (Nat.lor (tvm a) (tvm b)) D := ht
    simp only [sd, iha (DJ_l ht), ihb (DJ_r ht)]
  | div a b iha ihb =>
    intro ht
    have ht : DJ (Nat.lor (tvm a) (tvm b)) D := ht
    simp only [sd, iha (DJ_l ht), ihb (DJ_r ht)]
  | rem a b iha ihb =>
    intro ht
    have ht : DJ (Nat.lor (tvm a) (tvm b)) D := ht
    simp only [sd, iha (DJ_l ht), ihb (DJ_r ht)]
  | op2 o a b iha ihb =>
    intro ht
    have ht : DJ (Nat.lor (tvm a) (tvm b)) D := ht
    simp only [sd, iha (DJ_l ht), ihb (DJ_r ht)]
  | op1 o a iha =>
    intro ht
    have ht : DJ (tvm a) D := ht
    simp only [sd, iha ht]
  | elem t i _ ihi =>
    intro ht
    have ht : DJ (Nat.lor (tvme t) (tvm i)) D := ht
    cases t with
    | string c k => simp only [sd, ihi (DJ_r ht)]
    | arg a =>
      have h1 := h.2 a (DJ_bit (DJ_l ht))
      simp only [sd, ihi (DJ_r ht), h1.1, h1.2]
    | _ => exact (DJ_2 hb (DJ_l ht)).elim
  | length t _ =>
    intro ht
    cases t with
    | string c k => rfl
    | _ => exact (DJ_2 hb ht).elim
  | _ => first | (intro _; rfl) | (intro ht; exact (DJ_2 hb ht).elim)
theorem sv_dj (h : agD D ρ1 ρ2) (hb : D.testBit 1 = true) {t : sT} (ht : DJ (tvm t) D) : sv X ρ1 t = sv X ρ2 t := by
  unfold sv
  split <;> first | rfl | rw [sd_dj h hb _ ht]
noncomputable def lvm (t : sT) : Nat := @Jvm.Term.rec (fun _ => Nat) (fun _ => 2) (fun _ => 2) (fun _ => 2) (2) (fun a => Nat.shiftLeft 1 (Nat.add (Nat.mul 2 a) 1)) (fun _ _ _ _ _ => 2) (fun _ _ _ => 2) (fun _ _ => 2) (fun _ => 2) (fun _ _ => 2) (fun _ _ _ _ => 2) (fun x _ _ hr => Nat.lor (@Bool.rec (fun _ => Nat) 2 (Nat.shiftLeft 1 (Nat.add (Nat.mul 2 (tpn x)) 1)) (Nat.beq (ttag x) 4)) hr) (fun _ _ _ _ => 2) (fun _ _ _ _ => 2) (fun _ _ _ _ => 2) (fun _ _ _ _ => 2) (fun _ _ _ _ _ => 2) (fun _ _ _ => 2) (fun _ _ => 2) (2) (2) (fun _ _ => 2) t
theorem catA_dj (hb : D.testBit 1 = true) : ∀ (l : sT) (b : Nat) {a : Nat}, DJ (lvm l) D → catA l b = some a → D.testBit (2 * a + 1) = false
  | .index c, 0, a, h, hc => by
    cases hc
    exact DJ_bit h
  | .add (.index c) r, 0, a, h, hc => by
    cases hc
    have h : DJ (Nat.lor (Nat.shiftLeft 1 (Nat.add (Nat.mul 2 c) 1)) (lvm r)) D := h
    exact DJ_bit (DJ_l h)
  | .add (.index c) r, b + 1, a, h, hc => by
    have h : DJ (Nat.lor (Nat.shiftLeft 1 (Nat.add (Nat.mul 2 c) 1)) (lvm r)) D := h
    exact catA_dj hb r b (DJ_r h) hc
  | .index c, b + 1, a, h, hc => by cases hc
noncomputable def ovm (b : sT) : Nat := match b with
  | .old (.mul (.sub (.index _) (.index _)) l) => lvm l
  | .old (.add (.sub (.arg q) (.index _)) (.add (.mul (.sub (.index _) (.index _)) l) (.index c))) => Nat.lor (Nat.shiftLeft 1 (Nat.mul 2 q)) (Nat.lor (Nat.shiftLeft 1 (Nat.add (Nat.mul 2 c) 1)) (lvm l))
  | .old _ => 2
  | .arg a => Nat.shiftLeft 1 (Nat.add (Nat.mul 2 a) 1)
  | b => tvm b
noncomputable def bvm (b : sT) : Nat := @Bool.rec (fun _ => Nat) (@Bool.rec (fun _ => Nat) (tvm b) (Nat.shiftLeft 1 (Nat.add (Nat.mul 2 (tpn b)) 1)) (Nat.beq (ttag b) 0)) (ovm b) (Nat.beq (ttag b) 21)
theorem bvm_eq {b : sT} : bvm b = ovm b := by cases b <;> rfl
theorem bden_dj (h : agD D ρ1 ρ2) (hb : D.testBit 1 = true) {b : sT} (hd : DJ (bvm b) D) (j : Nat) : bden X ρ1 b j = bden X ρ2 b j := by
  rw [bvm_eq] at hd
  unfold ovm at hd
  split at hd
  · next m w l =>
    show cden ρ1 (.mul (.sub (.index m) (.index w)) l) j = cden ρ2 (.mul (.sub (.index m) (.index w)) l) j
    unfold cden
    dsimp only
    cases hc : catA l (j / w) with
    | none => rfl
    | some a =>
      have ha := h.2 a (catA_dj hb l _ hd hc)
      dsimp only
      rw [ha.1, ha.2]
  · next q k m w l c =>
    have h1 := h.1 q (DJ_bit (DJ_l hd))
    have h2 := h.2 c (DJ_bit (DJ_l (DJ_r hd)))
    have ed : ∀ i, rden ρ1 m w l i = rden ρ2 m w l i := fun i => by
      unfold rden
      cases hc : catA l (i / w) with
      | none => rfl
      | some a =>
        have ha := h.2 a (catA_dj hb l _ (DJ_r (DJ_r hd)) hc)
        dsimp only
        rw [ha.1, ha.2]
    show (if _ then _ else _) = if _ then _ else _
    rw [h1.1, ed, h2.1, h2.2]
  · exact (DJ_2 hb hd).elim
  · next a =>
    have ha := h.2 a (DJ_bit hd)
    unfold bden
    dsimp only
    rw [ha.1, ha.2]
  · next hn1 hn2 hn3 hn4 =>
    unfold bden
    split
    · exact absurd rfl (hn4 _)
    · exact absurd rfl (hn3 _)
    · exact sv_dj h hb hd
noncomputable def wvm (u : List (sT × sT)) : Nat := @List.rec (sT × sT) (fun _ => Nat) 0 (fun x _ ih => Nat.lor (Nat.lor (tvm x.1) (tvm x.2)) ih) u
noncomputable def vvm (v : List sT) : Nat := @List.rec sT (fun _ => Nat) 0 (fun t _ ih => Nat.lor (tvm t) ih) v
noncomputable def edm_ (e : sE) : Nat := match e with
  | .inl a => Nat.lor (bvm a.2.2.1) (wvm a.2.2.2)
  | .inr o => vvm o.2
theorem aden_dj (h : agD D ρ1 ρ2) (hb : D.testBit 1 = true) {b : sT} (hd : DJ (bvm b) D) (j : Nat) : ∀ u : List (sT × sT), DJ (wvm u) D → aden X ρ1 b u j = aden X ρ2 b u j
  | [], _ => bden_dj h hb hd j
  | x :: r, hu => by
    have hu : DJ (Nat.lor (Nat.lor (tvm x.1) (tvm x.2)) (wvm r)) D := hu
    unfold aden
    rw [sd_dj h hb _ (DJ_l (DJ_l hu)), sv_dj h hb (DJ_r (DJ_l hu)), aden_dj h hb hd j r (DJ_r hu)]
theorem wvm_mem : ∀ {u : List (sT × sT)}, DJ (wvm u) D → ∀ x ∈ u, DJ (tvm x.1) D
  | [], _, x, hx => by cases hx
  | y :: r, hu, x, hx => by
    have hu : DJ (Nat.lor (Nat.lor (tvm y.1) (tvm y.2)) (wvm r)) D := hu
    rcases List.mem_cons.mp hx with e | hx
    · rw [e]; exact DJ_l (DJ_l hu)
    · exact wvm_mem (DJ_r hu) x hx
theorem vvm_mem : ∀ {v : List sT}, DJ (vvm v) D → ∀ x ∈ v, DJ (tvm x) D
  | [], _, x, hx => by cases hx
  | y :: r, hu, x, hx => by
    have hu : DJ (Nat.lor (tvm y) (vvm r)) D := hu
    rcases List.mem_cons.mp hx with e | hx
    · rw [e]; exact DJ_l hu
    · exact vvm_mem (DJ_r hu) x hx
theorem CR_dj (h : agD D ρ1 ρ2) (hb : D.testBit 1 = true) {e : sE} (he : DJ (edm_ e) D) {y : pE} (hc : CR X ρ1 e y) : CR X ρ2 e y := by
  cases e with
  | inl a =>
    obtain ⟨t, m, b, u⟩ := a
    have he : DJ (Nat.lor (bvm b) (wvm u)) D := he
    cases y with
    | inr z => exact hc.elim
    | inl z =>
      obtain ⟨q1, q2, q3, q4⟩ := hc
      exact ⟨q1, q2, fun j hj => by rw [q3 j hj]; exact aden_dj h hb (DJ_l he) j u (DJ_r he), fun x hx => by rw [← sd_dj (X := X) h hb _ (wvm_mem (DJ_r he) x hx)]; exact q4 x hx⟩
  | inr a =>
    obtain ⟨c, v⟩ := a
    have he : DJ (vvm v) D := he
    cases y with
    | inl z => exact hc.elim
    | inr z =>
      have hc : z = (c, v.map (sv X ρ1)) := hc
      show z = (c, v.map (sv X ρ2))
      rw [hc]
      exact congrArg (fun l => (c, l)) (List.map_congr_left (fun t ht => sv_dj h hb (vvm_mem he t ht)))
end DJS
/-- all that a tree speaks of; all that its untouched parts speak of -/
noncomputable def tvmT (n : Nat) (x : TT (Option sE) n) : Nat := @Nat.rec (fun n => TT (Option sE) n → Nat) (fun x => @Option.rec sE (fun _ => Nat) 0 (fun e => edm_ e) x) (fun _ ih x => Nat.lor (ih x.1) (ih x.2.1)) n x
noncomputable def cvm (n : Nat) (y : TT (Option sE) n) : Nat := @Nat.rec (fun n => TT (Option sE) n → Nat) (fun _ => 0) (fun n ih y => @Bool.rec (fun _ => Nat) (tvmT (n + 1) y) (Nat.lor (ih y.1) (ih y.2.1)) y.2.2) n y
/-- the touched cells are as the pattern has them -/
noncomputable def ckDt (K : sK) (F : sFs) (σ : sM) (n : Nat) (x y : TT (Option sE) n) : Bool := @Nat.rec (fun n => TT (Option sE) n → TT (Option sE) n → Bool) (fun x y => @Option.rec sE (fun _ => Bool) true (fun e0 => @Option.rec sE (fun _ => Bool) false (fun e => cinsX K F σ e0 e) y) x) (fun _ ih x y => @Bool.rec (fun _ => Bool) true (@Bool.rec (fun _ => Bool) false (ih x.2.1 y.2.1) (ih x.1 y.1)) y.2.2) n x y
theorem tvmT_get {D : Nat} {e : sE} : ∀ (n : Nat) (x : TT (Option sE) n) (k : Nat), DJ (tvmT n x) D → tget n x k = some e → DJ (edm_ e) D
  | 0, x, k, h, hx => by
    have hx : x = some e := hx
    subst hx
    exact h
  | n + 1, x, k, h, hx => by
    have h : DJ (Nat.lor (tvmT n x.1) (tvmT n x.2.1)) D := h
    by_cases hk : k < 2 ^ n
    · exact tvmT_get n x.1 k (DJ_l h) ((tget_l hk).symm.trans hx)
    · exact tvmT_get n x.2.1 _ (DJ_r h) ((tget_r hk).symm.trans hx)
theorem ckDt_ok {K : sK} {F : sFs} {σ : sM} {D : Nat} {e0 : sE} : ∀ (n : Nat) (x y : TT (Option sE) n) (k : Nat), cln n x y → ckDt K F σ n x y = true → DJ (cvm n y) D → tget n x k = some e0 → ∃ e : sE, tget n y k = some e ∧ (cinsX K F σ e0 e = true ∨ (e = e0 ∧ DJ (edm_ e0) D))
  | 0, x, y, k, _, h, _, hx => by
    have hx : x = some e0 := hx
    subst hx
    have h : @Option.rec sE (fun _ => Bool) false (fun e => cinsX K F σ e0 e) y = true := h
    exact (match (y : Option sE), h with
      | some e, h => ⟨e, rfl, Or.inl h⟩
      | none, h => nomatch h)
  | n + 1, x, y, k, hc, h, hd, hx => by
    have h : @Bool.rec (fun _ => Bool) true (@Bool.rec (fun _ => Bool) false (ckDt K F σ n x.2.1 y.2.1) (ckDt K F σ n x.1 y.1)) y.2.2 = true := h
    have hd : DJ (@Bool.rec (fun _ => Nat) (tvmT (n + 1) y) (Nat.lor (cvm n y.1) (cvm n y.2.1)) y.2.2) D := hd
    cases hf : y.2.2 with
    | false =>
      rw [hf] at hd
      have e := hc.1 hf
      have hy : tget (n + 1) y k = some e0 := by rw [e]; exact hx
      exact ⟨e0, hy, Or.inr ⟨rfl, tvmT_get (n + 1) y k hd hy⟩⟩
    | true =>
      rw [hf] at hd h
      have hd : DJ (Nat.lor (cvm n y.1) (cvm n y.2.1)) D := hd
      have h : @Bool.rec (fun _ => Bool) false (ckDt K F σ n x.2.1 y.2.1) (ckDt K F σ n x.1 y.1) = true := h
      cases h1 : ckDt K F σ n x.1 y.1 with
      | false => rw [h1] at h; cases h
      | true =>
        rw [h1] at h
        have h : ckDt K F σ n x.2.1 y.2.1 = true := h
        by_cases hk : k < 2 ^ n
        · obtain ⟨e, q1, q2⟩ := ckDt_ok n x.1 y.1 k hc.2.1 h1 (DJ_l hd) ((tget_l hk).symm.trans hx)
          exact ⟨e, (tget_l hk).trans q1, q2⟩
        · obtain ⟨e, q1, q2⟩ := ckDt_ok n x.2.1 y.2.1 _ hc.2.2 h (DJ_r hd) ((tget_r hk).symm.trans hx)
          exact ⟨e, (tget_r hk).trans q1, q2⟩
/-- what is set -/
noncomputable def dmn {α : Type} (c : Nat) (l : List (Nat × α)) : Nat := @List.rec (Nat × α) (fun _ => Nat) 0 (fun q _ ih => Nat.lor (Nat.shiftLeft 1 (Nat.add (Nat.mul 2 q.1) c)) ih) l
noncomputable def dmk (σ : sM) : Nat := Nat.lor 2 (Nat.lor (dmn 0 σ.1) (dmn 1 σ.2))
theorem dmn_no {α : Type} {c i : Nat} : ∀ {l : List (Nat × α)}, (dmn c l).testBit (2 * i + c) = false → fnd i l = none
  | [], _ => rfl
  | q :: r, h => by
    have e0 : dmn c (q :: r) = (1 <<< (2 * q.1 + c)) ||| dmn c r := rfl
    rw [e0, Nat.testBit_or, Bool.or_eq_false_iff] at h
    have hn : Nat.beq q.1 i = false := by
      cases hq : Nat.beq q.1 i with
      | false => rfl
      | true =>
        have e := Nat.eq_of_beq_eq_true hq
        have h1 := h.1
        rw [e, Nat.testBit_shiftLeft] at h1
        simp at h1
    show (bif Nat.beq q.1 i then some q.2 else fnd i r) = none
    rw [hn]
    exact dmn_no h.2
theorem dmk_1 (σ : sM) : (dmk σ).testBit 1 = true := by
  show (2 ||| (dmn 0 σ.1 ||| dmn 1 σ.2)).testBit 1 = true
  rw [Nat.testBit_or]
  rfl
theorem agD_rsub {X : pX} {ρ : sR} (σ : sM) : agD (dmk σ) ρ (rsub X ρ σ) := by
  constructor
  · intro i h
    have h : (2 ||| (dmn 0 σ.1 ||| dmn 1 σ.2)).testBit (2 * i) = false := h
    rw [Nat.testBit_or, Nat.testBit_or, Bool.or_eq_false_iff, Bool.or_eq_false_iff] at h
    have hf : sfnd σ i = none := by
      unfold sfnd
      rw [mfnd_eq]
      exact dmn_no (c := 0) h.2.1
    simp only [rsub, hf, and_self]
  · intro a h
    have h : (2 ||| (dmn 0 σ.1 ||| dmn 1 σ.2)).testBit (2 * a + 1) = false := h
    rw [Nat.testBit_or, Nat.testBit_or, Bool.or_eq_false_iff, Bool.or_eq_false_iff] at h
    have hf : afnd σ a = none := by
      unfold afnd
      rw [mfnd_eq]
      exact dmn_no (c := 1) h.2.2
    simp only [rsub, hf, and_self]
/-- the guess, from the touched cells alone -/
noncomputable def smTd (n : Nat) (σ : sM) (x y : TT (Option sE) n) : sM := @Nat.rec (fun n => sM → TT (Option sE) n → TT (Option sE) n → sM) (fun σ x y => smD σ x y) (fun _ ih σ x y => @Bool.rec (fun _ => sM) σ (ih (ih σ x.1 y.1) x.2.1 y.2.1) y.2.2) n σ x y
noncomputable def smG (Z G : sH) (σ : sM) (l : List Nat) : sM := smTd 9 σ (foot Z l).1 G.1
noncomputable def hinstD (K : sK) (F : sFs) (σ : sM) (Z : sH) (l : List Nat) (G : sH) : Bool := Nat.beq G.2 0 && (Nat.beq (Nat.land (cvm 9 G.1) (dmk σ)) 0 && ckDt K F σ 9 (foot Z l).1 G.1)
