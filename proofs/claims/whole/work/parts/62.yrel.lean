/-! ===== two runs side by side, each over its own cells ===== -/
/-- what lies besides: cells that are not looked at, how many cells and slots -/
abbrev pB : Type := pH × Nat × Nat
noncomputable def rwB (ρ : sR) (B : pB) : sR := (ρ.1, ρ.2.1, ρ.2.2.1, ρ.2.2.2.1, B)
/-- nothing to come: the run is at its end -/
noncomputable def fBot : sF := (2, 0, none, [], [], [], [], [])
/-- what is to hold at the end -/
noncomputable def PQ (Q : List Value → pH → Nat → Prop) : pC → Prop := fun x => x.1 = [] → Q x.2.2.1 x.2.2.2.1 x.2.2.2.2
section RELB
variable {X : pX} {Ft : Nat → Nat → FieldType} {dfl : Nat → Nat × List Value} {Mt : List pM} {hl : Nat → Option (pHd × Nat)} {K : sK} {ρ : sR}
theorem sd_B (B : pB) (t : sT) : sd X (rwB ρ B) t = sd X ρ t := by
  induction t <;> simp only [sd, rwB] <;> simp_all only [rwB]
theorem sv_B (B : pB) (t : sT) : sv X (rwB ρ B) t = sv X ρ t := by
  unfold sv
  split <;> first | rfl | rw [sd_B]
theorem dL_B (B : pB) (lv : sL) : dL X (rwB ρ B) lv = dL X ρ lv := by
  unfold dL
  exact List.map_congr_left (fun q _ => by rw [sv_B])
theorem dS_B (B : pB) (st : List sT) : dS X (rwB ρ B) st = dS X ρ st := by
  unfold dS
  exact List.map_congr_left (fun t _ => sv_B B t)
theorem sn_B (B : pB) (t : sT) : sn X (rwB ρ B) t = sn X ρ t := by
  unfold sn
  rw [sd_B]
theorem vok_B (B : pB) (h : vok X ρ) : vok X (rwB ρ B) := ⟨fun i r hr => by rw [sn_B]; exact h.1 i r hr, fun c t r hr => by rw [sn_B]; exact h.2 c t r hr⟩
theorem aits_B (B : pB) (t : sT) : aits X (rwB ρ B) t = aits X ρ t := by
  have other : ∀ t : sT, (∀ a b, t ≠ .add a b) → aits X (rwB ρ B) t = aits X ρ t := fun t h0 => by
    rw [aits_one h0, aits_one h0, sn_B]
    rfl
  induction t with
  | add a b _ ihb =>
    show (aarr (rwB ρ B) a, sn X (rwB ρ B) a) :: aits X (rwB ρ B) b = (aarr ρ a, sn X ρ a) :: aits X ρ b
    rw [sn_B, ihb]
    rfl
  | _ => exact other _ (fun _ _ e => by cases e)
theorem fok_B (B : pB) {F : sFs} (h : fok X ρ F) : fok X (rwB ρ B) F := ⟨vok_B B h.1, fun f hf => by
  rw [← h.2 f hf]
  exact sc_arr (sd_B B _) (sd_B B _) (aits_B B _)⟩
theorem kok_B (B : pB) (hx : K.2.2.2 = false) (h : kok X ρ K) : kok X (rwB ρ B) K := ⟨h.1, h.2.1, h.2.2.1, fun h9 => by rw [hx] at h9; cases h9⟩
theorem aden_B (B : pB) (base : sT) (j : Nat) : ∀ u : List (sT × sT), aden X (rwB ρ B) base u j = aden X ρ base u j
  | [] => by
    unfold aden bden
    split
    · rfl
    · rfl
    · exact sv_B B _
  | x :: r => by
    unfold aden
    rw [sd_B, sv_B, aden_B B base j r]
theorem rsub_B (B : pB) (σ : sM) : rsub X (rwB ρ B) σ = rwB (rsub X ρ σ) B := by
  unfold rsub
  simp only [sd_B, aden_B]
  rfl
theorem PQ_back (Q : List Value → pH → Nat → Prop) (d : Nat) : Pback X Ft dfl Mt hl (0, [], d) (PQ Q) := by
  intro x x' ⟨N, hN⟩ _ hx
  have h := hN N (Nat.le_refl _)
  obtain ⟨cur, lv, st, G, sl⟩ := x
  have hx : cur = [] := hx
  subst hx
  simp [pm_stepL] at h
theorem PQ_mono (Q : List Value → pH → Nat → Prop) : Pmono (PQ Q) := fun _ _ _ _ _ _ _ _ h => h
/-- one run, whatever lies besides -/
noncomputable def GPh (X : pX) (Ft : Nat → Nat → FieldType) (dfl : Nat → Nat × List Value) (Mt : List pM) (d : Nat) (Q : pB → List Value → pH → Nat → Prop) (ρ : sR) (s : sS) : Prop := ∀ B : pB, GP X Ft dfl Mt (0, [], d) (PQ (Q B)) (rwB ρ B) s
theorem GPh.step {ys : Nat × Nat × Nat} (hfl : flok Mt ys) {d : Nat} {Q : pB → List Value → pH → Nat → Prop} (hx : K.2.2.2 = false) (hK : kok X ρ K) {F : sFs} (hF : fok X ρ F) {s s' : sS} (h : sstepG ys K F Ft dfl Mt hl s.1 s.2.1 s.2.2.1 s.2.2.2.1 s.2.2.2.2 = some (.inl s')) (hg : GPh X Ft dfl Mt d Q ρ s') : GPh X Ft dfl Mt d Q ρ s := fun B G hR => sstepG_ok hfl (PQ_back (hl := hl) (Q B) d) h (kok_B B hx hK) (fok_B B hF) hR (hg B)
/-- the end: the answer, the cells as Z has them, no slots more -/
noncomputable def QH (X : pX) (Z : sH) (ρ' : sR) (v : List Value) (B : pB) (st : List Value) (G : pH) (sl : Nat) : Prop := st = v ∧ HR X (rwB ρ' B) Z G ∧ sl = B.2.2
/-- both come to their ends, with the same numbers in their cells -/
noncomputable def RelP (X : pX) (Ft : Nat → Nat → FieldType) (dfl : Nat → Nat × List Value) (Mt : List pM) (dc dm : Nat) (Zc Zm : sH) (J : sR → List Value → List Value → Prop) (ρ : sR) (sc sm : sS) : Prop := ∃ (ρ' : sR) (vc vm : List Value), J ρ' vc vm ∧ GPh X Ft dfl Mt dc (QH X Zc ρ' vc) ρ sc ∧ GPh X Ft dfl Mt dm (QH X Zm ρ' vm) ρ sm
variable {dc dm : Nat} {Zc Zm : sH} {J : sR → List Value → List Value → Prop}
theorem RelP.c {ys : Nat × Nat × Nat} (hfl : flok Mt ys) (hx : K.2.2.2 = false) (hK : kok X ρ K) {F : sFs} (hF : fok X ρ F) {s s' sm : sS} (h : sstepG ys K F Ft dfl Mt hl s.1 s.2.1 s.2.2.1 s.2.2.2.1 s.2.2.2.2 = some (.inl s')) (hg : RelP X Ft dfl Mt dc dm Zc Zm J ρ s' sm) : RelP X Ft dfl Mt dc dm Zc Zm J ρ s sm := by
  obtain ⟨ρ', vc, vm, h1, h2, h3⟩ := hg
  exact ⟨ρ', vc, vm, h1, GPh.step hfl hx hK hF h h2, h3⟩
theorem RelP.m {ys : Nat × Nat × Nat} (hfl : flok Mt ys) (hx : K.2.2.2 = false) (hK : kok X ρ K) {F : sFs} (hF : fok X ρ F) {sc s s' : sS} (h : sstepG ys K F Ft dfl Mt hl s.1 s.2.1 s.2.2.1 s.2.2.2.1 s.2.2.2.2 = some (.inl s')) (hg : RelP X Ft dfl Mt dc dm Zc Zm J ρ sc s') : RelP X Ft dfl Mt dc dm Zc Zm J ρ sc s := by
  obtain ⟨ρ', vc, vm, h1, h2, h3⟩ := hg
  exact ⟨ρ', vc, vm, h1, h2, GPh.step hfl hx hK hF h h3⟩
/-- at its end a run is at its end -/
noncomputable def sbot (s : sS) : Bool := match s with
  | ((k, _, _, _, _, cur, _, _), fs, _, _, sl) => Nat.beq k 2 && (cur.isEmpty && (fs.isEmpty && Nat.beq sl 0))
theorem GPh.bot {d : Nat} {Z : sH} {ρ' : sR} {s : sS} (hb : sbot s = true) (hR : ∀ (B : pB) (G : pH), HR X (rwB ρ B) s.2.2.2.1 G → HR X (rwB ρ' B) Z G) : GPh X Ft dfl Mt d (QH X Z ρ' (dS X ρ s.1.2.2.2.2.2.2.2)) ρ s := by
  obtain ⟨⟨k, nL, ret, hs, full, cur, lv, st⟩, fs, d', G, sl⟩ := s
  simp only [sbot, Bool.and_eq_true, List.isEmpty_iff] at hb
  obtain ⟨h1, h2, h3, h4⟩ := hb
  have h1 := Nat.eq_of_beq_eq_true h1
  have h4 := Nat.eq_of_beq_eq_true h4
  subst h1 h2 h3 h4
  intro B H hH
  unfold GG
  dsimp only
  rw [if_pos rfl]
  intro _ _
  refine ⟨by dsimp only; rw [dS_B], hR B H hH, ?_⟩
  show 0 + B.2.2 = B.2.2
  omega
/-- the ends are met: every variable has its number -/
theorem RelP.leaf (hx : K.2.2.2 = false) (hK : kok X ρ K) {F : sFs} (hF : fok X ρ F) {σ : sM} (hM : sMok K σ = true) {sc sm : sS} (hbc : sbot sc = true) (hbm : sbot sm = true) (hc : hinst K F σ Zc sc.2.2.2.1 = true) (hm : hinst K F σ Zm sm.2.2.2.1 = true) (hJ : J (rsub X ρ σ) (dS X ρ sc.1.2.2.2.2.2.2.2) (dS X ρ sm.1.2.2.2.2.2.2.2)) : RelP X Ft dfl Mt dc dm Zc Zm J ρ sc sm := by
  refine ⟨rsub X ρ σ, _, _, hJ, GPh.bot hbc (fun B G hR => ?_), GPh.bot hbm (fun B G hR => ?_)⟩
  · have := HR_sub (fok_B B hF) (kok_B B hx hK) hM hc hR
    rw [rsub_B] at this
    exact this
  · have := HR_sub (fok_B B hF) (kok_B B hx hK) hM hm hR
    rw [rsub_B] at this
    exact this
/-- a method's beginning -/
noncomputable def sin0 (Mt : List pM) (y d : Nat) (as : List sT) (Z : sH) : sS := match Mt[y]? with
  | some M => ((0, M.2.2.1, M.2.2.2.1, [], M.2.2.2.2, M.2.2.2.2, slva 0 as, []), [fBot], d, Z, 0)
  | none => (fBot, [], d, Z, 1)
noncomputable def sinok (Mt : List pM) (y : Nat) (as : List sT) : Bool := match Mt[y]? with
  | some M => (match M.2.2.2.2 with
    | o :: _ => Nat.beq o.1 0
    | [] => false) && Nat.ble (as.map scat).sum M.2.2.1
  | none => false
theorem CALL_in {d y : Nat} {as : List sT} {Z : sH} {Q : pB → List Value → pH → Nat → Prop} (hok : sinok Mt y as = true) (h : GPh X Ft dfl Mt (d + 1) Q ρ (sin0 Mt y d as Z)) (B : pB) {G : pH} (hR : HR X (rwB ρ B) Z G) : ∃ (v : Option Value) (G' : pH) (sl' : Nat), CALL X Ft dfl Mt (d + 1) y (dS X ρ as) G B.2.2 (.inl v, G', sl') ∧ Q B v.toList G' sl' := by
  unfold sinok at hok
  unfold sin0 at h
  split at hok
  · next M hM =>
    rw [hM] at h
    dsimp only at h
    simp only [Bool.and_eq_true] at hok
    obtain ⟨ho, hlen⟩ := hok
    split at ho
    · next o t hops =>
      have h0 := Nat.eq_of_beq_eq_true ho
      have hlen := Nat.le_of_ble_eq_true hlen
      have hg := h B G hR
      unfold GG at hg
      dsimp only at hg
      rw [if_neg (by decide)] at hg
      obtain ⟨r, hrun, hz⟩ := hg
      unfold ZZ at hz
      rw [if_neg (by decide)] at hz
      obtain ⟨hcut, hkk⟩ := hz
      obtain ⟨v, G2, sl2⟩ := r
      cases v with
      | inl v =>
        unfold KK at hkk
        dsimp only at hkk
        rw [if_pos (show fBot.1 = 2 from rfl)] at hkk
        have hq := hkk rfl rfl
        dsimp only at hq
        refine ⟨v, G2, sl2, CALL.of hM hops h0 (by rw [slen_ok]; exact hlen) hcut ?_, ?_⟩
        · have e : (0 + rS (rwB ρ B)) = B.2.2 := by show 0 + B.2.2 = B.2.2; omega
          rw [e, dL_B, slva_ok] at hrun
          exact hrun
        · have e : v.toList ++ dS X (rwB ρ B) fBot.2.2.2.2.2.2.2 = v.toList := List.append_nil _
          rw [e] at hq
          exact hq
      | inr E =>
        unfold KK at hkk
        dsimp only at hkk
        rcases hkk.1 with h9 | h9
        · exact absurd h9 (by decide)
        · exact absurd h9 (by decide)
    · cases ho
  · cases hok
/-- a call that comes back, in a frame over others -/
theorem GG_call {P : pC → Prop} {lw : Nat × List pOp × Nat} {ρ1 : sR} {k nL : Nat} {ret : Option FieldType} {hs : pHd} {full : List pOp} {pc len r1 r2 : Nat} {ins : Instr} {r3 : Int} {tail cur' : List pOp} {lv lv1 : sL} {st st1 : List sT} {as rest : List Value} {fs fs1 : List sF} {d sl sl' : Nat} {G G' : pH} {v : Option Value} (hk : ¬ k = 2) (hr : sret ins = false) (hask : pm_ask ins r2 r3 (dS X ρ st) G = some (as, rest)) (hins : (∃ i, ins = .invokestatic i ∧ r3 ≠ 7) ∨ (∃ i, ins = .invokespecial i) ∨ (∃ i, ins = .invokevirtual i)) (hto : pm_to full tail pc len none = some cur') (hcall : CALL X Ft dfl Mt d r1 as G sl (.inl v, G', sl')) (hfs : KK X Ft dfl Mt lw P ρ1 fs1 (d + 1) = KK X Ft dfl Mt lw P ρ fs (d + 1)) (h1 : dL X ρ1 lv1 = dL X ρ lv) (h2 : dS X ρ1 st1 = v.toList ++ rest) (hg : GG X Ft dfl Mt lw P ρ1 (k, nL, ret, hs, full, cur', lv1, st1) fs1 d sl' G') : GG X Ft dfl Mt lw P ρ (k, nL, ret, hs, full, (pc, ins, len, r1, r2, r3) :: tail, lv, st) fs d sl G := by
  unfold GG at hg ⊢
  dsimp only at hg ⊢
  rw [if_neg hk] at hg ⊢
  obtain ⟨r, hrun, hz⟩ := hg
  rw [h1, h2] at hrun
  rw [hfs] at hz
  refine ⟨r, RUN.step (sret_ok hr _ _ _ _ _ _ _ _ _ _) ?_ hrun, hz⟩
  have hlop : ∀ lv st, pm_lop nL ins lv st = none := fun lv st => pm_nolop (by
    rcases hins with ⟨i, h, -⟩ | ⟨i, h⟩ | ⟨i, h⟩
    · exact Or.inl ⟨i, h⟩
    · exact Or.inr (Or.inl ⟨i, h⟩)
    · exact Or.inr (Or.inr (Or.inl ⟨i, h⟩))) nL lv st
  have hhop : ∀ st G sl, pm_hop X Ft dfl ins r1 r2 r3 st G sl = none := fun st G sl => pm_nohop (by
    rcases hins with ⟨i, h, h7⟩ | ⟨i, h⟩ | ⟨i, h⟩
    · exact Or.inl ⟨i, h, h7⟩
    · exact Or.inr (Or.inl ⟨i, h⟩)
    · exact Or.inr (Or.inr (Or.inl ⟨i, h⟩))) r1 r2 st G sl
  obtain ⟨N, hN⟩ := hcall
  refine ⟨N, fun fuel hf => ?_⟩
  simp only [pm_step, hlop, hhop, hask, hN fuel hf, hto]
/-! terms that speak of the variables below n alone -/
noncomputable def vlte (t : sT) (n_ : Nat) : Bool := @Jvm.Term.rec (fun _ => Nat → Bool) (fun i n_ => Nat.blt i n_) (fun _ _ => false) (fun _ _ => false) (fun _ => false) (fun _ _ => false) (fun _ _ _ _ _ _ => false) (fun _ _ _ _ => false) (fun _ _ _ => true) (fun _ _ => false) (fun _ _ _ => false) (fun _ _ _ _ _ => false) (fun _ _ _ _ _ => false) (fun _ _ _ _ _ => false) (fun _ _ _ _ _ => false) (fun _ _ _ _ _ => false) (fun _ _ _ _ _ => false) (fun _ _ _ _ _ _ => false) (fun _ _ _ _ => false) (fun _ _ _ => false) (fun _ => false) (fun _ => false) (fun _ _ _ => false) t n_
noncomputable def vlt (n : Nat) (t : sT) : Bool := @Jvm.Term.rec (fun _ => Nat → Bool) (fun i n_ => Nat.blt i n_) (fun _ _ => true) (fun _ _ => true) (fun _ => true) (fun _ _ => true) (fun _ _ _ _ _ _ => false) (fun _ _ _ _ => false) (fun _ _ _ => true) (fun _ _ => false) (fun t _ _ => skstr t) (fun t _ _ hi n_ => vlte t n_ && hi n_) (fun _ _ ha hb n_ => ha n_ && hb n_) (fun _ _ ha hb n_ => ha n_ && hb n_) (fun _ _ ha hb n_ => ha n_ && hb n_) (fun _ _ ha hb n_ => ha n_ && hb n_) (fun _ _ ha hb n_ => ha n_ && hb n_) (fun _ _ _ ha hb n_ => ha n_ && hb n_) (fun _ _ ha n_ => ha n_) (fun _ _ _ => false) (fun _ => false) (fun _ => false) (fun _ _ _ => false) t n
theorem vlt_arg {n_ : Nat} {i : Nat} : vlt n_ (.arg i) = (Nat.blt i n_) := rfl
theorem vlt_int {n_ : Nat} {v : Int32} : vlt n_ (.int v) = (true) := rfl
theorem vlt_long {n_ : Nat} {v : Int64} : vlt n_ (.long v) = (true) := rfl
theorem vlt_null {n_ : Nat} : vlt n_ (.null) = (true) := rfl
theorem vlt_index {n_ : Nat} {k : Nat} : vlt n_ (.index k) = (true) := rfl
theorem vlt_field {n_ : Nat} {t : sT} {c : String} {n : String} {d : String} : vlt n_ (.field t c n d) = (false) := rfl
theorem vlt_static {n_ : Nat} {c : String} {n : String} {d : String} : vlt n_ (.static c n d) = (false) := rfl
theorem vlt_string {n_ : Nat} {c : String} {i : Nat} : vlt n_ (.string c i) = (true) := rfl
theorem vlt_mirror {n_ : Nat} {c : String} : vlt n_ (.mirror c) = (false) := rfl
theorem vlt_length {n_ : Nat} {t : sT} : vlt n_ (.length t) = (match t with
    | .string _ _ => true
    | _ => false) := by cases t <;> rfl
theorem vlt_elem {n_ : Nat} {t : sT} {i : sT} : vlt n_ (.elem t i) = (match t with
    | .string _ _ => vlt n_ i
    | .arg a => Nat.blt a n_ && vlt n_ i
    | _ => false) := by cases t <;> first | rfl | (cases i <;> rfl)
theorem vlt_add {n_ : Nat} {a : sT} {b : sT} : vlt n_ (.add a b) = (vlt n_ a && vlt n_ b) := rfl
theorem vlt_sub {n_ : Nat} {a : sT} {b : sT} : vlt n_ (.sub a b) = (vlt n_ a && vlt n_ b) := rfl
theorem vlt_mul {n_ : Nat} {a : sT} {b : sT} : vlt n_ (.mul a b) = (vlt n_ a && vlt n_ b) := rfl
theorem vlt_div {n_ : Nat} {a : sT} {b : sT} : vlt n_ (.div a b) = (vlt n_ a && vlt n_ b) := rfl
theorem vlt_rem {n_ : Nat} {a : sT} {b : sT} : vlt n_ (.rem a b) = (vlt n_ a && vlt n_ b) := rfl
theorem vlt_op2 {n_ : Nat} {o : Binary} {a : sT} {b : sT} : vlt n_ (.op2 o a b) = (vlt n_ a && vlt n_ b) := rfl
theorem vlt_op1 {n_ : Nat} {o : Unary} {a : sT} : vlt n_ (.op1 o a) = (vlt n_ a) := rfl
theorem vlt_sum {n_ : Nat} {t : sT} : vlt n_ (.sum t) = (false) := rfl
theorem vlt_result {n_ : Nat} : vlt n_ (.result) = (false) := rfl
theorem vlt_thrown {n_ : Nat} : vlt n_ (.thrown) = (false) := rfl
theorem vlt_old {n_ : Nat} {t : sT} : vlt n_ (.old t) = (false) := rfl
/-- the same numbers below n -/
noncomputable def agr (n : Nat) (ρ1 ρ2 : sR) : Prop := (∀ i, i < n → ρ1.1 i = ρ2.1 i ∧ ρ1.2.1 i = ρ2.2.1 i) ∧ ∀ a, a < n → ρ1.2.2.1 a = ρ2.2.2.1 a ∧ ρ1.2.2.2.1 a = ρ2.2.2.2.1 a
theorem vlt_d {n : Nat} {ρ1 ρ2 : sR} (h : agr n ρ1 ρ2) : ∀ t : sT, vlt n t = true → sd X ρ1 t = sd X ρ2 t := by
  intro t
  induction t with
  | arg i =>
    intro ht
    have hi : i < n := Nat.blt_eq.mp ht
    simp only [sd, (h.1 i hi).1, (h.1 i hi).2]
  | add a b iha ihb =>
    intro ht
    simp only [vlt_arg, vlt_int, vlt_long, vlt_null, vlt_index, vlt_field, vlt_static, vlt_string, vlt_mirror, vlt_length, vlt_elem, vlt_add, vlt_sub, vlt_mul, vlt_div, vlt_rem, vlt_op2, vlt_op1, vlt_sum, vlt_result, vlt_thrown, vlt_old, Bool.and_eq_true] at ht
    simp only [sd, iha ht.1, ihb ht.2]
  | sub a b iha ihb =>
    intro ht
    simp only [vlt_arg, vlt_int, vlt_long, vlt_null, vlt_index, vlt_field, vlt_static, vlt_string, vlt_mirror, vlt_length, vlt_elem, vlt_add, vlt_sub, vlt_mul, vlt_div, vlt_rem, vlt_op2, vlt_op1, vlt_sum, vlt_result, vlt_thrown, vlt_old, Bool.and_eq_true] at ht
    simp only [sd, iha ht.1, ihb ht.2]
  | mul a b iha ihb =>
    intro ht
    simp only [vlt_arg, vlt_int, vlt_long, vlt_null, vlt_index, vlt_field, vlt_static, vlt_string, vlt_mirror, vlt_length, vlt_elem, vlt_add, vlt_sub, vlt_mul, vlt_div, vlt_rem, vlt_op2, vlt_op1, vlt_sum, vlt_result, vlt_thrown, vlt_old, Bool.and_eq_true] at ht
    simp only [sd, iha ht.1, ihb ht.2]
  | div a b iha ihb =>
    intro ht
    simp only [vlt_arg, vlt_int, vlt_long, vlt_null, vlt_index, vlt_field, vlt_static, vlt_string, vlt_mirror, vlt_length, vlt_elem, vlt_add, vlt_sub, vlt_mul, vlt_div, vlt_rem, vlt_op2, vlt_op1, vlt_sum, vlt_result, vlt_thrown, vlt_old, Bool.and_eq_true] at ht
    simp only [sd, iha ht.1, ihb ht.2]
  | rem a b iha ihb =>
    intro ht
    simp only [vlt_arg, vlt_int, vlt_long, vlt_null, vlt_index, vlt_field, vlt_static, vlt_string, vlt_mirror, vlt_length, vlt_elem, vlt_add, vlt_sub, vlt_mul, vlt_div, vlt_rem, vlt_op2, vlt_op1, vlt_sum, vlt_result, vlt_thrown, vlt_old, Bool.and_eq_true] at ht
    simp only [sd, iha ht.1, ihb ht.2]
  | op2 o a b iha ihb =>
    intro ht
    simp only [vlt_arg, vlt_int, vlt_long, vlt_null, vlt_index, vlt_field, vlt_static, vlt_string, vlt_mirror, vlt_length, vlt_elem, vlt_add, vlt_sub, vlt_mul, vlt_div, vlt_rem, vlt_op2, vlt_op1, vlt_sum, vlt_result, vlt_thrown, vlt_old, Bool.and_eq_true] at ht
    simp only [sd, iha ht.1, ihb ht.2]
  | op1 o a iha =>
    intro ht
    simp only [vlt_arg, vlt_int, vlt_long, vlt_null, vlt_index, vlt_field, vlt_static, vlt_string, vlt_mirror, vlt_length, vlt_elem, vlt_add, vlt_sub, vlt_mul, vlt_div, vlt_rem, vlt_op2, vlt_op1, vlt_sum, vlt_result, vlt_thrown, vlt_old] at ht
    simp only [sd, iha ht]
  | elem t i iht ihi =>
    intro ht
    cases t with
    | string c k =>
      have hi : vlt n i = true := ht
      simp only [sd, ihi hi]
    | arg a =>
      have ht : (Nat.blt a n && vlt n i) = true := ht
      simp only [Bool.and_eq_true] at ht
      have ha : a < n := Nat.blt_eq.mp ht.1
      simp only [sd, ihi ht.2, (h.2 a ha).1, (h.2 a ha).2]
    | _ => cases ht
  | length t iht =>
    intro ht
    cases t with
    | string c k => rfl
    | _ => cases ht
  | _ => first | (intro _; rfl) | (intro ht; cases ht)
theorem vlt_v {n : Nat} {ρ1 ρ2 : sR} (h : agr n ρ1 ρ2) {t : sT} (ht : vlt n t = true) : sv X ρ1 t = sv X ρ2 t := by
  unfold sv
  split <;> first | rfl | rw [vlt_d h _ ht]
noncomputable def vltF (n : Nat) (f : sF) : Bool := f.2.2.2.2.2.2.1.all (fun q => vlt n q.2) && f.2.2.2.2.2.2.2.all (vlt n)
theorem vltF_d {n : Nat} {ρ1 ρ2 : sR} (h : agr n ρ1 ρ2) {f : sF} (hf : vltF n f = true) : dL X ρ1 f.2.2.2.2.2.2.1 = dL X ρ2 f.2.2.2.2.2.2.1 ∧ dS X ρ1 f.2.2.2.2.2.2.2 = dS X ρ2 f.2.2.2.2.2.2.2 := by
  simp only [vltF, Bool.and_eq_true, List.all_eq_true] at hf
  constructor
  · unfold dL
    exact List.map_congr_left (fun q hq => by rw [vlt_v h (hf.1 q hq)])
  · unfold dS
    exact List.map_congr_left (fun t ht => vlt_v h (hf.2 t ht))
theorem KK_agr {P : pC → Prop} {lw : Nat × List pOp × Nat} {n : Nat} {ρ1 ρ2 : sR} (h : agr n ρ1 ρ2) : ∀ (fs : List sF) (d : Nat), fs.all (vltF n) = true → KK X Ft dfl Mt lw P ρ1 fs d = KK X Ft dfl Mt lw P ρ2 fs d
  | [], _, _ => rfl
  | f :: fs, d, hf => by
    simp only [List.all_cons, Bool.and_eq_true] at hf
    obtain ⟨e1, e2⟩ := vltF_d (X := X) h hf.1
    have ih := KK_agr (P := P) (lw := lw) h fs (d + 1) hf.2
    funext r
    obtain ⟨v, G, sl⟩ := r
    cases v with
    | inl v => simp only [KK, e1, e2, ih]
    | inr E => simp only [KK, ih]
/-- arrays' beginnings -/
noncomputable def vltC (n : Nat) : sT → Bool
  | .index a => Nat.blt a n
  | .add (.index a) r => Nat.blt a n && vltC n r
  | _ => false
noncomputable def vltO (n : Nat) (b : sT) : Bool := match b with
  | .old (.mul (.sub (.index _) (.index _)) l) => vltC n l
  | .old (.add (.sub (.arg q) (.index _)) (.add (.mul (.sub (.index _) (.index _)) l) (.index c))) => Nat.blt q n && (Nat.blt c n && vltC n l)
  | b => vlt n b
noncomputable def vltB (n : Nat) (b : sT) : Bool := bif Nat.beq (ttag b) 21 then vltO n b else vlt n b
theorem vltB_eq {n : Nat} {b : sT} : vltB n b = vltO n b := by cases b <;> rfl
theorem catA_lt {n : Nat} : ∀ (l : sT) (b : Nat) {a : Nat}, vltC n l = true → catA l b = some a → a < n
  | .index c, 0, a, h, hc => by
    cases hc
    exact Nat.blt_eq.mp h
  | .add (.index c) r, 0, a, h, hc => by
    cases hc
    have h : (Nat.blt c n && vltC n r) = true := h
    simp only [Bool.and_eq_true] at h
    exact Nat.blt_eq.mp h.1
  | .add (.index c) r, b + 1, a, h, hc => by
    have h : (Nat.blt c n && vltC n r) = true := h
    simp only [Bool.and_eq_true] at h
    exact catA_lt r b h.2 hc
  | .index c, b + 1, a, h, hc => by cases hc
theorem vltB_d {n : Nat} {ρ1 ρ2 : sR} (h : agr n ρ1 ρ2) {b : sT} (hb : vltB n b = true) (j : Nat) : bden X ρ1 b j = bden X ρ2 b j := by
  rw [vltB_eq] at hb
  unfold vltO at hb
  split at hb
  · next m w l =>
    show cden ρ1 (.mul (.sub (.index m) (.index w)) l) j = cden ρ2 (.mul (.sub (.index m) (.index w)) l) j
    unfold cden
    dsimp only
    cases hc : catA l (j / w) with
    | none => rfl
    | some a =>
      have ha := catA_lt l _ hb hc
      dsimp only
      rw [(h.2 a ha).1, (h.2 a ha).2]
  · next q k m w l c =>
    simp only [Bool.and_eq_true] at hb
    obtain ⟨h1, h2, h3⟩ := hb
    have h1 : q < n := Nat.blt_eq.mp h1
    have h2 : c < n := Nat.blt_eq.mp h2
    have ed : ∀ i, rden ρ1 m w l i = rden ρ2 m w l i := fun i => by
      unfold rden
      cases hc : catA l (i / w) with
      | none => rfl
      | some a =>
        have ha := catA_lt l _ h3 hc
        dsimp only
        rw [(h.2 a ha).1, (h.2 a ha).2]
    show (if _ then _ else _) = if _ then _ else _
    rw [(h.1 q h1).1, ed, (h.2 c h2).1, (h.2 c h2).2]
  · unfold bden
    split
    · next a _ _ =>
      have ha : a < n := Nat.blt_eq.mp hb
      rw [(h.2 a ha).1, (h.2 a ha).2]
    · cases hb
    · exact vlt_v h hb
noncomputable def vltE (n : Nat) (e : sE) : Bool := match e with
  | .inl a => vltB n a.2.2.1 && a.2.2.2.all (fun x => vlt n x.1 && vlt n x.2)
  | .inr o => o.2.all (vlt n)
theorem vlt_aden {n : Nat} {ρ1 ρ2 : sR} (h : agr n ρ1 ρ2) {b : sT} (hb : vltB n b = true) (j : Nat) : ∀ u : List (sT × sT), (∀ x ∈ u, vlt n x.1 = true ∧ vlt n x.2 = true) → aden X ρ1 b u j = aden X ρ2 b u j
  | [], _ => vltB_d h hb j
  | x :: r, hu => by
    have hx := hu x List.mem_cons_self
    unfold aden
    rw [vlt_d h _ hx.1, vlt_v h hx.2, vlt_aden h hb j r (fun y hy => hu y (List.mem_cons_of_mem _ hy))]
theorem CR_agr {n : Nat} {ρ1 ρ2 : sR} (h : agr n ρ1 ρ2) {e : sE} (he : vltE n e = true) {y : pE} (hc : CR X ρ1 e y) : CR X ρ2 e y := by
  cases e with
  | inl a =>
    obtain ⟨t, m, b, u⟩ := a
    simp only [vltE, Bool.and_eq_true, List.all_eq_true] at he
    have hu : ∀ x ∈ u, vlt n x.1 = true ∧ vlt n x.2 = true := fun x hx => by simpa using he.2 x hx
    cases y with
    | inr z => exact hc.elim
    | inl z =>
      obtain ⟨q1, q2, q3, q4⟩ := hc
      exact ⟨q1, q2, fun j hj => by rw [q3 j hj]; exact vlt_aden h he.1 j u hu, fun x hx => by rw [← vlt_d (X := X) h _ (hu x hx).1]; exact q4 x hx⟩
  | inr a =>
    obtain ⟨c, v⟩ := a
    simp only [vltE, List.all_eq_true] at he
    cases y with
    | inl z => exact hc.elim
    | inr z =>
      have hc : z = (c, v.map (sv X ρ1)) := hc
      show z = (c, v.map (sv X ρ2))
      rw [hc]
      exact congrArg (fun l => (c, l)) (List.map_congr_left (fun t ht => vlt_v h (he t ht)))
end RELB
