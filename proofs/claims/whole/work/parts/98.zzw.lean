set_option maxRecDepth 20000
/-! ===== what the tables say of a slot, worked out ===== -/
section EVZ
noncomputable def eo2 {α β : Type} (f : α → α → β) (x y : Option α) : Option β := x.bind (fun p => y.map (fun q => f p q))
theorem eo2_s {α β : Type} {f : α → α → β} {x y : Option α} {v : β} (h : eo2 f x y = some v) : ∃ p q, x = some p ∧ y = some q ∧ f p q = v := by
  cases x with
  | none => cases h
  | some p => cases y with
    | none => cases h
    | some q => exact ⟨p, q, rfl, rfl, Option.some.inj h⟩
theorem eom_s {α β : Type} {f : α → β} {x : Option α} {v : β} (h : x.map f = some v) : ∃ p, x = some p ∧ f p = v := by
  cases x with
  | none => cases h
  | some p => exact ⟨p, rfl, Option.some.inj h⟩
noncomputable def evza (t : sT) (x : Option Int32) : Option Int32 × Option Int64 := match t with
  | .string _ k => (match kR.2.1 k with
    | some l => x.map (fun v => l.getD v.toNatClampNeg 0)
    | none => none, none)
  | .arg a => match kR.2.2.1 a with
    | some l => (x.map (fun v => Int32.ofInt (l.getD v.toNatClampNeg 0)), x.map (fun v => Int64.ofInt (l.getD v.toNatClampNeg 0)))
    | none => (none, none)
  | _ => (none, none)
noncomputable def ev1 (o : Unary) (x : Option Int32 × Option Int64) : Option Int32 × Option Int64 := match o with
  | .l2i => (x.2.map Int64.toInt32, none)
  | .i2b => (x.1.map (fun v => v.toInt8.toInt32), none)
  | .i2s => (x.1.map (fun v => v.toInt16.toInt32), none)
  | .i2l => (none, x.1.map Int32.toInt64)
  | _ => (none, none)
noncomputable def ev2 (o : Binary) (x y : Option Int32 × Option Int64) : Option Int32 × Option Int64 := match o with
  | .iand => (eo2 (fun p q => p &&& q) x.1 y.1, none)
  | .ior => (eo2 (fun p q => p ||| q) x.1 y.1, none)
  | .ladd => (none, eo2 (fun p q => p + q) x.2 y.2)
  | .land => (none, eo2 (fun p q => p &&& q) x.2 y.2)
  | .lor => (none, eo2 (fun p q => p ||| q) x.2 y.2)
  | _ => (none, none)
noncomputable def evz (σ : Nat → Option Int32) : sT → Option Int32 × Option Int64
  | .int v => (some v, none)
  | .long v => (none, some v)
  | .arg j => (σ j, none)
  | .add a b => (eo2 (fun p q => p + q) (evz σ a).1 (evz σ b).1, none)
  | .sub a b => (eo2 (fun p q => p - q) (evz σ a).1 (evz σ b).1, none)
  | .mul a b => (eo2 (fun p q => p * q) (evz σ a).1 (evz σ b).1, none)
  | .op1 o a => ev1 o (evz σ a)
  | .op2 o a b => ev2 o (evz σ a) (evz σ b)
  | .elem t i => evza t (evz σ i).1
  | _ => (none, none)
theorem evza_ok {X : pX} {ρ : sR} (hK : kok X ρ kR) {t i : sT} {x : Option Int32} (hi : ∀ v, x = some v → (sd X ρ i).1 = v) : (∀ v, (evza t x).1 = some v → (sd X ρ (.elem t i)).1 = v) ∧ ∀ v, (evza t x).2 = some v → (sd X ρ (.elem t i)).2 = v := by
  unfold evza
  split
  · next s k =>
    refine ⟨fun v h => ?_, fun v h => by cases h⟩
    dsimp only at h
    split at h
    · next l hl =>
      obtain ⟨p, hp, hv⟩ := eom_s h
      obtain ⟨n, f, hX, hf⟩ := hK.2.1.1 k l hl
      show (match X k with
        | some a => (a.2 (sd X ρ i).1.toNatClampNeg, (0 : Int64))
        | none => (0, 0)).1 = v
      rw [hX, hi p hp]
      show f p.toNatClampNeg = v
      rw [hf]
      exact hv
    · cases h
  · next a =>
    split
    · next l hl =>
      refine ⟨fun v h => ?_, fun v h => ?_⟩
      · obtain ⟨p, hp, hv⟩ := eom_s h
        show ρ.2.2.1 a (sd X ρ i).1.toNatClampNeg = v
        rw [hi p hp, (hK.2.2.1 a l hl _).1]
        exact hv
      · obtain ⟨p, hp, hv⟩ := eom_s h
        show ρ.2.2.2.1 a (sd X ρ i).1.toNatClampNeg = v
        rw [hi p hp, (hK.2.2.1 a l hl _).2]
        exact hv
    · exact ⟨fun v h => (by cases h), fun v h => by cases h⟩
  · exact ⟨fun v h => (by cases h), fun v h => by cases h⟩
theorem ev1_ok {X : pX} {ρ : sR} {o : Unary} {a : sT} {x : Option Int32 × Option Int64} (h1 : ∀ v, x.1 = some v → (sd X ρ a).1 = v) (h2 : ∀ v, x.2 = some v → (sd X ρ a).2 = v) : (∀ v, (ev1 o x).1 = some v → (sd X ρ (.op1 o a)).1 = v) ∧ ∀ v, (ev1 o x).2 = some v → (sd X ρ (.op1 o a)).2 = v := by
  constructor
  · intro v h
    cases o <;> first | (cases h; done) | (obtain ⟨p, hp, hv⟩ := eom_s h; first | (rw [← hv, ← h1 p hp]; rfl) | (rw [← hv, ← h2 p hp]; rfl))
  · intro v h
    cases o <;> first | (cases h; done) | (obtain ⟨p, hp, hv⟩ := eom_s h; rw [← hv, ← h1 p hp]; rfl)
theorem ev2_ok {X : pX} {ρ : sR} {o : Binary} {a b : sT} {x y : Option Int32 × Option Int64} (h1 : ∀ v, x.1 = some v → (sd X ρ a).1 = v) (h2 : ∀ v, x.2 = some v → (sd X ρ a).2 = v) (g1 : ∀ v, y.1 = some v → (sd X ρ b).1 = v) (g2 : ∀ v, y.2 = some v → (sd X ρ b).2 = v) : (∀ v, (ev2 o x y).1 = some v → (sd X ρ (.op2 o a b)).1 = v) ∧ ∀ v, (ev2 o x y).2 = some v → (sd X ρ (.op2 o a b)).2 = v := by
  constructor
  · intro v h
    cases o <;> first | (cases h; done) | (obtain ⟨p, q, hp, hq, hv⟩ := eo2_s h; rw [← hv, ← h1 p hp, ← g1 q hq]; rfl)
  · intro v h
    cases o <;> first | (cases h; done) | (obtain ⟨p, q, hp, hq, hv⟩ := eo2_s h; rw [← hv, ← h2 p hp, ← g2 q hq]; rfl)
theorem evz_ok {X : pX} {ρ : sR} (hK : kok X ρ kR) {σ : Nat → Option Int32} (hσ : ∀ j x, σ j = some x → ρ.1 j = x) : ∀ t : sT, (∀ v, (evz σ t).1 = some v → (sd X ρ t).1 = v) ∧ ∀ v, (evz σ t).2 = some v → (sd X ρ t).2 = v := by
  intro t
  induction t with
  | int v => exact ⟨fun w h => (by cases h; rfl), fun w h => by cases h⟩
  | long v => exact ⟨fun w h => (by cases h), fun w h => by cases h; rfl⟩
  | arg j => exact ⟨fun w h => hσ j w h, fun w h => by cases h⟩
  | add a b ha hb =>
    refine ⟨fun w h => ?_, fun w h => by cases h⟩
    obtain ⟨p, q, hp, hq, hv⟩ := eo2_s h
    show (sd X ρ a).1 + (sd X ρ b).1 = w
    rw [ha.1 p hp, hb.1 q hq, hv]
  | sub a b ha hb =>
    refine ⟨fun w h => ?_, fun w h => by cases h⟩
    obtain ⟨p, q, hp, hq, hv⟩ := eo2_s h
    show (sd X ρ a).1 - (sd X ρ b).1 = w
    rw [ha.1 p hp, hb.1 q hq, hv]
  | mul a b ha hb =>
    refine ⟨fun w h => ?_, fun w h => by cases h⟩
    obtain ⟨p, q, hp, hq, hv⟩ := eo2_s h
    show (sd X ρ a).1 * (sd X ρ b).1 = w
    rw [ha.1 p hp, hb.1 q hq, hv]
  | op1 o a ha => exact ev1_ok ha.1 ha.2
  | op2 o a b ha hb => exact ev2_ok ha.1 ha.2 hb.1 hb.2
  | elem t i ht hi => exact evza_ok hK hi.1
  | _ => exact ⟨fun w h => (by cases h), fun w h => by cases h⟩
/-- is a fact so -/
noncomputable def evq (σ : Nat → Option Int32) (f : sQ × Bool) : Bool := match f.1.1 with
  | 0 => (match eo2 (fun p q => decide (p = q)) (evz σ f.1.2.1).1 (evz σ f.1.2.2).1 with
    | some b => b == f.2
    | none => false)
  | 2 => (match eo2 (fun p q => decide (p < q)) (evz σ f.1.2.1).1 (evz σ f.1.2.2).1 with
    | some b => b == f.2
    | none => false)
  | 6 => (match eo2 (fun p q => decide (p = q)) (evz σ f.1.2.1).2 (evz σ f.1.2.2).2 with
    | some b => b == f.2
    | none => false)
  | 8 => (match eo2 (fun p q => decide (p < q)) (evz σ f.1.2.1).2 (evz σ f.1.2.2).2 with
    | some b => b == f.2
    | none => false)
  | _ => false
theorem evq_ok {X : pX} {ρ : sR} (hK : kok X ρ kR) {σ : Nat → Option Int32} (hσ : ∀ j x, σ j = some x → ρ.1 j = x) {f : sQ × Bool} (h : evq σ f = true) : sc X ρ f.1 = f.2 := by
  obtain ⟨⟨k, a, b⟩, v⟩ := f
  have ha := evz_ok (X := X) hK hσ a
  have hb := evz_ok (X := X) hK hσ b
  unfold evq at h
  dsimp only at h
  split at h
  · split at h
    · next w hw =>
      obtain ⟨p, q, hp, hq, hv⟩ := eo2_s hw
      show decide ((sd X ρ a).1 = (sd X ρ b).1) = v
      rw [ha.1 p hp, hb.1 q hq, hv]
      exact eq_of_beq h
    · cases h
  · split at h
    · next w hw =>
      obtain ⟨p, q, hp, hq, hv⟩ := eo2_s hw
      show decide ((sd X ρ a).1 < (sd X ρ b).1) = v
      rw [ha.1 p hp, hb.1 q hq, hv]
      exact eq_of_beq h
    · cases h
  · split at h
    · next w hw =>
      obtain ⟨p, q, hp, hq, hv⟩ := eo2_s hw
      show decide ((sd X ρ a).2 = (sd X ρ b).2) = v
      rw [ha.2 p hp, hb.2 q hq, hv]
      exact eq_of_beq h
    · cases h
  · split at h
    · next w hw =>
      obtain ⟨p, q, hp, hq, hv⟩ := eo2_s hw
      show decide ((sd X ρ a).2 < (sd X ρ b).2) = v
      rw [ha.2 p hp, hb.2 q hq, hv]
      exact eq_of_beq h
    · cases h
  · cases h
/-- the slot s is p -/
noncomputable def evs1 (s p : Nat) : Nat → Option Int32 := fun j => bif Nat.beq j s then some (Int32.ofNat p) else none
theorem evs1_ok {ρ : sR} {s p : Nat} (h : (ρ.1 s).toInt = p) (hp : p < 156) : ∀ j x, evs1 s p j = some x → ρ.1 j = x := by
  intro j x hj
  unfold evs1 at hj
  cases hb : Nat.beq j s with
  | false => rw [hb] at hj; cases hj
  | true =>
    rw [hb] at hj
    have hj : some (Int32.ofNat p) = some x := hj
    rw [Nat.eq_of_beq_eq_true hb, ← Option.some.inj hj]
    apply Int32.toInt_inj.mp
    rw [Int32.toInt_ofNat_of_lt (by omega), h]
/-- the drive is the d-th besides -/
noncomputable def evs2 (s p e d : Nat) : Nat → Option Int32 := fun j => bif Nat.beq j s then some (Int32.ofNat p) else bif Nat.beq j e then some (Int32.ofNat d) else none
theorem evs2_ok {ρ : sR} {s p e d : Nat} (h : (ρ.1 s).toInt = p) (hp : p < 156) (hd : (ρ.1 e).toInt = d) (hd4 : d < 4) : ∀ j x, evs2 s p e d j = some x → ρ.1 j = x := by
  intro j x hj
  unfold evs2 at hj
  cases hb : Nat.beq j s with
  | true =>
    rw [hb] at hj
    have hj : some (Int32.ofNat p) = some x := hj
    rw [Nat.eq_of_beq_eq_true hb, ← Option.some.inj hj]
    apply Int32.toInt_inj.mp
    rw [Int32.toInt_ofNat_of_lt (by omega), h]
  | false =>
    rw [hb] at hj
    cases hc : Nat.beq j e with
    | true =>
      rw [hc] at hj
      have hj : some (Int32.ofNat d) = some x := hj
      rw [Nat.eq_of_beq_eq_true hc, ← Option.some.inj hj]
      apply Int32.toInt_inj.mp
      rw [Int32.toInt_ofNat_of_lt (by omega), hd]
    | false => rw [hc] at hj; cases hj
/-- each slot has its group, and the group's facts are so -/
noncomputable def tabk (s : Nat) (gl : List Nat) (alts : List sFs) : Bool := (List.range 156).all (fun p => match gl[p]? with
  | some g => (match alts[g]? with
    | some F => F.all (evq (evs1 s p))
    | none => false)
  | none => false)
theorem tab_ok {X : pX} {ρ : sR} (hK : kok X ρ kR) {s p : Nat} {gl : List Nat} {alts : List sFs} (h : tabk s gl alts = true) (hs : (ρ.1 s).toInt = p) (hp : p < 156) : ∃ g F, gl[p]? = some g ∧ alts[g]? = some F ∧ fall X ρ F := by
  have h1 := List.all_eq_true.mp h p (List.mem_range.mpr hp)
  split at h1
  · next g hg =>
    split at h1
    · next F hF =>
      exact ⟨g, F, hg, hF, fun f hf => evq_ok hK (evs1_ok hs hp) (List.all_eq_true.mp h1 f hf)⟩
    · cases h1
  · cases h1
end EVZ
section ARR
variable {X : pX} {K : sK} {ρ0 : sR}
noncomputable def rsA (g : Nat) (h : Nat → Int64) (ρ : sR) : sR := (ρ.1, ρ.2.1, ρ.2.2.1, fun a => if a = g then h else ρ.2.2.2.1 a, ρ.2.2.2.2)
theorem rsA_agr {g : Nat} {h : Nat → Int64} {ρ : sR} : agr g (rsA g h ρ) ρ := ⟨fun _ _ => ⟨rfl, rfl⟩, fun _ ha => ⟨rfl, if_neg (Nat.ne_of_lt ha)⟩⟩
theorem rsA_vok {g : Nat} {h : Nat → Int64} {ρ : sR} (hv : vok X ρ) (hn : vrng g = none) : vok X (rsA g h ρ) := by
  refine ⟨fun i r hr => hv.1 i r hr, fun a t r hr => ?_⟩
  by_cases ha : a = g
  · rw [ha, hn] at hr; cases hr
  · have e : sn X (rsA g h ρ) (.elem (.arg a) t) = sn X ρ (.elem (.arg a) (.int (sd X (rsA g h ρ) t).1)) := by
      show (if sk (.elem (.arg a) t) = 1 then ((if a = g then h else ρ.2.2.2.1 a) _).toInt else _) = _
      rw [if_neg ha]
      rfl
    rw [e]
    exact hv.2 a _ r hr
/-- the cut holds if it holds with an array of nobody's set so -/
theorem CUT_arr {Z : sH} {C : sC} {d g : Nat} {c1 c2 : sF × List sF × Nat} {F F' : sFs} {I I' : sI} (hx : K.2.2.2 = false) (hk0 : ∀ a l, K.2.2.1 a = some l → a < 1000) (hg0 : 1000 ≤ g) (hn : vrng g = none) (hm : g ∈ C.2.2.2.2.1.2) (hF : fvlt g F = true) (hI : ivlt g I = true) (h1 : (c1.1 :: c1.2.1).all (vltF g) = true) (h2 : (c2.1 :: c2.2.1).all (vltF g) = true) (hf : cfine Z g C = true) (hq : ∀ ρ : sR, kok X ρ K → fok X ρ F → iok X ρ I → ∃ y : Nat → Int64, ∀ ρ' : sR, agr g ρ' ρ → ρ'.2.2.2.1 g = y → fok X ρ' F → iok X ρ' I → fok X ρ' F' ∧ iok X ρ' I') (h : CUTOK X K Z C d ρ0 (c1, c2, F', I')) : CUTOK X K Z C d ρ0 (c1, c2, F, I) := by
  intro ρ1 k1 k2 k3 k4
  obtain ⟨y, hq⟩ := hq ρ1 k1 k2 k3
  have ag : agr g (rsA g y ρ1) ρ1 := rsA_agr
  have f1 : fok X (rsA g y ρ1) F := ⟨rsA_vok k2.1 hn, fall_agr ag hF k2.2⟩
  have i1 : iok X (rsA g y ρ1) I := iok_agr ag hI k3
  obtain ⟨f2, i2⟩ := hq _ ag (if_pos rfl) f1 i1
  have k4' : agrM 65536 C.2.2.2.2.1.1 C.2.2.2.2.1.2 (rsA g y ρ1) ρ0 := ⟨k4.1, fun a ha hn => by
    have hne : ¬ a = g := fun e => hn (e ▸ hm)
    exact ⟨(k4.2 a ha hn).1, (if_neg hne).trans (k4.2 a ha hn).2⟩⟩
  have kk : kok X (rsA g y ρ1) K := ⟨k1.1, k1.2.1, fun a l hl j => ⟨(k1.2.2.1 a l hl j).1, by
    have hne : ¬ a = g := fun e => by have := hk0 a l hl; omega
    show (if a = g then y else ρ1.2.2.2.1 a) j = _
    rw [if_neg hne]
    exact (k1.2.2.1 a l hl j).2⟩, fun e => by rw [hx] at e; cases e⟩
  have hh := h (rsA g y ρ1) kk f2 i2 k4'
  simp only [cfine, Bool.and_eq_true] at hf
  exact RelP_agq (n := g) (ρ2 := rsA g y ρ1) (ρ := ρ1) ag h1 hf.1 h2 hf.2.1 hh
end ARR
/-! ===== any one of the drives, while it boots: what is set stands apart ===== -/
noncomputable def zb43 : Option sE := ca 1 156 (.arg 64321) []
noncomputable def zb229 : Option sE := ca 1 640 (.old (.add (.sub (.arg 1308) (.index 160)) (.add (.mul (.sub (.index 0) (.index 160)) (.index 64353)) (.index 8673)))) []
noncomputable def zb231 : Option sE := ca 0 4 (.arg 24416) [(.arg 1308, .arg 1554)]
noncomputable def zb233 : Option sE := ca 0 4 (.arg 24448) [(.arg 1308, .arg 1586)]
noncomputable def zb235 : Option sE := ca 0 4 (.arg 24480) [(.arg 1308, .arg 1430)]
noncomputable def zb259 : Option sE := ca 0 4 (.arg 23296) [(.arg 1308, .arg 20064)]
noncomputable def zb260 : Option sE := ca 0 4 (.arg 23328) [(.arg 1308, .arg 20192)]
noncomputable def zb262 : Option sE := ca 2 4 (.arg 8514) [(.arg 1308, .arg 5314)]
noncomputable def zb263 : Option sE := ca 2 4 (.arg 8546) [(.arg 1308, .arg 5442)]
noncomputable def zb265 : Option sE := ca 1 4 (.arg 8705) [(.arg 1308, .arg 5313)]
noncomputable def zb266 : Option sE := ca 1 4 (.arg 8737) [(.arg 1308, .arg 9185)]
noncomputable def zb268 : Option sE := ca 1 4 (.arg 8801) [(.arg 1308, .arg 9217)]
noncomputable def zb269 : Option sE := ca 1 4 (.arg 8833) [(.arg 1308, .arg 9249)]
noncomputable def zb273 : Option sE := ca 2 4 (.arg 8642) [(.arg 1308, .arg 5698)]
noncomputable def zb275 : Option sE := ca 2 4 (.arg 8674) [(.arg 1308, .arg 5826)]
noncomputable def zb277 : Option sE := ca 2 4 (.arg 8706) [(.arg 1308, .arg 5954)]
noncomputable def zb279 : Option sE := ca 2 4 (.arg 8738) [(.arg 1308, .arg 6082)]
noncomputable def zb280 : Option sE := ca 2 4 (.arg 8770) [(.arg 1308, .arg 6210)]
noncomputable def zb288 : Option sE := ca 2 4 (.arg 8834) [(.arg 1308, .arg 9346)]
noncomputable def zb291 : Option sE := ca 0 4 (.arg 23648) [(.arg 1308, .arg 1574)]
noncomputable def zb293 : Option sE := ca 0 4 (.arg 23680) [(.arg 1308, .arg 1702)]
noncomputable def zb294 : Option sE := ca 2 4 (.arg 8866) [(.arg 1308, .arg 9314)]
noncomputable def zb312 : Option sE := ca 0 4 (.arg 23936) [(.arg 1308, .arg 21728)]
noncomputable def zb327 : Option sE := ca 2 4 (.arg 9154) [(.arg 1308, .arg 9250)]
noncomputable def zb332 : Option sE := ca 2 4 (.arg 9186) [(.arg 1308, .arg 9282)]
noncomputable def zyb_3_4 : TT (Option sE) 3 := (tp (tp (tp (show TT (Option sE) 0 from zc32) (show TT (Option sE) 0 from zc33)) (tp (show TT (Option sE) 0 from zc34) (show TT (Option sE) 0 from zc35))) (tp (tp (show TT (Option sE) 0 from zc36) (show TT (Option sE) 0 from zc37)) (tp (show TT (Option sE) 0 from zc38) (show TT (Option sE) 0 from zv39))))
noncomputable def zyb_3_5 : TT (Option sE) 3 := (tp (tp (tp (show TT (Option sE) 0 from zc40) (show TT (Option sE) 0 from zc41)) (tp (show TT (Option sE) 0 from zv42) (show TT (Option sE) 0 from zb43))) (tp (tp (show TT (Option sE) 0 from zc44) (show TT (Option sE) 0 from zc45)) (tp (show TT (Option sE) 0 from zc46) (show TT (Option sE) 0 from zc47))))
noncomputable def zyb_3_28 : TT (Option sE) 3 := (tp (tp (tp (show TT (Option sE) 0 from zc224) (show TT (Option sE) 0 from zc225)) (tp (show TT (Option sE) 0 from zc226) (show TT (Option sE) 0 from zc227))) (tp (tp (show TT (Option sE) 0 from zc228) (show TT (Option sE) 0 from zb229)) (tp (show TT (Option sE) 0 from zv230) (show TT (Option sE) 0 from zb231))))
noncomputable def zyb_3_29 : TT (Option sE) 3 := (tp (tp (tp (show TT (Option sE) 0 from zv232) (show TT (Option sE) 0 from zb233)) (tp (show TT (Option sE) 0 from zv234) (show TT (Option sE) 0 from zb235))) (tp (tp (show TT (Option sE) 0 from zc236) (show TT (Option sE) 0 from zc237)) (tp (show TT (Option sE) 0 from zc238) (show TT (Option sE) 0 from zc239))))
noncomputable def zyb_3_32 : TT (Option sE) 3 := (tp (tp (tp (show TT (Option sE) 0 from zc256) (show TT (Option sE) 0 from zc257)) (tp (show TT (Option sE) 0 from zc258) (show TT (Option sE) 0 from zb259))) (tp (tp (show TT (Option sE) 0 from zb260) (show TT (Option sE) 0 from zv261)) (tp (show TT (Option sE) 0 from zb262) (show TT (Option sE) 0 from zb263))))
noncomputable def zyb_3_33 : TT (Option sE) 3 := (tp (tp (tp (show TT (Option sE) 0 from zv264) (show TT (Option sE) 0 from zb265)) (tp (show TT (Option sE) 0 from zb266) (show TT (Option sE) 0 from zv267))) (tp (tp (show TT (Option sE) 0 from zb268) (show TT (Option sE) 0 from zb269)) (tp (show TT (Option sE) 0 from zv270) (show TT (Option sE) 0 from zv271))))
noncomputable def zyb_3_34 : TT (Option sE) 3 := (tp (tp (tp (show TT (Option sE) 0 from zv272) (show TT (Option sE) 0 from zb273)) (tp (show TT (Option sE) 0 from zv274) (show TT (Option sE) 0 from zb275))) (tp (tp (show TT (Option sE) 0 from zv276) (show TT (Option sE) 0 from zb277)) (tp (show TT (Option sE) 0 from zv278) (show TT (Option sE) 0 from zb279))))
noncomputable def zyb_3_35 : TT (Option sE) 3 := (tp (tp (tp (show TT (Option sE) 0 from zb280) (show TT (Option sE) 0 from zv281)) (tp (show TT (Option sE) 0 from zv282) (show TT (Option sE) 0 from zv283))) (tp (tp (show TT (Option sE) 0 from zv284) (show TT (Option sE) 0 from zv285)) (tp (show TT (Option sE) 0 from zv286) (show TT (Option sE) 0 from zv287))))
noncomputable def zyb_3_36 : TT (Option sE) 3 := (tp (tp (tp (show TT (Option sE) 0 from zb288) (show TT (Option sE) 0 from zv289)) (tp (show TT (Option sE) 0 from zv290) (show TT (Option sE) 0 from zb291))) (tp (tp (show TT (Option sE) 0 from zv292) (show TT (Option sE) 0 from zb293)) (tp (show TT (Option sE) 0 from zb294) (show TT (Option sE) 0 from zv295))))
noncomputable def zyb_3_37 : TT (Option sE) 3 := (tp (tp (tp (show TT (Option sE) 0 from zv296) (show TT (Option sE) 0 from zv297)) (tp (show TT (Option sE) 0 from zv298) (show TT (Option sE) 0 from zv299))) (tp (tp (show TT (Option sE) 0 from zv300) (show TT (Option sE) 0 from zv301)) (tp (show TT (Option sE) 0 from zv302) (show TT (Option sE) 0 from zv303))))
noncomputable def zyb_3_38 : TT (Option sE) 3 := (tp (tp (tp (show TT (Option sE) 0 from zv304) (show TT (Option sE) 0 from zv305)) (tp (show TT (Option sE) 0 from zv306) (show TT (Option sE) 0 from zv307))) (tp (tp (show TT (Option sE) 0 from zv308) (show TT (Option sE) 0 from zv309)) (tp (show TT (Option sE) 0 from zv310) (show TT (Option sE) 0 from zv311))))
noncomputable def zyb_3_39 : TT (Option sE) 3 := (tp (tp (tp (show TT (Option sE) 0 from zb312) (show TT (Option sE) 0 from zv313)) (tp (show TT (Option sE) 0 from zv314) (show TT (Option sE) 0 from zv315))) (tp (tp (show TT (Option sE) 0 from zv316) (show TT (Option sE) 0 from zv317)) (tp (show TT (Option sE) 0 from zv318) (show TT (Option sE) 0 from zv319))))
noncomputable def zyb_3_40 : TT (Option sE) 3 := (tp (tp (tp (show TT (Option sE) 0 from zv320) (show TT (Option sE) 0 from zv321)) (tp (show TT (Option sE) 0 from zv322) (show TT (Option sE) 0 from zv323))) (tp (tp (show TT (Option sE) 0 from zv324) (show TT (Option sE) 0 from zv325)) (tp (show TT (Option sE) 0 from zv326) (show TT (Option sE) 0 from zb327))))
noncomputable def zyb_3_41 : TT (Option sE) 3 := (tp (tp (tp (show TT (Option sE) 0 from zv328) (show TT (Option sE) 0 from zv329)) (tp (show TT (Option sE) 0 from zv330) (show TT (Option sE) 0 from zv331))) (tp (tp (show TT (Option sE) 0 from zb332) (show TT (Option sE) 0 from zv333)) (tp (show TT (Option sE) 0 from zc334) (show TT (Option sE) 0 from zc335))))
noncomputable def zyb_6_0 : TT (Option sE) 6 := (tp (tp (tp zt3_0 zt3_1) (tp zt3_2 zt3_3)) (tp (tp zyb_3_4 zyb_3_5) (tp zt3_6 zt3_7)))
noncomputable def zyb_6_3 : TT (Option sE) 6 := (tp (tp (tp zt3_24 zt3_25) (tp zt3_26 zt3_27)) (tp (tp zyb_3_28 zyb_3_29) (tp zt3_30 zt3_31)))
noncomputable def zyb_6_4 : TT (Option sE) 6 := (tp (tp (tp zyb_3_32 zyb_3_33) (tp zyb_3_34 zyb_3_35)) (tp (tp zyb_3_36 zyb_3_37) (tp zyb_3_38 zyb_3_39)))
noncomputable def zyb_6_5 : TT (Option sE) 6 := (tp (tp (tp zyb_3_40 zyb_3_41) (tp zt3_42 zt3_43)) (tp (tp zt3_44 zt3_45) (tp zt3_46 zt3_47)))
noncomputable def zWB : sH := ((tp (tp (tp zyb_6_0 zt6_1) (tp zt6_2 zyb_6_3)) (tp (tp zyb_6_4 zyb_6_5) (tp zt6_6 zt6_7))), 349)
theorem af_r : (List.range 4).all (fun d => (List.range 156).all (fun p => decide (-9223372036854775808 ≤ afst (d : Nat) p) && decide (afst (d : Nat) p ≤ 9223372036854775807))) = true := by decide +kernel
theorem af_i {d : Int} (h0 : 0 ≤ d) (h4 : d < 4) {p : Nat} (hp : p < 156) : (Int64.ofInt (afst d p)).toInt = afst d p := by
  have h := List.all_eq_true.mp (List.all_eq_true.mp af_r d.toNat (List.mem_range.mpr (by omega))) p (List.mem_range.mpr hp)
  rw [show ((d.toNat : Nat) : Int) = d by omega] at h
  simp only [Bool.and_eq_true, decide_eq_true_eq] at h
  exact Int64.toInt_ofInt_of_le (by have : Int64.minValue.toInt = -9223372036854775808 := by decide +kernel
                                    omega) (by omega)
theorem k154 {X : pX} {ρ : sR} {a e : Nat} {n : sT} (ha : a % 2 = 1) (hn : sk n = 0) : sc X ρ (154, .add (.elem (.arg a) (.int 0)) (.arg e), n) = true ↔ ∀ j : Nat, (j : Int) < (sd X ρ n).1.toInt → (ρ.2.2.2.1 a j).toInt = afst (if sk (.arg e) = 1 then (sd X ρ (.arg e)).2.toInt else (sd X ρ (.arg e)).1.toInt) j := by
  have e1 : aarr ρ (.elem (.arg a) (.int 0)) = (fun _ => 0, ρ.2.2.2.1 a) := by
    unfold aarr
    simp only []
    rw [if_pos ha]
  have e2 : sn X ρ n = (sd X ρ n).1.toInt := by
    unfold sn
    rw [if_neg (by rw [hn]; decide)]
  show apred 154 [(aarr ρ (.elem (.arg a) (.int 0)), _), (aarr ρ (.arg e), _)] (sn X ρ n) = true ↔ _
  rw [e1, e2]
  show ((List.range (sd X ρ n).1.toInt.toNat).all (fun j => decide ((ρ.2.2.2.1 a j).toInt = afst (if sk (.arg e) = 1 then (sd X ρ (.arg e)).2.toInt else (sd X ρ (.arg e)).1.toInt) j))) = true ↔ _
  simp only [List.all_eq_true, List.mem_range, decide_eq_true_eq]
  exact ⟨fun h j hj => h j (by omega), fun h j hj => h j (by omega)⟩
theorem d_r {X : pX} {ρ : sR} (hv : vok X ρ) : 0 ≤ (ρ.1 1308).toInt ∧ (ρ.1 1308).toInt < 4 := by
  have h : 0 ≤ (ρ.1 1308).toInt ∧ (ρ.1 1308).toInt ≤ 3 := hv.1 1308 (0, 3) rfl
  omega
theorem af_1 {d : Int} : afst d 1 = 0 := by
  unfold afst
  rw [if_neg (by decide +kernel), if_pos (by decide +kernel)]
  decide +kernel
theorem af_114 {d : Int} : afst d 114 = 0 := by
  unfold afst
  rw [if_neg (by decide +kernel), if_pos (by decide +kernel)]
  decide +kernel
