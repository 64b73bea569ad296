/-! ===== cases of patterns ===== -/
/-- what the variables stand for: numbers; arrays (base and stores) -/
abbrev sM : Type := List (Nat × sT) × List (Nat × sT × List (sT × sT))
noncomputable def fnd {α : Type} (i : Nat) (l : List (Nat × α)) : Option α := @List.rec (Nat × α) (fun _ => Option α) none (fun q _ ih => bif Nat.beq q.1 i then some q.2 else ih) l
theorem fnd_eq {α : Type} (i : Nat) : ∀ l : List (Nat × α), fnd i l = (match l.find? (fun q => q.1 == i) with
    | some q => some q.2
    | none => none)
  | [] => rfl
  | q :: r => by
    rw [List.find?_cons]
    show (bif Nat.beq q.1 i then some q.2 else fnd i r) = _
    cases h : Nat.beq q.1 i with
    | true =>
      have e : (q.1 == i) = true := by rw [Nat.eq_of_beq_eq_true h]; exact beq_self_eq_true i
      rw [e]
      rfl
    | false =>
      have e : (q.1 == i) = false := by
        cases h9 : q.1 == i with
        | false => rfl
        | true => rw [eq_of_beq h9, Nat.beq_refl] at h; cases h
      rw [e]
      exact fnd_eq i r
/-- what may be set, as bits (by the number's rest) -/
noncomputable def msk {α : Type} (l : List (Nat × α)) : Nat := @List.rec (Nat × α) (fun _ => Nat) 0 (fun q _ ih => Nat.lor (Nat.shiftLeft 1 (Nat.mod q.1 2039)) ih) l
theorem msk_no {α : Type} {i : Nat} : ∀ {l : List (Nat × α)}, Nat.beq (Nat.land 1 (Nat.shiftRight (msk l) (Nat.mod i 2039))) 0 = true → fnd i l = none
  | [], _ => rfl
  | q :: r, h => by
    have h0 : (msk (q :: r)).testBit (i % 2039) = false := by
      unfold Nat.testBit
      have e : 1 &&& (msk (q :: r) >>> (i % 2039)) = 0 := Nat.eq_of_beq_eq_true h
      rw [e]
      rfl
    have e0 : msk (q :: r) = (1 <<< (q.1 % 2039)) ||| msk r := rfl
    rw [e0, Nat.testBit_or, Bool.or_eq_false_iff] at h0
    have hn : Nat.beq q.1 i = false := by
      cases hq : Nat.beq q.1 i with
      | false => rfl
      | true =>
        have e := Nat.eq_of_beq_eq_true hq
        have h1 := h0.1
        rw [e, Nat.testBit_shiftLeft] at h1
        simp at h1
    have hr : Nat.beq (Nat.land 1 (Nat.shiftRight (msk r) (Nat.mod i 2039))) 0 = true := by
      have h2 := h0.2
      unfold Nat.testBit at h2
      have e : 1 &&& (msk r >>> (i % 2039)) = 0 := by simpa using h2
      show Nat.beq (1 &&& (msk r >>> (i % 2039))) 0 = true
      rw [e]
      rfl
    show (bif Nat.beq q.1 i then some q.2 else fnd i r) = none
    rw [hn]
    exact msk_no hr
noncomputable def mfnd {α : Type} (i : Nat) (l : List (Nat × α)) : Option α := @List.rec (Nat × α) (fun _ => Option α) none (fun _ _ _ => @Bool.rec (fun _ => Option α) (fnd i l) none (Nat.beq (Nat.land 1 (Nat.shiftRight (msk l) (Nat.mod i 2039))) 0)) l
theorem mfnd_eq {α : Type} (i : Nat) (l : List (Nat × α)) : mfnd i l = fnd i l := by
  cases l with
  | nil => rfl
  | cons q r =>
    show @Bool.rec (fun _ => Option α) (fnd i (q :: r)) none (Nat.beq (Nat.land 1 (Nat.shiftRight (msk (q :: r)) (Nat.mod i 2039))) 0) = _
    cases h : Nat.beq (Nat.land 1 (Nat.shiftRight (msk (q :: r)) (Nat.mod i 2039))) 0 with
    | false => rfl
    | true => exact (msk_no h).symm
noncomputable def sfnd (σ : sM) (i : Nat) : Option sT := mfnd i σ.1
noncomputable def afnd (σ : sM) (a : Nat) : Option (sT × List (sT × sT)) := mfnd a σ.2
theorem sfnd_def (σ : sM) (i : Nat) : sfnd σ i = (match σ.1.find? (fun q => q.1 == i) with
    | some q => some q.2
    | none => none) := by
  unfold sfnd
  rw [mfnd_eq, fnd_eq]
  cases σ.1.find? (fun q => q.1 == i) <;> rfl
theorem afnd_def (σ : sM) (a : Nat) : afnd σ a = (match σ.2.find? (fun q => q.1 == a) with
    | some q => some q.2
    | none => none) := by
  unfold afnd
  rw [mfnd_eq, fnd_eq]
  cases σ.2.find? (fun q => q.1 == a) <;> rfl
theorem afnd_nil {l : List (Nat × sT)} {a : Nat} : afnd (l, []) a = none := by
  rw [afnd_def]
  rfl
theorem sfnd_nil {l : List (Nat × sT × List (sT × sT))} {a : Nat} : sfnd ([], l) a = none := by
  rw [sfnd_def]
  rfl
noncomputable def vi (v : Value) : Int32 := match v with
  | .int x => x
  | _ => 0
noncomputable def vl (v : Value) : Int64 := match v with
  | .long x => x
  | _ => 0
noncomputable def rsub (X : pX) (ρ : sR) (σ : sM) : sR :=
  (fun i => match sfnd σ i with
    | some u => (sd X ρ u).1
    | none => ρ.1 i,
   fun i => match sfnd σ i with
    | some u => (sd X ρ u).2
    | none => ρ.2.1 i,
   fun a j => match afnd σ a with
    | some b => vi (aden X ρ b.1 b.2 j)
    | none => ρ.2.2.1 a j,
   fun a j => match afnd σ a with
    | some b => vl (aden X ρ b.1 b.2 j)
    | none => ρ.2.2.2.1 a j,
   ρ.2.2.2.2)
noncomputable def ssub (σ : sM) (t : sT) : sT := @Jvm.Term.rec (fun _ => sM → sT) (fun i _ => (match sfnd σ i with
    | some u => u
    | none => .arg i)) (fun v _ => .int v) (fun v _ => .long v) (fun _ => .null) (fun k _ => .index k) (fun t c n d _ _ => .field t c n d) (fun c n d _ => .static c n d) (fun c i _ => .string c i) (fun c _ => .mirror c) (fun t _ _ => .length t) (fun t _ _ hi _ => .elem t (hi σ)) (fun _ _ ha hb _ => .add (ha σ) (hb σ)) (fun _ _ ha hb _ => .sub (ha σ) (hb σ)) (fun _ _ ha hb _ => .mul (ha σ) (hb σ)) (fun _ _ ha hb _ => .div (ha σ) (hb σ)) (fun _ _ ha hb _ => .rem (ha σ) (hb σ)) (fun o _ _ ha hb _ => .op2 o (ha σ) (hb σ)) (fun o _ ha _ => .op1 o (ha σ)) (fun t _ _ => .sum t) (fun _ => .result) (fun _ => .thrown) (fun t _ _ => .old t) t σ
theorem ssub_arg {σ : sM} {i : Nat} : ssub σ (.arg i) = (match sfnd σ i with
    | some u => u
    | none => .arg i) := rfl
theorem ssub_int {σ : sM} {v : Int32} : ssub σ (.int v) = (.int v) := rfl
theorem ssub_long {σ : sM} {v : Int64} : ssub σ (.long v) = (.long v) := rfl
theorem ssub_null {σ : sM} : ssub σ (.null) = (.null) := rfl
theorem ssub_index {σ : sM} {k : Nat} : ssub σ (.index k) = (.index k) := rfl
theorem ssub_field {σ : sM} {t : sT} {c : String} {n : String} {d : String} : ssub σ (.field t c n d) = (.field t c n d) := rfl
theorem ssub_static {σ : sM} {c : String} {n : String} {d : String} : ssub σ (.static c n d) = (.static c n d) := rfl
theorem ssub_string {σ : sM} {c : String} {i : Nat} : ssub σ (.string c i) = (.string c i) := rfl
theorem ssub_mirror {σ : sM} {c : String} : ssub σ (.mirror c) = (.mirror c) := rfl
theorem ssub_length {σ : sM} {t : sT} : ssub σ (.length t) = (.length t) := rfl
theorem ssub_elem {σ : sM} {t : sT} {i : sT} : ssub σ (.elem t i) = (.elem t (ssub σ i)) := rfl
theorem ssub_add {σ : sM} {a : sT} {b : sT} : ssub σ (.add a b) = (.add (ssub σ a) (ssub σ b)) := rfl
theorem ssub_sub {σ : sM} {a : sT} {b : sT} : ssub σ (.sub a b) = (.sub (ssub σ a) (ssub σ b)) := rfl
theorem ssub_mul {σ : sM} {a : sT} {b : sT} : ssub σ (.mul a b) = (.mul (ssub σ a) (ssub σ b)) := rfl
theorem ssub_div {σ : sM} {a : sT} {b : sT} : ssub σ (.div a b) = (.div (ssub σ a) (ssub σ b)) := rfl
theorem ssub_rem {σ : sM} {a : sT} {b : sT} : ssub σ (.rem a b) = (.rem (ssub σ a) (ssub σ b)) := rfl
theorem ssub_op2 {σ : sM} {o : Binary} {a : sT} {b : sT} : ssub σ (.op2 o a b) = (.op2 o (ssub σ a) (ssub σ b)) := rfl
theorem ssub_op1 {σ : sM} {o : Unary} {a : sT} : ssub σ (.op1 o a) = (.op1 o (ssub σ a)) := rfl
theorem ssub_sum {σ : sM} {t : sT} : ssub σ (.sum t) = (.sum t) := rfl
theorem ssub_result {σ : sM} : ssub σ (.result) = (.result) := rfl
theorem ssub_thrown {σ : sM} : ssub σ (.thrown) = (.thrown) := rfl
theorem ssub_old {σ : sM} {t : sT} : ssub σ (.old t) = (.old t) := rfl
noncomputable def skstr (t : sT) : Bool := @Jvm.Term.rec (fun _ => Bool) (fun _ => false) (fun _ => false) (fun _ => false) (false) (fun _ => false) (fun _ _ _ _ _ => false) (fun _ _ _ => false) (fun _ _ => true) (fun _ => false) (fun _ _ => false) (fun _ _ _ _ => false) (fun _ _ _ _ => false) (fun _ _ _ _ => false) (fun _ _ _ _ => false) (fun _ _ _ _ => false) (fun _ _ _ _ => false) (fun _ _ _ _ _ => false) (fun _ _ _ => false) (fun _ _ => false) (false) (false) (fun _ _ => false) t
noncomputable def scl (t : sT) : Bool := @Jvm.Term.rec (fun _ => Bool) (fun _ => true) (fun _ => true) (fun _ => true) (true) (fun _ => true) (fun _ _ _ _ _ => false) (fun _ _ _ => false) (fun _ _ => true) (fun _ => false) (fun t _ => skstr t) (fun t _ _ hi => skstr t && hi) (fun _ _ ha hb => ha && hb) (fun _ _ ha hb => ha && hb) (fun _ _ ha hb => ha && hb) (fun _ _ ha hb => ha && hb) (fun _ _ ha hb => ha && hb) (fun _ _ _ ha hb => ha && hb) (fun _ _ ha => ha) (fun _ _ => false) (false) (false) (fun _ _ => false) t
theorem scl_arg  {i : Nat} : scl (.arg i) = (true) := rfl
theorem scl_int  {v : Int32} : scl (.int v) = (true) := rfl
theorem scl_long  {v : Int64} : scl (.long v) = (true) := rfl
theorem scl_null  : scl (.null) = (true) := rfl
theorem scl_index  {k : Nat} : scl (.index k) = (true) := rfl
theorem scl_field  {t : sT} {c : String} {n : String} {d : String} : scl (.field t c n d) = (false) := rfl
theorem scl_static  {c : String} {n : String} {d : String} : scl (.static c n d) = (false) := rfl
theorem scl_string  {c : String} {i : Nat} : scl (.string c i) = (true) := rfl
theorem scl_mirror  {c : String} : scl (.mirror c) = (false) := rfl
theorem scl_length  {t : sT} : scl (.length t) = (match t with
    | .string _ _ => true
    | _ => false) := by cases t <;> rfl
theorem scl_elem  {t : sT} {i : sT} : scl (.elem t i) = (match t with
    | .string _ _ => scl i
    | _ => false) := by cases t <;> first | rfl | (cases i <;> rfl)
theorem scl_add  {a : sT} {b : sT} : scl (.add a b) = (scl a && scl b) := rfl
theorem scl_sub  {a : sT} {b : sT} : scl (.sub a b) = (scl a && scl b) := rfl
theorem scl_mul  {a : sT} {b : sT} : scl (.mul a b) = (scl a && scl b) := rfl
theorem scl_div  {a : sT} {b : sT} : scl (.div a b) = (scl a && scl b) := rfl
theorem scl_rem  {a : sT} {b : sT} : scl (.rem a b) = (scl a && scl b) := rfl
theorem scl_op2  {o : Binary} {a : sT} {b : sT} : scl (.op2 o a b) = (scl a && scl b) := rfl
theorem scl_op1  {o : Unary} {a : sT} : scl (.op1 o a) = (scl a) := rfl
theorem scl_sum  {t : sT} : scl (.sum t) = (false) := rfl
theorem scl_result  : scl (.result) = (false) := rfl
theorem scl_thrown  : scl (.thrown) = (false) := rfl
theorem scl_old  {t : sT} : scl (.old t) = (false) := rfl
theorem aarr_scl {ρ : sR} {t : sT} (h : scl t = true) : aarr ρ t = (fun _ => 0, fun _ => 0) := by
  cases t with
  | elem x i => cases x <;> first | rfl | (cases h; done)
  | _ => rfl
/-- a number for a number, a long for a long; no known array is renamed -/
noncomputable def sMok (K : sK) (σ : sM) : Bool := σ.1.all (fun q => sk q.2 == q.1 % 2) && σ.2.all (fun q => (K.2.2.1 q.1).isNone && ((match q.2.1 with
  | .arg b => b % 2 == q.1 % 2
  | t => sk t == q.1 % 2) && q.2.2.all (fun u => sk u.2 == q.1 % 2)))
theorem sfnd_k {K : sK} {σ : sM} (h : sMok K σ = true) {i : Nat} {u : sT} (hf : sfnd σ i = some u) : sk u = i % 2 := by
  rw [sfnd_def] at hf
  split at hf
  · next q hq =>
    cases hf
    have h1 := List.mem_of_find?_eq_some hq
    have h2 := List.find?_some hq
    simp only [beq_iff_eq] at h2
    simp only [sMok, Bool.and_eq_true, List.all_eq_true, beq_iff_eq] at h
    rw [h.1 q h1, h2]
  · cases hf
theorem ssub_k {K : sK} {σ : sM} (h : sMok K σ = true) : ∀ t : sT, sk (ssub σ t) = sk t
  | .arg i => by
    simp only [ssub_arg, ssub_int, ssub_long, ssub_null, ssub_index, ssub_field, ssub_static, ssub_string, ssub_mirror, ssub_length, ssub_elem, ssub_add, ssub_sub, ssub_mul, ssub_div, ssub_rem, ssub_op2, ssub_op1, ssub_sum, ssub_result, ssub_thrown, ssub_old]
    split
    · next u hu => exact sfnd_k h hu
    · rfl
  | .int _ => rfl
  | .long _ => rfl
  | .null => rfl
  | .index _ => rfl
  | .field _ _ _ _ => rfl
  | .static _ _ _ => rfl
  | .string _ _ => rfl
  | .mirror _ => rfl
  | .length _ => rfl
  | .elem _ _ => rfl
  | .add _ _ => rfl
  | .sub _ _ => rfl
  | .mul _ _ => rfl
  | .div _ _ => rfl
  | .rem _ _ => rfl
  | .op2 _ _ _ => rfl
  | .op1 _ _ => rfl
  | .sum _ => rfl
  | .result => rfl
  | .thrown => rfl
  | .old _ => rfl
theorem ssub_d {X : pX} {ρ : sR} {σ : sM} : ∀ t : sT, scl t = true → sd X ρ (ssub σ t) = sd X (rsub X ρ σ) t := by
  intro t
  induction t with
  | arg i =>
    intro _
    simp only [ssub_arg, ssub_int, ssub_long, ssub_null, ssub_index, ssub_field, ssub_static, ssub_string, ssub_mirror, ssub_length, ssub_elem, ssub_add, ssub_sub, ssub_mul, ssub_div, ssub_rem, ssub_op2, ssub_op1, ssub_sum, ssub_result, ssub_thrown, ssub_old, sd, rsub]
    cases sfnd σ i <;> rfl
  | int v => intro _; rfl
  | long v => intro _; rfl
  | add a b iha ihb | sub a b iha ihb | mul a b iha ihb | div a b iha ihb | rem a b iha ihb =>
    intro h
    simp only [scl_arg, scl_int, scl_long, scl_null, scl_index, scl_field, scl_static, scl_string, scl_mirror, scl_length, scl_elem, scl_add, scl_sub, scl_mul, scl_div, scl_rem, scl_op2, scl_op1, scl_sum, scl_result, scl_thrown, scl_old, Bool.and_eq_true] at h
    simp only [ssub_arg, ssub_int, ssub_long, ssub_null, ssub_index, ssub_field, ssub_static, ssub_string, ssub_mirror, ssub_length, ssub_elem, ssub_add, ssub_sub, ssub_mul, ssub_div, ssub_rem, ssub_op2, ssub_op1, ssub_sum, ssub_result, ssub_thrown, ssub_old, sd, iha h.1, ihb h.2]
  | op2 o a b iha ihb =>
    intro h
    simp only [scl_arg, scl_int, scl_long, scl_null, scl_index, scl_field, scl_static, scl_string, scl_mirror, scl_length, scl_elem, scl_add, scl_sub, scl_mul, scl_div, scl_rem, scl_op2, scl_op1, scl_sum, scl_result, scl_thrown, scl_old, Bool.and_eq_true] at h
    simp only [ssub_arg, ssub_int, ssub_long, ssub_null, ssub_index, ssub_field, ssub_static, ssub_string, ssub_mirror, ssub_length, ssub_elem, ssub_add, ssub_sub, ssub_mul, ssub_div, ssub_rem, ssub_op2, ssub_op1, ssub_sum, ssub_result, ssub_thrown, ssub_old, sd, iha h.1, ihb h.2]
  | op1 o a iha =>
    intro h
    simp only [scl_arg, scl_int, scl_long, scl_null, scl_index, scl_field, scl_static, scl_string, scl_mirror, scl_length, scl_elem, scl_add, scl_sub, scl_mul, scl_div, scl_rem, scl_op2, scl_op1, scl_sum, scl_result, scl_thrown, scl_old] at h
    simp only [ssub_arg, ssub_int, ssub_long, ssub_null, ssub_index, ssub_field, ssub_static, ssub_string, ssub_mirror, ssub_length, ssub_elem, ssub_add, ssub_sub, ssub_mul, ssub_div, ssub_rem, ssub_op2, ssub_op1, ssub_sum, ssub_result, ssub_thrown, ssub_old, sd, iha h]
  | elem t i _ ihi =>
    intro h
    cases t <;> simp only [scl_arg, scl_int, scl_long, scl_null, scl_index, scl_field, scl_static, scl_string, scl_mirror, scl_length, scl_elem, scl_add, scl_sub, scl_mul, scl_div, scl_rem, scl_op2, scl_op1, scl_sum, scl_result, scl_thrown, scl_old] at h <;> first | (cases h; done) | (simp only [ssub_arg, ssub_int, ssub_long, ssub_null, ssub_index, ssub_field, ssub_static, ssub_string, ssub_mirror, ssub_length, ssub_elem, ssub_add, ssub_sub, ssub_mul, ssub_div, ssub_rem, ssub_op2, ssub_op1, ssub_sum, ssub_result, ssub_thrown, ssub_old, sd, ihi h])
  | length t _ =>
    intro h
    cases t <;> first | rfl | (cases h; done)
  | _ => intro h; first | rfl | (cases h; done)
theorem aits_one {X : pX} {ρ : sR} {t : sT} (h : ∀ a b, t ≠ .add a b) : aits X ρ t = [(aarr ρ t, sn X ρ t)] := by
  cases t <;> first | rfl | exact absurd rfl (h _ _)
theorem aits_sub {X : pX} {ρ : sR} {σ : sM} : ∀ t : sT, scl t = true → ssub σ t = t → aits X (rsub X ρ σ) t = aits X ρ t := by
  have one : ∀ t : sT, scl t = true → ssub σ t = t → sn X (rsub X ρ σ) t = sn X ρ t := fun t h e => by
    unfold sn
    rw [← ssub_d t h, e]
  have other : ∀ t : sT, (∀ a b, t ≠ .add a b) → scl t = true → ssub σ t = t → aits X (rsub X ρ σ) t = aits X ρ t := fun t h0 h e => by
    rw [aits_one h0, aits_one h0, one t h e, aarr_scl h, aarr_scl h]
  intro t
  induction t with
  | add a b _ ihb =>
    intro h e
    have h : (scl a && scl b) = true := h
    rw [Bool.and_eq_true] at h
    have e : Jvm.Term.add (ssub σ a) (ssub σ b) = .add a b := e
    injection e with e1 e2
    show (aarr (rsub X ρ σ) a, sn X (rsub X ρ σ) a) :: aits X (rsub X ρ σ) b = (aarr ρ a, sn X ρ a) :: aits X ρ b
    rw [one a h.1 e1, aarr_scl h.1, aarr_scl h.1, ihb h.2 e2]
  | _ => exact fun h e => other _ (fun _ _ e => by cases e) h e
theorem ssub_v {X : pX} {ρ : sR} {K : sK} {σ : sM} (h : sMok K σ = true) (t : sT) (ht : scl t = true) : sv X ρ (ssub σ t) = sv X (rsub X ρ σ) t := by
  have h1 := ssub_d (X := X) (ρ := ρ) (σ := σ) t ht
  have h2 := ssub_k h t
  by_cases h0 : sk t = 0
  · rw [sv_int h0, sv_int (h2.trans h0), h1]
  · by_cases h9 : sk t = 1
    · rw [sv_long h9, sv_long (h2.trans h9), h1]
    · cases t with
      | arg i => exfalso; simp only [sk] at h0 h9; omega
      | index k => rfl
      | string c i => rfl
      | null => rfl
      | op2 o a b =>
        show (if sk2 o = 1 then Value.long (sd X ρ (ssub σ (.op2 o a b))).2 else .int (sd X ρ (ssub σ (.op2 o a b))).1) = _
        rw [h1]; rfl
      | op1 o a =>
        show (if sk1 o = 1 then Value.long (sd X ρ (ssub σ (.op1 o a))).2 else .int (sd X ρ (ssub σ (.op1 o a))).1) = _
        rw [h1]; rfl
      | elem a i => cases a <;> first | (cases ht; done) | exact absurd rfl h0
      | _ => exfalso; first | exact h0 rfl | exact h9 rfl | (cases ht; done)
noncomputable def slsub (σ : sM) (st : List sT) : List sT := st.map (ssub σ)
theorem slsub_v {X : pX} {ρ : sR} {K : sK} {σ : sM} (h : sMok K σ = true) {st : List sT} (hs : st.all scl = true) : dS X ρ (slsub σ st) = dS X (rsub X ρ σ) st := by
  unfold dS slsub
  rw [List.map_map]
  apply List.map_congr_left
  intro t ht
  exact ssub_v h t (List.all_eq_true.mp hs t ht)
/-- index and sub in one int: put together by or, or by a sum -/
noncomputable def tor (F : sFs) (a b : sT) : Bool := match a, b with
  | .op2 .ior x (.op2 .ishl y (.int 16)), .add x' (.mul y' (.int 65536)) => decide (x = x') && (decide (y = y') && (sk x == 0 && (sk y == 0 && (decide (0 ≤ (sivl F x).1) && (decide ((sivl F x).2 ≤ 65535) && (decide (0 ≤ (sivl F y).1) && decide ((sivl F y).2 ≤ 255)))))))
  | _, _ => false
theorem s_bits {x : Int32} {n : Nat} (h0 : 0 ≤ x.toInt) (h : x.toInt < 2 ^ n) : x.toBitVec.toNat < 2 ^ n := by
  have : x.toInt = x.toBitVec.toInt := rfl
  rw [this] at h0 h
  rw [BitVec.toInt_eq_toNat_cond] at h0 h
  split at h0
  · rename_i h9
    rw [if_pos h9] at h
    have e : ((x.toBitVec.toNat : Int) < ((2 ^ n : Nat) : Int)) := by simpa using h
    exact Int.ofNat_lt.mp e
  · have := x.toBitVec.isLt
    omega
theorem s_or16 {x y : Int32} (hx : 0 ≤ x.toInt) (hx2 : x.toInt ≤ 65535) (hy : 0 ≤ y.toInt) (hy2 : y.toInt ≤ 255) : x ||| (y <<< (16 &&& 31)) = x + y * 65536 := by
  have bx : x.toBitVec.toNat < 2 ^ 16 := s_bits hx (by omega)
  have b_y : y.toBitVec.toNat < 2 ^ 8 := s_bits hy (by omega)
  have e1 : (16 &&& 31 : Int32) = 16 := by decide
  rw [e1]
  apply Int32.toBitVec_inj.mp
  have e2 : (x ||| (y <<< (16 : Int32))).toBitVec = x.toBitVec ||| (y.toBitVec <<< 16) := by rfl
  have e3 : (x + y * 65536).toBitVec = x.toBitVec + y.toBitVec * 65536#32 := by rfl
  rw [e2, e3]
  apply BitVec.eq_of_toNat_eq
  rw [BitVec.toNat_or, BitVec.toNat_shiftLeft, BitVec.toNat_add, BitVec.toNat_mul, Nat.shiftLeft_eq]
  rw [show (65536#32).toNat = 65536 from rfl, show (2 : Nat) ^ 16 = 65536 from rfl]
  rw [Nat.mod_eq_of_lt (show y.toBitVec.toNat * 65536 < 2 ^ 32 by omega), Nat.mod_eq_of_lt (show x.toBitVec.toNat + y.toBitVec.toNat * 65536 < 2 ^ 32 by omega)]
  rw [Nat.or_comm, Nat.mul_comm _ 65536, Nat.add_comm]
  exact (Nat.two_pow_add_eq_or_of_lt (i := 16) bx y.toBitVec.toNat).symm
theorem tor_ok {X : pX} {ρ : sR} {F : sFs} (hF : fok X ρ F) {a b : sT} (h : tor F a b = true) : sv X ρ a = sv X ρ b := by
  unfold tor at h
  split at h
  · next x y x' y' =>
    simp only [Bool.and_eq_true, decide_eq_true_eq, beq_iff_eq] at h
    obtain ⟨rfl, rfl, k1, k2, h1, h2, h3, h4⟩ := h
    have i1 := sivl_ok hF x
    have i2 := sivl_ok hF y
    rw [sn_i k1] at i1
    rw [sn_i k2] at i2
    have := s_or16 (x := (sd X ρ x).1) (y := (sd X ρ y).1) (by omega) (by omega) (by omega) (by omega)
    have g1 : sv X ρ (.op2 .ior x (.op2 .ishl y (.int 16))) = .int ((sd X ρ x).1 ||| ((sd X ρ y).1 <<< (16 &&& 31))) := sv_int rfl
    have g2 : sv X ρ (.add x (.mul y (.int 65536))) = .int ((sd X ρ x).1 + (sd X ρ y).1 * 65536) := sv_int rfl
    exact g1.trans ((congrArg Value.int this).trans g2.symm)
  · cases h
/-- two terms are one, by the facts -/
noncomputable def teq (F : sFs) (a b : sT) : Bool := tqe a b || (tor F a b || (tor F b a || ((sk a == 0 && (sk b == 0 && decide (sdec F (0, a, b) = some true))) || (sk a == 1 && (sk b == 1 && decide (sdec F (6, a, b) = some true))))))
theorem teq_ok {X : pX} {ρ : sR} {F : sFs} (hF : fok X ρ F) {a b : sT} (h : teq F a b = true) : sv X ρ a = sv X ρ b := by
  simp only [teq, Bool.or_eq_true, Bool.and_eq_true, decide_eq_true_eq, beq_iff_eq] at h
  rcases h with h | h | h | ⟨h1, h2, h3⟩ | ⟨h1, h2, h3⟩
  · rw [tqe_ok _ _ h]
  · exact tor_ok hF h
  · exact (tor_ok hF h).symm
  · have h4 : decide ((sd X ρ a).1 = (sd X ρ b).1) = true := sdec_ok hF h3
    rw [sv_int h1, sv_int h2, of_decide_eq_true h4]
  · have h4 : decide ((sd X ρ a).2 = (sd X ρ b).2) = true := sdec_ok hF h3
    rw [sv_long h1, sv_long h2, of_decide_eq_true h4]
noncomputable def teqs (F : sFs) : List sT → List sT → Bool
  | [], [] => true
  | a :: x, b :: y => teq F a b && teqs F x y
  | _, _ => false
theorem teqs_ok {X : pX} {ρ : sR} {F : sFs} (hF : fok X ρ F) : ∀ {x y : List sT}, teqs F x y = true → x.map (sv X ρ) = y.map (sv X ρ)
  | [], [], _ => rfl
  | [], _ :: _, h => by cases h
  | _ :: _, [], h => by cases h
  | a :: x, b :: y, h => by
    simp only [teqs, Bool.and_eq_true] at h
    rw [List.map_cons, List.map_cons, teq_ok hF h.1, teqs_ok hF h.2]
/-- a frame is a case of the pattern's -/
noncomputable def finst (F : sFs) (σ : sM) (f0 f : sF) : Bool := match f0, f with
  | (k0, nL0, ret0, hs0, full0, cur0, lv0, st0), (k, nL, ret, hs, full, cur, lv, st) => decide (k0 = k) && (decide (nL0 = nL) && (teqs F (st0.map (ssub σ)) st && (st0.all scl && (lv0.all (fun q => scl q.2 && lv.any (fun z => decide (z.1 = q.1) && teq F (ssub σ q.2) z.2)) && (decide ((lv.map (fun q => q.1)).Nodup) && (decide (ret0 = ret) && (decide (hs0 = hs) && (opseq cur0 cur && opseq full0 full))))))))
theorem finst_ok {X : pX} {ρ : sR} {K : sK} {F : sFs} (hF : fok X ρ F) {σ : sM} (h : sMok K σ = true) {f0 f : sF} (hf : finst F σ f0 f = true) : fle X (rsub X ρ σ) ρ f0 f := by
  obtain ⟨k0, nL0, ret0, hs0, full0, cur0, lv0, st0⟩ := f0
  obtain ⟨k, nL, ret, hs, full, cur, lv, st⟩ := f
  simp only [finst, Bool.and_eq_true, decide_eq_true_eq] at hf
  obtain ⟨e1, e2, e3, e4, e5, e6, e7, e8, e9, e10⟩ := hf
  refine ⟨⟨e1, e2, e7, e8, opseq_ok e10, opseq_ok e9⟩, ?_, ?_, ?_⟩
  · intro q hq
    obtain ⟨z, hz, rfl⟩ := List.mem_map.mp hq
    have h1 := List.all_eq_true.mp e5 z hz
    simp only [Bool.and_eq_true, List.any_eq_true, decide_eq_true_eq] at h1
    obtain ⟨h2, w, hw, h3, h4⟩ := h1
    refine List.mem_map.mpr ⟨_, hw, ?_⟩
    rw [← teq_ok hF h4, ssub_v h z.2 h2, h3]
  · unfold lvnd dL
    rw [List.map_map]
    exact e6
  · dsimp only
    rw [← slsub_v h e4]
    exact teqs_ok hF e3
noncomputable def finsts (F : sFs) (σ : sM) : List sF → List sF → Bool
  | [], [] => true
  | f0 :: fs0, f :: fs => finst F σ f0 f && finsts F σ fs0 fs
  | _, _ => false
theorem finsts_ok {X : pX} {ρ : sR} {K : sK} {F : sFs} (hF : fok X ρ F) {σ : sM} (h : sMok K σ = true) : ∀ {fs0 fs : List sF}, finsts F σ fs0 fs = true → fles X (rsub X ρ σ) ρ fs0 fs
  | [], [], _ => trivial
  | [], _ :: _, hf => by cases hf
  | _ :: _, [], hf => by cases hf
  | f0 :: fs0, f :: fs, hf => by
    simp only [finsts, Bool.and_eq_true] at hf
    exact ⟨finst_ok hF h hf.1, finsts_ok hF h hf.2⟩
/-- two arrays are one: same base, and at every place stored to the same value -/
noncomputable def aeq1 (K : sK) (F : sFs) (b : sT) (u w : List (sT × sT)) (i : sT) : Bool := match ssel K F b i u, ssel K F b i w with
  | .inl x, .inl y => teq F x y
  | _, _ => false
noncomputable def upq : List (sT × sT) → List (sT × sT) → Bool
  | [], [] => true
  | a :: x, b :: y => tqe a.1 b.1 && (tqe a.2 b.2 && upq x y)
  | _, _ => false
theorem upq_ok : ∀ {x y : List (sT × sT)}, upq x y = true → x = y
  | [], [], _ => rfl
  | [], _ :: _, h => by cases h
  | _ :: _, [], h => by cases h
  | (a, a') :: x, (b, b') :: y, h => by
    simp only [upq, Bool.and_eq_true] at h
    rw [tqe_ok _ _ h.1, tqe_ok _ _ h.2.1, upq_ok h.2.2]
noncomputable def aeq (K : sK) (F : sFs) (p q : sT × List (sT × sT)) : Bool := (tqe p.1 q.1 && upq p.2 q.2) || (tqe p.1 q.1 && (p.2.all (fun u => aeq1 K F p.1 p.2 q.2 u.1) && q.2.all (fun u => aeq1 K F p.1 p.2 q.2 u.1)))
theorem aden_base {X : pX} {ρ : sR} {b : sT} {j : Nat} : ∀ (u : List (sT × sT)), (∀ x ∈ u, ¬ (sd X ρ x.1).1.toNatClampNeg = j) → aden X ρ b u j = bden X ρ b j
  | [], _ => rfl
  | x :: u, h => by
    unfold aden
    rw [if_neg (h x List.mem_cons_self)]
    exact aden_base u (fun y hy => h y (List.mem_cons_of_mem _ hy))
theorem aeq_ok {X : pX} {ρ : sR} {K : sK} {F : sFs} (hF : fok X ρ F) (hK : kok X ρ K) {p q : sT × List (sT × sT)} (hp : ∀ u ∈ p.2, ¬ (sd X ρ u.1).1 < 0) (hq : ∀ u ∈ q.2, ¬ (sd X ρ u.1).1 < 0) (h : aeq K F p q = true) (j : Nat) : aden X ρ p.1 p.2 j = aden X ρ q.1 q.2 j := by
  simp only [aeq, Bool.or_eq_true, decide_eq_true_eq, Bool.and_eq_true, List.all_eq_true] at h
  rcases h with ⟨ha, hb⟩ | ⟨hb, h1, h2⟩
  · rw [tqe_ok _ _ ha, upq_ok hb]
  · have hb := tqe_ok _ _ hb
    have at1 : ∀ i : sT, ¬ (sd X ρ i).1 < 0 → aeq1 K F p.1 p.2 q.2 i = true → (sd X ρ i).1.toNatClampNeg = j → aden X ρ p.1 p.2 j = aden X ρ q.1 q.2 j := by
      intro i hi ha hj
      unfold aeq1 at ha
      split at ha
      · next x y hx hy =>
        have g1 := ssel_ok hF hK hi p.2 x hp hx
        have g2 := ssel_ok hF hK hi q.2 y hq hy
        rw [hj] at g1 g2
        rw [← hb, ← g1, ← g2, teq_ok hF ha]
      · cases ha
    by_cases c1 : ∃ u ∈ p.2, (sd X ρ u.1).1.toNatClampNeg = j
    · obtain ⟨u, hu, hj⟩ := c1
      exact at1 u.1 (hp u hu) (h1 u hu) hj
    · by_cases c2 : ∃ u ∈ q.2, (sd X ρ u.1).1.toNatClampNeg = j
      · obtain ⟨u, hu, hj⟩ := c2
        exact at1 u.1 (hq u hu) (h2 u hu) hj
      · rw [aden_base p.2 (fun x hx e => c1 ⟨x, hx, e⟩), aden_base q.2 (fun x hx e => c2 ⟨x, hx, e⟩), hb]
/-- a cell is a case of the pattern's -/
noncomputable def cinst (K : sK) (F : sFs) (σ : sM) (e0 e : sE) : Bool := match e0, e with
  | .inl (t0, n0, b0, u0), .inl (t, n, b, u) => decide (t0 = t) && (decide (n0 = n) && (match b0 with
    | .arg a => match afnd σ a with
      | some p => decide (u0 = []) && (p.2.all (fun x => sk x.1 == 0 && decide (0 ≤ (sivl F x.1).1)) && aeq K F p (b, u))
      | none => decide (b = .arg a) && (decide (u0.map (fun x => (ssub σ x.1, ssub σ x.2)) = u) && u0.all (fun x => scl x.1 && scl x.2))
    | b0 => decide (ssub σ b0 = b) && (scl b0 && (decide (u0.map (fun x => (ssub σ x.1, ssub σ x.2)) = u) && u0.all (fun x => scl x.1 && scl x.2)))))
  | .inr (c0, v0), .inr (c, v) => decide (c0 = c) && (teqs F (v0.map (ssub σ)) v && v0.all scl)
  | _, _ => false
theorem aden_sub {X : pX} {ρ : sR} {K : sK} {σ : sM} (h : sMok K σ = true) {b0 b : sT} {j : Nat} (hb : bden X ρ b j = bden X (rsub X ρ σ) b0 j) : ∀ u0 : List (sT × sT), (∀ x ∈ u0, scl x.1 = true ∧ scl x.2 = true) → aden X ρ b (u0.map (fun x => (ssub σ x.1, ssub σ x.2))) j = aden X (rsub X ρ σ) b0 u0 j
  | [], _ => hb
  | x :: u, hu => by
    have h1 := hu x List.mem_cons_self
    simp only [List.map_cons, aden]
    rw [ssub_d x.1 h1.1, ssub_v h x.2 h1.2, aden_sub h hb u (fun y hy => hu y (List.mem_cons_of_mem _ hy))]
theorem sMok_arr {K : sK} {σ : sM} (h : sMok K σ = true) {a : Nat} {p : sT × List (sT × sT)} (hp : afnd σ a = some p) : K.2.2.1 a = none ∧ (match p.1 with
  | .arg b => b % 2 == a % 2
  | t => sk t == a % 2) = true ∧ ∀ u ∈ p.2, sk u.2 = a % 2 := by
  rw [afnd_def] at hp
  split at hp
  · next q hq =>
    cases hp
    have h1 := List.mem_of_find?_eq_some hq
    have h2 := List.find?_some hq
    simp only [beq_iff_eq] at h2
    simp only [sMok, Bool.and_eq_true, List.all_eq_true, Option.isNone_iff_eq_none] at h
    obtain ⟨h3, h4, h5⟩ := h.2 q h1
    subst h2
    exact ⟨h3, h4, fun u hu => by simpa using h5 u hu⟩
  · cases hp
theorem aden_kind {X : pX} {ρ : sR} {a : Nat} {b : sT} {j : Nat} (hb : (match b with
  | .arg c => c % 2 == a % 2
  | t => sk t == a % 2) = true) : ∀ u : List (sT × sT), (∀ x ∈ u, sk x.2 = a % 2) → aden X ρ b u j = if a % 2 = 1 then .long (vl (aden X ρ b u j)) else .int (vi (aden X ρ b u j))
  | [], _ => by
    simp only [aden]
    cases b with
    | arg c =>
      simp only [beq_iff_eq] at hb
      simp only [bden, hb]
      split <;> rfl
    | old c =>
      simp only [beq_iff_eq] at hb
      have hb : 9 = a % 2 := hb
      omega
    | _ =>
      simp only [beq_iff_eq] at hb
      simp only [bden]
      split
      · next h1 => rw [sv_long (hb.trans h1)]; rfl
      · next h1 => rw [sv_int (hb.trans (by omega))]; rfl
  | x :: u, hu => by
    simp only [aden]
    split
    · have h1 := hu x List.mem_cons_self
      split
      · next h2 => rw [sv_long (h1.trans h2)]; rfl
      · next h2 => rw [sv_int (h1.trans (by omega))]; rfl
    · exact aden_kind hb u (fun y hy => hu y (List.mem_cons_of_mem _ hy))
theorem cinst_ok {X : pX} {ρ : sR} {K : sK} {F : sFs} (hF : fok X ρ F) (hK : kok X ρ K) {σ : sM} (h : sMok K σ = true) {e0 e : sE} (hc : cinst K F σ e0 e = true) {y : pE} (hy : CR X ρ e y) : CR X (rsub X ρ σ) e0 y := by
  have same : ∀ {t0 n0 t n : Nat} {b0 b : sT} {u0 u : List (sT × sT)} {y : pE}, t0 = t → n0 = n → (∀ j, bden X ρ b j = bden X (rsub X ρ σ) b0 j) → u0.map (fun x => (ssub σ x.1, ssub σ x.2)) = u → (∀ x ∈ u0, (scl x.1 && scl x.2) = true) → CR X ρ (.inl (t, n, b, u)) y → CR X (rsub X ρ σ) (.inl (t0, n0, b0, u0)) y := by
    intro t0 n0 t n b0 b u0 u y h1 h2 h3 h4 h5 hy
    subst h1 h2 h4
    cases y with
    | inr z => exact hy.elim
    | inl z =>
      obtain ⟨q1, q2, q3, q4⟩ := hy
      have h6 : ∀ x ∈ u0, scl x.1 = true ∧ scl x.2 = true := fun x hx => by
        have := h5 x hx
        simpa using this
      refine ⟨q1, q2, fun j hj => ?_, fun x hx => ?_⟩
      · rw [q3 j hj]
        exact aden_sub h (h3 j) u0 h6
      · have := q4 _ (List.mem_map.mpr ⟨x, hx, rfl⟩)
        dsimp only at this
        rw [ssub_d x.1 (h6 x hx).1] at this
        exact this
  cases e0 with
  | inl p0 =>
    obtain ⟨t0, n0, b0, u0⟩ := p0
    cases e with
    | inr q => cases hc
    | inl p =>
      obtain ⟨t, n, b, u⟩ := p
      simp only [cinst, Bool.and_eq_true, decide_eq_true_eq] at hc
      obtain ⟨c1, c2, c3⟩ := hc
      by_cases hb0 : ∃ a, b0 = .arg a
      · obtain ⟨a, rfl⟩ := hb0
        dsimp only at c3
        split at c3
        · next p hp =>
          simp only [Bool.and_eq_true, decide_eq_true_eq, List.all_eq_true, beq_iff_eq] at c3
          obtain ⟨rfl, d2, d3⟩ := c3
          subst c1 c2
          obtain ⟨m1, m2, m3⟩ := sMok_arr h hp
          cases y with
          | inr z => exact hy.elim
          | inl z =>
            obtain ⟨q1, q2, q3, q4⟩ := hy
            refine ⟨q1, q2, fun j hj => ?_, fun x hx => by cases hx⟩
            have g1 := aeq_ok hF hK (p := p) (q := (b, u)) (fun x hx => by
              obtain ⟨k1, k2⟩ := d2 x hx
              have k3 := sivl_ok hF x.1
              rw [sn_i k1] at k3
              exact s_nn (by omega)) q4 d3 j
            rw [q3 j hj]
            dsimp only
            rw [← g1]
            show _ = bden X (rsub X ρ σ) (.arg a) j
            rw [aden_kind (X := X) (ρ := ρ) (j := j) m2 p.2 m3]
            simp only [bden, rsub, hp]
        · next hp =>
          simp only [Bool.and_eq_true, decide_eq_true_eq, List.all_eq_true] at c3
          obtain ⟨rfl, d2, d3⟩ := c3
          refine same c1 c2 (fun j => ?_) d2 (fun x hx => by have := d3 x hx; simpa using this) hy
          simp only [bden, rsub, hp]
      · have c4 : (decide (ssub σ b0 = b) && (scl b0 && (decide (u0.map (fun x => (ssub σ x.1, ssub σ x.2)) = u) && u0.all (fun x => scl x.1 && scl x.2)))) = true := by
          cases b0 <;> first | (exact absurd ⟨_, rfl⟩ hb0) | exact c3
        simp only [Bool.and_eq_true, decide_eq_true_eq, List.all_eq_true] at c4
        obtain ⟨d1, d2, d3, d4⟩ := c4
        refine same c1 c2 (fun j => ?_) d3 (fun x hx => by have := d4 x hx; simpa using this) hy
        have e1 : ∀ (ρ : sR) (t : sT), (¬ ∃ a, t = .arg a) → (¬ ∃ a, t = .old a) → bden X ρ t j = sv X ρ t := fun ρ t ht ho => by
          cases t <;> first | (exact absurd ⟨_, rfl⟩ ht) | (exact absurd ⟨_, rfl⟩ ho) | rfl
        rw [← d1, e1 _ b0 hb0 (by
          rintro ⟨a, rfl⟩
          cases d2), e1 _ (ssub σ b0) (by
          rintro ⟨a, ha⟩
          cases b0 <;> first | (exact hb0 ⟨_, rfl⟩) | (simp only [ssub_arg, ssub_int, ssub_long, ssub_null, ssub_index, ssub_field, ssub_static, ssub_string, ssub_mirror, ssub_length, ssub_elem, ssub_add, ssub_sub, ssub_mul, ssub_div, ssub_rem, ssub_op2, ssub_op1, ssub_sum, ssub_result, ssub_thrown, ssub_old] at ha; cases ha)) (by
          rintro ⟨a, ha⟩
          cases b0 <;> first | (exact hb0 ⟨_, rfl⟩) | (cases d2; done) | (simp only [ssub_arg, ssub_int, ssub_long, ssub_null, ssub_index, ssub_field, ssub_static, ssub_string, ssub_mirror, ssub_length, ssub_elem, ssub_add, ssub_sub, ssub_mul, ssub_div, ssub_rem, ssub_op2, ssub_op1, ssub_sum, ssub_result, ssub_thrown, ssub_old] at ha; cases ha)), ssub_v h b0 d2]
  | inr p0 =>
    obtain ⟨c0, v0⟩ := p0
    cases e with
    | inl q => cases hc
    | inr p =>
      obtain ⟨c, v⟩ := p
      simp only [cinst, Bool.and_eq_true, decide_eq_true_eq] at hc
      obtain ⟨d1, d2, d3⟩ := hc
      subst d1
      cases y with
      | inl z => exact hy.elim
      | inr z =>
        have hy : z = (c0, v.map (sv X ρ)) := hy
        show z = (c0, v0.map (sv X (rsub X ρ σ)))
        rw [hy, ← teqs_ok hF d2]
        have := slsub_v (X := X) (ρ := ρ) h d3
        unfold dS slsub at this
        rw [this]
/-- what lies at a place of a small array, all of whose places are numbers -/
noncomputable def selc (b : sT) (j : Nat) : List (sT × sT) → Option sT
  | [] => match b with
    | .arg _ => none
    | .old _ => none
    | t => some t
  | u :: r => match sC1 u.1 with
    | some p => if p.1.toNatClampNeg = j then some u.2 else selc b j r
    | none => none
theorem selc_ok {X : pX} {ρ : sR} {b : sT} {j : Nat} : ∀ (u : List (sT × sT)) (t : sT), selc b j u = some t → aden X ρ b u j = sv X ρ t
  | [], t, h => by
    unfold selc at h
    split at h
    · cases h
    · cases h
    · next hne hno =>
      cases h
      show bden X ρ b j = _
      unfold bden
      split
      · next a => exact absurd rfl (hne a)
      · next a => exact absurd rfl (hno a)
      · rfl
  | u :: r, t, h => by
    unfold selc at h
    split at h
    · next p hp =>
      unfold aden
      rw [sC1_ok hp]
      split at h
      · next hj => cases h; rw [if_pos hj]
      · next hj => rw [if_neg hj]; exact selc_ok r t h
    · cases h
noncomputable def csmall (F : sFs) (σ : sM) (e0 e : sE) : Bool := match e0, e with
  | .inl (t0, n0, b0, u0), .inl (t, n, b, u) => decide (t0 = t) && (decide (n0 = n) && (Nat.ble n0 16 && (u0.all (fun x => match sC1 x.1 with
    | some p => decide (¬ p.1 < 0)
    | none => false) && (List.range n0).all (fun j => match selc b0 j u0, selc b j u with
      | some x, some y => scl x && teq F (ssub σ x) y
      | _, _ => false))))
  | _, _ => false
theorem csmall_ok {X : pX} {ρ : sR} {K : sK} {F : sFs} (hF : fok X ρ F) {σ : sM} (h : sMok K σ = true) {e0 e : sE} (hc : csmall F σ e0 e = true) {y : pE} (hy : CR X ρ e y) : CR X (rsub X ρ σ) e0 y := by
  unfold csmall at hc
  split at hc
  · next t0 n0 b0 u0 t n b u =>
    simp only [Bool.and_eq_true, decide_eq_true_eq, List.all_eq_true] at hc
    obtain ⟨rfl, rfl, -, c4, c5⟩ := hc
    cases y with
    | inr z => exact hy.elim
    | inl z =>
      obtain ⟨q1, q2, q3, q4⟩ := hy
      refine ⟨q1, q2, fun j hj => ?_, fun x hx => ?_⟩
      · have h5 := c5 j (List.mem_range.mpr hj)
        rw [q3 j hj]
        dsimp only
        split at h5
        · next x w hx hw =>
          simp only [Bool.and_eq_true] at h5
          rw [selc_ok u w hw, selc_ok u0 x hx, ← ssub_v h x h5.1, teq_ok hF h5.2]
        · cases h5
      · have h6 := c4 x hx
        split at h6
        · next p hp =>
          rw [sC1_ok hp]
          exact of_decide_eq_true h6
        · cases h6
  · cases hc
/-- the same, and nothing in it is set -/
noncomputable def tqk (σ : sM) (x y : sT) : Bool := @Jvm.Term.rec (fun _ => sM → sT → Bool) (fun i σ y => @Bool.rec (fun _ => Bool) false (@Bool.rec (fun _ => Bool) false (@Option.rec sT (fun _ => Bool) true (fun _ => false) (sfnd σ i)) (Nat.beq i (tpn y))) (Nat.beq (ttag y) 0)) (fun v _ y => Nat.beq (ttag y) 1 && Nat.beq v.toBitVec.toNat (tpn y)) (fun v _ y => Nat.beq (ttag y) 2 && Nat.beq v.toBitVec.toNat (tpn y)) (fun _ y => Nat.beq (ttag y) 3) (fun k _ y => Nat.beq (ttag y) 4 && Nat.beq k (tpn y)) (fun _ _ _ _ _ _ _ => false) (fun _ _ _ _ _ => false) (fun _ _ _ _ => false) (fun _ _ _ => false) (fun _ _ _ _ => false) (fun _ _ _ _ _ _ => false) (fun _ _ ha hb _ y => Nat.beq (ttag y) 11 && (ha σ (tp1 y) && hb σ (tp2 y))) (fun _ _ ha hb _ y => Nat.beq (ttag y) 12 && (ha σ (tp1 y) && hb σ (tp2 y))) (fun _ _ ha hb _ y => Nat.beq (ttag y) 13 && (ha σ (tp1 y) && hb σ (tp2 y))) (fun _ _ ha hb _ y => Nat.beq (ttag y) 14 && (ha σ (tp1 y) && hb σ (tp2 y))) (fun _ _ ha hb _ y => Nat.beq (ttag y) 15 && (ha σ (tp1 y) && hb σ (tp2 y))) (fun o _ _ ha hb _ y => Nat.beq (ttag y) 16 && (Nat.beq (bix o) (tpo y) && (ha σ (tp1 y) && hb σ (tp2 y)))) (fun o _ ha _ y => Nat.beq (ttag y) 17 && (Nat.beq (uix o) (tpo y) && ha σ (tp1 y))) (fun _ _ _ _ => false) (fun _ _ => false) (fun _ _ => false) (fun _ _ _ _ => false) x σ y
theorem tqk_oks {X : pX} {ρ : sR} {σ : sM} : ∀ a b : sT, tqk σ a b = true → b = a ∧ sd X (rsub X ρ σ) a = sd X ρ a := by
  intro a
  induction a with
  | arg i =>
    intro b h
    cases b <;> first | (cases h; done) | skip
    next k =>
      have h : @Bool.rec (fun _ => Bool) false (@Option.rec sT (fun _ => Bool) true (fun _ => false) (sfnd σ i)) (Nat.beq i k) = true := h
      have h : (Nat.beq i k && (sfnd σ i).isNone) = true := by
        cases h1 : Nat.beq i k with
        | false => rw [h1] at h; cases h
        | true =>
          rw [h1] at h
          cases h2 : sfnd σ i with
          | none => rfl
          | some u => rw [h2] at h; cases h
      simp only [Bool.and_eq_true, Option.isNone_iff_eq_none] at h
      have e := Nat.eq_of_beq_eq_true h.1
      subst e
      refine ⟨rfl, ?_⟩
      simp only [sd, rsub, h.2]
  | index i =>
    intro b h
    cases b <;> first | (cases h; done) | skip
    next k =>
      have e := Nat.eq_of_beq_eq_true (show Nat.beq i k = true from h)
      subst e
      exact ⟨rfl, rfl⟩
  | int v =>
    intro b h
    cases b <;> first | (cases h; done) | skip
    next w =>
      have e : v = w := Int32.toBitVec_inj.mp (BitVec.eq_of_toNat_eq (Nat.eq_of_beq_eq_true (show Nat.beq v.toBitVec.toNat w.toBitVec.toNat = true from h)))
      subst e
      exact ⟨rfl, rfl⟩
  | long v =>
    intro b h
    cases b <;> first | (cases h; done) | skip
    next w =>
      have e : v = w := Int64.toBitVec_inj.mp (BitVec.eq_of_toNat_eq (Nat.eq_of_beq_eq_true (show Nat.beq v.toBitVec.toNat w.toBitVec.toNat = true from h)))
      subst e
      exact ⟨rfl, rfl⟩
  | null => intro b h; cases b <;> first | (cases h; done) | exact ⟨rfl, rfl⟩
  | add a b iha ihb =>
    intro y h
    cases y <;> first | (cases h; done) | skip
    next z w =>
      have h : (tqk σ a z && tqk σ b w) = true := h
      simp only [Bool.and_eq_true] at h
      obtain ⟨e1, d1⟩ := iha z h.1
      obtain ⟨e2, d2⟩ := ihb w h.2
      refine ⟨by rw [e1, e2], ?_⟩
      simp only [sd, d1, d2]
  | sub a b iha ihb =>
    intro y h
    cases y <;> first | (cases h; done) | skip
    next z w =>
      have h : (tqk σ a z && tqk σ b w) = true := h
      simp only [Bool.and_eq_true] at h
      obtain ⟨e1, d1⟩ := iha z h.1
      obtain ⟨e2, d2⟩ := ihb w h.2
      refine ⟨by rw [e1, e2], ?_⟩
      simp only [sd, d1, d2]
  | mul a b iha ihb =>
    intro y h
    cases y <;> first | (cases h; done) | skip
    next z w =>
      have h : (tqk σ a z && tqk σ b w) = true := h
      simp only [Bool.and_eq_true] at h
      obtain ⟨e1, d1⟩ := iha z h.1
      obtain ⟨e2, d2⟩ := ihb w h.2
      refine ⟨by rw [e1, e2], ?_⟩
      simp only [sd, d1, d2]
  | div a b iha ihb =>
    intro y h
    cases y <;> first | (cases h; done) | skip
    next z w =>
      have h : (tqk σ a z && tqk σ b w) = true := h
      simp only [Bool.and_eq_true] at h
      obtain ⟨e1, d1⟩ := iha z h.1
      obtain ⟨e2, d2⟩ := ihb w h.2
      refine ⟨by rw [e1, e2], ?_⟩
      simp only [sd, d1, d2]
  | rem a b iha ihb =>
    intro y h
    cases y <;> first | (cases h; done) | skip
    next z w =>
      have h : (tqk σ a z && tqk σ b w) = true := h
      simp only [Bool.and_eq_true] at h
      obtain ⟨e1, d1⟩ := iha z h.1
      obtain ⟨e2, d2⟩ := ihb w h.2
      refine ⟨by rw [e1, e2], ?_⟩
      simp only [sd, d1, d2]
  | op2 o a b iha ihb =>
    intro y h
    cases y <;> first | (cases h; done) | skip
    next p z w =>
      have h : (Nat.beq (bix o) (bix p) && (tqk σ a z && tqk σ b w)) = true := h
      simp only [Bool.and_eq_true] at h
      obtain ⟨e1, d1⟩ := iha z h.2.1
      obtain ⟨e2, d2⟩ := ihb w h.2.2
      refine ⟨by rw [e1, e2, bix_inj _ _ (Nat.eq_of_beq_eq_true h.1)], ?_⟩
      simp only [sd, d1, d2]
  | op1 o a iha =>
    intro y h
    cases y <;> first | (cases h; done) | skip
    next p z =>
      have h : (Nat.beq (uix o) (uix p) && tqk σ a z) = true := h
      simp only [Bool.and_eq_true] at h
      obtain ⟨e1, d1⟩ := iha z h.2
      refine ⟨by rw [e1, uix_inj _ _ (Nat.eq_of_beq_eq_true h.1)], ?_⟩
      simp only [sd, d1]
  | _ => intro b h; cases h
theorem tqk_ok {X : pX} {ρ : sR} {σ : sM} {a b : sT} (h : tqk σ a b = true) : b = a ∧ sd X (rsub X ρ σ) a = sd X ρ a := tqk_oks a b h
theorem tqk_v {X : pX} {ρ : sR} {σ : sM} {a b : sT} (h : tqk σ a b = true) : sv X ρ b = sv X (rsub X ρ σ) a := by
  obtain ⟨rfl, h2⟩ := tqk_ok (X := X) (ρ := ρ) h
  unfold sv
  split <;> first | rfl | rw [h2]
noncomputable def vqk (σ : sM) (x y : List sT) : Bool := @List.rec sT (fun _ => List sT → Bool) (fun y => match y with
  | [] => true
  | _ :: _ => false) (fun a _ ih y => match y with
  | [] => false
  | b :: y => tqk σ a b && ih y) x y
theorem vqk_ok {X : pX} {ρ : sR} {σ : sM} : ∀ {x y : List sT}, vqk σ x y = true → y.map (sv X ρ) = x.map (sv X (rsub X ρ σ))
  | [], [], _ => rfl
  | [], _ :: _, h => by cases h
  | _ :: _, [], h => by cases h
  | a :: x, b :: y, h => by
    have h : (tqk σ a b && vqk σ x y) = true := h
    simp only [Bool.and_eq_true] at h
    rw [List.map_cons, List.map_cons, tqk_v h.1, vqk_ok h.2]
noncomputable def uqk (σ : sM) (x y : List (sT × sT)) : Bool := @List.rec (sT × sT) (fun _ => List (sT × sT) → Bool) (fun y => match y with
  | [] => true
  | _ :: _ => false) (fun a _ ih y => match y with
  | [] => false
  | b :: y => tqk σ a.1 b.1 && (tqk σ a.2 b.2 && ih y)) x y
noncomputable def bqkA (σ : sM) (i : Nat) (b : sT) : Bool := Nat.beq (ttag b) 0 && (Nat.beq i (tpn b) && (afnd σ i).isNone)
noncomputable def bqk (σ : sM) (a b : sT) : Bool := bif Nat.beq (ttag a) 0 then bqkA σ (tpn a) b else tqk σ a b
theorem bqk_ok {X : pX} {ρ : sR} {σ : sM} {a b : sT} (h : bqk σ a b = true) (j : Nat) : bden X ρ b j = bden X (rsub X ρ σ) a j := by
  by_cases ht : ∃ i, a = .arg i
  · obtain ⟨i, rfl⟩ := ht
    cases b <;> first | (cases h; done) | skip
    next k =>
      have h : (Nat.beq i k && (afnd σ i).isNone) = true := h
      simp only [Bool.and_eq_true, Option.isNone_iff_eq_none] at h
      have e := Nat.eq_of_beq_eq_true h.1
      subst e
      simp only [bden, rsub, h.2]
  · have h : tqk σ a b = true := by
      cases a <;> first | exact h | (exact absurd ⟨_, rfl⟩ ht)
    have e := (tqk_ok (X := X) (ρ := ρ) h).1
    subst e
    have h2 := tqk_v (X := X) (ρ := ρ) h
    unfold bden
    split
    · next i => exact absurd ⟨_, rfl⟩ ht
    · cases h
    · exact h2
theorem uqk_ok {X : pX} {ρ : sR} {σ : sM} {a b : sT} {j : Nat} (hb : bden X ρ b j = bden X (rsub X ρ σ) a j) : ∀ {x y : List (sT × sT)}, uqk σ x y = true → aden X ρ b y j = aden X (rsub X ρ σ) a x j
  | [], [], _ => hb
  | [], _ :: _, h => by cases h
  | _ :: _, [], h => by cases h
  | p :: x, q :: y, h => by
    have h : (tqk σ p.1 q.1 && (tqk σ p.2 q.2 && uqk σ x y)) = true := h
    simp only [Bool.and_eq_true] at h
    obtain ⟨h1, h2, h3⟩ := h
    obtain ⟨e1, e2⟩ := tqk_ok (X := X) (ρ := ρ) h1
    unfold aden
    rw [e1, e2, tqk_v h2, uqk_ok hb h3]
theorem uqk_nn {X : pX} {ρ : sR} {σ : sM} : ∀ {x y : List (sT × sT)}, uqk σ x y = true → (∀ u ∈ y, ¬ (sd X ρ u.1).1 < 0) → ∀ u ∈ x, ¬ (sd X (rsub X ρ σ) u.1).1 < 0
  | [], _, _, _ => fun u hu => by cases hu
  | _ :: _, [], h, _ => by cases h
  | p :: x, q :: y, h, hy => by
    have h : (tqk σ p.1 q.1 && (tqk σ p.2 q.2 && uqk σ x y)) = true := h
    simp only [Bool.and_eq_true] at h
    obtain ⟨h1, h2, h3⟩ := h
    obtain ⟨e1, e2⟩ := tqk_ok (X := X) (ρ := ρ) h1
    intro u hu
    rcases List.mem_cons.mp hu with rfl | hu
    · rw [e2, ← e1]; exact hy q List.mem_cons_self
    · exact uqk_nn h3 (fun w hw => hy w (List.mem_cons_of_mem _ hw)) u hu
noncomputable def cqk (σ : sM) (e0 e : sE) : Bool := match e0 with
  | .inl (t0, n0, b0, u0) => match e with
    | .inl (t, n, b, u) => Nat.beq t0 t && (Nat.beq n0 n && (bqk σ b0 b && uqk σ u0 u))
    | _ => false
  | .inr (c0, v0) => match e with
    | .inr (c, v) => Nat.beq c0 c && vqk σ v0 v
    | _ => false
theorem cqk_ok {X : pX} {ρ : sR} {σ : sM} {e0 e : sE} (hc : cqk σ e0 e = true) {y : pE} (hy : CR X ρ e y) : CR X (rsub X ρ σ) e0 y := by
  unfold cqk at hc
  split at hc
  · next t0 n0 b0 u0 =>
    split at hc
    · next t n b u =>
      simp only [Bool.and_eq_true] at hc
      obtain ⟨h1, h2, h3, h4⟩ := hc
      have e1 := Nat.eq_of_beq_eq_true h1
      have e2 := Nat.eq_of_beq_eq_true h2
      subst e1 e2
      cases y with
      | inr z => exact hy.elim
      | inl z =>
        obtain ⟨q1, q2, q3, q4⟩ := hy
        exact ⟨q1, q2, fun j hj => by rw [q3 j hj]; exact uqk_ok (bqk_ok h3 j) h4, uqk_nn h4 q4⟩
    · cases hc
  · next c0 v0 =>
    split at hc
    · next c v =>
      simp only [Bool.and_eq_true] at hc
      have e1 := Nat.eq_of_beq_eq_true hc.1
      subst e1
      cases y with
      | inl z => exact hy.elim
      | inr z =>
        have hy : z = (c0, v.map (sv X ρ)) := hy
        show z = (c0, v0.map (sv X (rsub X ρ σ)))
        rw [hy, vqk_ok hc.2]
    · cases hc
noncomputable def cins (K : sK) (F : sFs) (σ : sM) (e0 e : sE) : Bool := cqk σ e0 e || (cinst K F σ e0 e || csmall F σ e0 e)
theorem cins_ok {X : pX} {ρ : sR} {K : sK} {F : sFs} (hF : fok X ρ F) (hK : kok X ρ K) {σ : sM} (h : sMok K σ = true) {e0 e : sE} (hc : cins K F σ e0 e = true) {y : pE} (hy : CR X ρ e y) : CR X (rsub X ρ σ) e0 y := by
  simp only [cins, Bool.or_eq_true] at hc
  rcases hc with hc | hc | hc
  · exact cqk_ok hc hy
  · exact cinst_ok hF hK h hc hy
  · exact csmall_ok hF h hc hy
noncomputable def tinst (K : sK) (F : sFs) (σ : sM) : (n : Nat) → TT (Option sE) n → TT (Option sE) n → Bool
  | 0, x, y => match x with
    | none => y.isNone
    | some e0 => match y with
      | some e => cins K F σ e0 e
      | none => false
  | n + 1, x, y => tinst K F σ n x.1 y.1 && tinst K F σ n x.2.1 y.2.1
theorem tinst_ok {K : sK} {F : sFs} {σ : sM} {e0 : sE} : ∀ (n : Nat) (x y : TT (Option sE) n) (k : Nat), tinst K F σ n x y = true → tget n x k = some e0 → ∃ e : sE, tget n y k = some e ∧ cins K F σ e0 e = true
  | 0, x, y, k, h, hx => by
    have hx : x = some e0 := hx
    subst hx
    exact (match (y : Option sE), h with
      | some e, h => ⟨e, rfl, h⟩
      | none, h => nomatch h)
  | n + 1, x, y, k, h, hx => by
    have h : (tinst K F σ n x.1 y.1 && tinst K F σ n x.2.1 y.2.1) = true := h
    simp only [Bool.and_eq_true] at h
    by_cases hk : k < 2 ^ n
    · obtain ⟨e, h1, h2⟩ := tinst_ok n x.1 y.1 k h.1 ((tget_l hk).symm.trans hx)
      exact ⟨e, (tget_l hk).trans h1, h2⟩
    · obtain ⟨e, h1, h2⟩ := tinst_ok n x.2.1 y.2.1 _ h.2 ((tget_r hk).symm.trans hx)
      exact ⟨e, (tget_r hk).trans h1, h2⟩
theorem tinst_no {K : sK} {F : sFs} {σ : sM} : ∀ (n : Nat) (x y : TT (Option sE) n) (k : Nat), tinst K F σ n x y = true → tget n x k = none → tget n y k = none
  | 0, x, y, k, h, hx => by
    have hx : x = none := hx
    subst hx
    exact (match (y : Option sE), h with
      | some e, h => nomatch h
      | none, h => rfl)
  | n + 1, x, y, k, h, hx => by
    have h : (tinst K F σ n x.1 y.1 && tinst K F σ n x.2.1 y.2.1) = true := h
    simp only [Bool.and_eq_true] at h
    by_cases hk : k < 2 ^ n
    · exact (tget_l hk).trans (tinst_no n x.1 y.1 k h.1 ((tget_l hk).symm.trans hx))
    · exact (tget_r hk).trans (tinst_no n x.2.1 y.2.1 _ h.2 ((tget_r hk).symm.trans hx))
noncomputable def hinst (K : sK) (F : sFs) (σ : sM) (G0 G : sH) : Bool := decide (G0.2 = G.2) && tinst K F σ 9 G0.1 G.1
theorem hinst_ok {K : sK} {F : sFs} {σ : sM} {G0 G : sH} (h : hinst K F σ G0 G = true) : G0.2 = G.2 ∧ (∀ (k : Nat) (e0 : sE), hget G0 k = some e0 → ∃ e : sE, hget G k = some e ∧ cins K F σ e0 e = true) ∧ ∀ k : Nat, hget G0 k = none → hget G k = none := by
  simp only [hinst, Bool.and_eq_true, decide_eq_true_eq] at h
  refine ⟨h.1, fun k e0 hk => ?_, fun k hk => ?_⟩
  · have h1 := hget_lt hk
    rw [hget_def] at hk ⊢
    rw [if_pos h1] at hk ⊢
    exact tinst_ok 9 G0.1 G.1 k h.2 hk
  · rw [hget_def] at hk ⊢
    by_cases h1 : k < 512
    · rw [if_pos h1] at hk ⊢
      exact tinst_no 9 G0.1 G.1 k h.2 hk
    · rw [if_neg h1]
/-- what variables are set to lies where they lie -/
noncomputable def vwin (F : sFs) (r : Int × Int) (t : sT) : Bool := decide (r.1 ≤ (sivl F t).1) && decide ((sivl F t).2 ≤ r.2)
/-- ... or a variable of the same kind -/
noncomputable def vwinQ (F : sFs) (i : Nat) (r : Int × Int) (t : sT) : Bool := @Bool.rec (fun _ => Bool) (vwin F r t) true (@Bool.rec (fun _ => Bool) false (@Bool.rec (fun _ => Bool) false (Nat.beq (Nat.mod (Nat.div (tpn t) 2) 16) (Nat.mod (Nat.div i 2) 16)) (Nat.ble 1000 (tpn t))) (Nat.beq (ttag t) 0))
theorem vrng_kind {i j : Nat} {r : Int × Int} (hj : 1000 ≤ j) (hk : j / 2 % 16 = i / 2 % 16) (h : vrng i = some r) : vrng j = some r := by
  rw [vrng_def] at h ⊢
  unfold vrngO at h ⊢
  rw [if_neg (by omega), hk]
  split at h
  · cases h
  · exact h
theorem vwinQ_ok {X : pX} {ρ : sR} {F : sFs} (hF : fok X ρ F) {i : Nat} {r : Int × Int} {t : sT} (hr : vrng i = some r) (h : vwinQ F i r t = true) : r.1 ≤ sn X ρ t ∧ sn X ρ t ≤ r.2 := by
  unfold vwinQ at h
  have slow : vwin F r t = true → r.1 ≤ sn X ρ t ∧ sn X ρ t ≤ r.2 := fun hw => by
    simp only [vwin, Bool.and_eq_true, decide_eq_true_eq] at hw
    have := sivl_ok hF t
    omega
  cases h1 : Nat.beq (ttag t) 0 with
  | false => rw [h1] at h; exact slow h
  | true =>
    rw [h1] at h
    cases t with
    | arg j =>
      cases h2 : Nat.ble 1000 j with
      | false =>
        have h : @Bool.rec (fun _ => Bool) (vwin F r (.arg j)) true (@Bool.rec (fun _ => Bool) false (Nat.beq (Nat.mod (Nat.div j 2) 16) (Nat.mod (Nat.div i 2) 16)) (Nat.ble 1000 j)) = true := h
        rw [h2] at h
        exact slow h
      | true =>
        have h : @Bool.rec (fun _ => Bool) (vwin F r (.arg j)) true (@Bool.rec (fun _ => Bool) false (Nat.beq (Nat.mod (Nat.div j 2) 16) (Nat.mod (Nat.div i 2) 16)) (Nat.ble 1000 j)) = true := h
        rw [h2] at h
        cases h3 : Nat.beq (Nat.mod (Nat.div j 2) 16) (Nat.mod (Nat.div i 2) 16) with
        | false =>
          have h : @Bool.rec (fun _ => Bool) (vwin F r (.arg j)) true (Nat.beq (Nat.mod (Nat.div j 2) 16) (Nat.mod (Nat.div i 2) 16)) = true := h
          rw [h3] at h
          exact slow h
        | true => exact hF.1.1 j r (vrng_kind (Nat.le_of_ble_eq_true h2) (Nat.eq_of_beq_eq_true h3) hr)
    | _ => cases h1
noncomputable def vhold (F : sFs) (σ : sM) : Bool := σ.1.all (fun q => match vrng q.1 with
  | none => true
  | some r => vwinQ F q.1 r q.2) && σ.2.all (fun q => match vrng q.1 with
  | none => true
  | some r => (match q.2.1 with
    | .arg b => decide (vrng b = some r)
    | t => vwinQ F q.1 r t) && q.2.2.all (fun u => vwinQ F q.1 r u.2))
theorem vok_sub {X : pX} {ρ : sR} {K : sK} {F : sFs} (hF : fok X ρ F) {σ : sM} (hM : sMok K σ = true) (h : vhold F σ = true) : vok X (rsub X ρ σ) := by
  simp only [vhold, Bool.and_eq_true, List.all_eq_true] at h
  have win : ∀ {i : Nat} {r : Int × Int} {t : sT}, vrng i = some r → vwinQ F i r t = true → r.1 ≤ sn X ρ t ∧ sn X ρ t ≤ r.2 := fun hr hw => vwinQ_ok hF hr hw
  constructor
  · intro i r hr
    cases hf : sfnd σ i with
    | none =>
      have q1 : (rsub X ρ σ).1 i = ρ.1 i := by simp only [rsub, hf]
      have q2 : (rsub X ρ σ).2.1 i = ρ.2.1 i := by simp only [rsub, hf]
      have e : sn X (rsub X ρ σ) (.arg i) = sn X ρ (.arg i) := by
        show (if i % 2 = 1 then ((rsub X ρ σ).2.1 i).toInt else ((rsub X ρ σ).1 i).toInt) = if i % 2 = 1 then (ρ.2.1 i).toInt else (ρ.1 i).toInt
        rw [q1, q2]
      rw [e]
      exact hF.1.1 i r hr
    | some u =>
      have hk := sfnd_k hM hf
      have q1 : (rsub X ρ σ).1 i = (sd X ρ u).1 := by simp only [rsub, hf]
      have q2 : (rsub X ρ σ).2.1 i = (sd X ρ u).2 := by simp only [rsub, hf]
      have e : sn X (rsub X ρ σ) (.arg i) = sn X ρ u := by
        show (if i % 2 = 1 then ((rsub X ρ σ).2.1 i).toInt else ((rsub X ρ σ).1 i).toInt) = if sk u = 1 then (sd X ρ u).2.toInt else (sd X ρ u).1.toInt
        rw [q1, q2, hk]
      rw [e]
      rw [sfnd_def] at hf
      split at hf
      · next q hq =>
        cases hf
        have h1 := h.1 q (List.mem_of_find?_eq_some hq)
        have h2 : q.1 = i := by simpa using List.find?_some hq
        rw [h2, hr] at h1
        exact win hr h1
      · cases hf
  · intro a t r hr
    cases hf : afnd σ a with
    | none =>
      have q1 : ∀ j, (rsub X ρ σ).2.2.1 a j = ρ.2.2.1 a j := fun j => by simp only [rsub, hf]
      have q2 : ∀ j, (rsub X ρ σ).2.2.2.1 a j = ρ.2.2.2.1 a j := fun j => by simp only [rsub, hf]
      have e : sn X (rsub X ρ σ) (.elem (.arg a) t) = sn X ρ (.elem (.arg a) (.int (sd X (rsub X ρ σ) t).1)) := by
        show (if a % 2 = 1 then ((rsub X ρ σ).2.2.2.1 a (sd X (rsub X ρ σ) t).1.toNatClampNeg).toInt else ((rsub X ρ σ).2.2.1 a (sd X (rsub X ρ σ) t).1.toNatClampNeg).toInt) = if a % 2 = 1 then (ρ.2.2.2.1 a (sd X (rsub X ρ σ) t).1.toNatClampNeg).toInt else (ρ.2.2.1 a (sd X (rsub X ρ σ) t).1.toNatClampNeg).toInt
        rw [q1, q2]
      rw [e]
      exact hF.1.2 a _ r hr
    | some p =>
      have hmem : ∃ q ∈ σ.2, q.1 = a ∧ q.2 = p := by
        rw [afnd_def] at hf
        split at hf
        · next q hq =>
          cases hf
          exact ⟨q, List.mem_of_find?_eq_some hq, by simpa using List.find?_some hq, rfl⟩
        · cases hf
      obtain ⟨q, hq, rfl, rfl⟩ := hmem
      have h1 := h.2 q hq
      rw [hr] at h1
      simp only [Bool.and_eq_true, List.all_eq_true] at h1
      have h9 := hM
      simp only [sMok, Bool.and_eq_true, List.all_eq_true] at h9
      have h8 := h9.2 q hq
      have key : ∀ (j : Int32) (ups : List (sT × sT)), (∀ u ∈ ups, vwinQ F q.1 r u.2 = true) → (∀ u ∈ ups, sk u.2 = q.1 % 2) → ∃ T : sT, sk T = q.1 % 2 ∧ aden X ρ q.2.1 ups j.toNatClampNeg = sv X ρ T ∧ r.1 ≤ sn X ρ T ∧ sn X ρ T ≤ r.2 := by
        intro j ups
        induction ups with
        | nil =>
          intro _ _
          cases hb : q.2.1 with
          | arg b =>
            rw [hb] at h1 h8
            have hb2 : b % 2 = q.1 % 2 := by simpa using h8.2.1
            refine ⟨.elem (.arg b) (.int j), hb2, ?_, hF.1.2 b _ r (of_decide_eq_true h1.1)⟩
            show bden X ρ (.arg b) _ = _
            unfold bden
            dsimp only
            by_cases h7 : b % 2 = 1
            · rw [if_pos h7, sv_long (t := .elem (.arg b) (.int j)) h7]; rfl
            · rw [if_neg h7, sv_int (t := .elem (.arg b) (.int j)) (by show b % 2 = 0; omega)]; rfl
          | old c =>
            rw [hb] at h8
            have h7 : sk (.old c) = q.1 % 2 := by simpa using h8.2.1
            have h7 : 9 = q.1 % 2 := h7
            omega
          | _ =>
            rw [hb] at h1 h8
            exact ⟨_, by simpa using h8.2.1, rfl, win hr h1.1⟩
        | cons u ups ih =>
          intro hw hs
          unfold aden
          by_cases hj : (sd X ρ u.1).1.toNatClampNeg = j.toNatClampNeg
          · rw [if_pos hj]
            exact ⟨u.2, hs u List.mem_cons_self, rfl, win hr (hw u List.mem_cons_self)⟩
          · rw [if_neg hj]
            exact ih (fun x hx => hw x (List.mem_cons_of_mem _ hx)) (fun x hx => hs x (List.mem_cons_of_mem _ hx))
      obtain ⟨T, k1, k2, k3⟩ := key (sd X (rsub X ρ σ) t).1 q.2.2 h1.2 (fun u hu => by simpa using h8.2.2 u hu)
      have e : sn X (rsub X ρ σ) (.elem (.arg q.1) t) = sn X ρ T := by
        have q1 : ∀ j, (rsub X ρ σ).2.2.1 q.1 j = vi (aden X ρ q.2.1 q.2.2 j) := fun j => by simp only [rsub, hf]
        have q2 : ∀ j, (rsub X ρ σ).2.2.2.1 q.1 j = vl (aden X ρ q.2.1 q.2.2 j) := fun j => by simp only [rsub, hf]
        show (if q.1 % 2 = 1 then ((rsub X ρ σ).2.2.2.1 q.1 (sd X (rsub X ρ σ) t).1.toNatClampNeg).toInt else ((rsub X ρ σ).2.2.1 q.1 (sd X (rsub X ρ σ) t).1.toNatClampNeg).toInt) = if sk T = 1 then (sd X ρ T).2.toInt else (sd X ρ T).1.toInt
        rw [q1, q2, k2, k1]
        by_cases h7 : q.1 % 2 = 1
        · rw [if_pos h7, if_pos h7, sv_long (by rw [k1]; exact h7)]; rfl
        · rw [if_neg h7, if_neg h7, sv_int (by rw [k1]; omega)]; rfl
      rw [e]
      exact k3
noncomputable def fhold (F : sFs) (σ : sM) (F0 : sFs) : Bool := vhold F σ && F0.all (fun f => scl f.1.2.1 && (scl f.1.2.2 && decide (sdec F (f.1.1, ssub σ f.1.2.1, ssub σ f.1.2.2) = some f.2)))
theorem fhold_ok {X : pX} {ρ : sR} {K : sK} {F : sFs} (hF : fok X ρ F) {σ : sM} (hM : sMok K σ = true) {F0 : sFs} (h : fhold F σ F0 = true) : fok X (rsub X ρ σ) F0 := by
  simp only [fhold, Bool.and_eq_true] at h
  refine ⟨vok_sub hF hM h.1, fun f hf => ?_⟩
  have h1 := List.all_eq_true.mp h.2 f hf
  simp only [Bool.and_eq_true, decide_eq_true_eq] at h1
  obtain ⟨h2, h3, h4⟩ := h1
  have h5 := sdec_ok hF h4
  rw [← h5]
  exact (sc_sd (sdec_k h4) (ssub_d _ h2) (ssub_d _ h3)).symm
/-- a state is a case of a pattern -/
noncomputable def sinst (K : sK) (F : sFs) (σ : sM) (F0 : sFs) (s0 s : sS) : Bool := decide (s0.2.2.1 = s.2.2.1) && (decide (s0.2.2.2.2 = s.2.2.2.2) && (sMok K σ && (fhold F σ F0 && (hinst K F σ s0.2.2.2.1 s.2.2.2.1 && (finst F σ s0.1 s.1 && finsts F σ s0.2.1 s.2.1)))))
theorem kok_sub {X : pX} {ρ : sR} {K : sK} (hK : kok X ρ K) {σ : sM} (h : sMok K σ = true) : kok X (rsub X ρ σ) K := by
  refine ⟨hK.1, hK.2.1, fun a l hl j => ?_, hK.2.2.2⟩
  have h1 := hK.2.2.1 a l hl j
  cases hp : afnd σ a with
  | some p => rw [(sMok_arr h hp).1] at hl; cases hl
  | none =>
    simp only [rsub, hp]
    exact h1
section INST
variable {X : pX} {Ft : Nat → Nat → FieldType} {dfl : Nat → Nat × List Value} {Mt : List pM} {lw : Nat × List pOp × Nat} {P : pC → Prop} {hl : Nat → Option (pHd × Nat)} {K : sK}
/-- from every state that the facts allow, the run ends well -/
noncomputable def GS (X : pX) (Ft : Nat → Nat → FieldType) (dfl : Nat → Nat × List Value) (Mt : List pM) (lw : Nat × List pOp × Nat) (P : pC → Prop) (K : sK) (F : sFs) (s : sS) : Prop := ∀ (ρ : sR) (G : pH), kok X ρ K → fok X ρ F → HR X ρ s.2.2.2.1 G → GG X Ft dfl Mt lw P ρ s.1 s.2.1 s.2.2.1 (s.2.2.2.2 + rS ρ) G
theorem HR_sub {ρ : sR} {F : sFs} (hF : fok X ρ F) (hK : kok X ρ K) {σ : sM} (h : sMok K σ = true) {G0 G : sH} (hh : hinst K F σ G0 G = true) {H : pH} (hR : HR X ρ G H) : HR X (rsub X ρ σ) G0 H := by
  obtain ⟨h1, h2, h3⟩ := hinst_ok hh
  refine ⟨by rw [h1]; exact hR.1, fun k e0 hk => ?_, hR.2.2.1, fun k hk hl => hR.2.2.2 k (h3 k hk) hl⟩
  obtain ⟨e, he, hc⟩ := h2 k e0 hk
  obtain ⟨y, hy, hcr⟩ := hR.2.1 k e he
  exact ⟨y, hy, cins_ok hF hK h hc hcr⟩
theorem sinst_ok (hPm : Pmono P) {F F0 : sFs} {σ : sM} {s0 s : sS} (hi : sinst K F σ F0 s0 s = true) {ρ : sR} {G : pH} (hK : kok X ρ K) (hF : fok X ρ F) (hR : HR X ρ s.2.2.2.1 G) (hg : kok X (rsub X ρ σ) K → fok X (rsub X ρ σ) F0 → HR X (rsub X ρ σ) s0.2.2.2.1 G → GG X Ft dfl Mt lw P (rsub X ρ σ) s0.1 s0.2.1 s0.2.2.1 (s0.2.2.2.2 + rS ρ) G) : GG X Ft dfl Mt lw P ρ s.1 s.2.1 s.2.2.1 (s.2.2.2.2 + rS ρ) G := by
  simp only [sinst, Bool.and_eq_true, decide_eq_true_eq] at hi
  obtain ⟨e1, e2, e3, e4, e5, e6, e7⟩ := hi
  rw [← e1, ← e2]
  exact GG_le hPm (finst_ok hF e3 e6) (finsts_ok hF e3 e7) (hg (kok_sub hK e3) (fhold_ok hF e3 e4) (HR_sub hF hK e3 e5 hR))
theorem GS.inst (hPm : Pmono P) {F F0 : sFs} {σ : sM} {s0 s : sS} (hg : GS X Ft dfl Mt lw P K F0 s0) (hi : sinst K F σ F0 s0 s = true) : GS X Ft dfl Mt lw P K F s := fun ρ G hK hF hR => sinst_ok hPm hi hK hF hR (fun a b c => hg _ G a b c)
theorem GS.step (hP : Pback X Ft dfl Mt hl lw P) {F : sFs} {s s' : sS} (h : sstep K F Ft dfl Mt hl s.1 s.2.1 s.2.2.1 s.2.2.2.1 s.2.2.2.2 = some (.inl s')) (hg : GS X Ft dfl Mt lw P K F s') : GS X Ft dfl Mt lw P K F s := fun ρ G hK hF hR => sstep_ok hP h hK hF hR (fun G' h' => hg ρ G' hK hF h')
theorem GS.split {F : sFs} {s : sS} (c : sQ) (h1 : GS X Ft dfl Mt lw P K ((c, true) :: F) s) (h2 : GS X Ft dfl Mt lw P K ((c, false) :: F) s) : GS X Ft dfl Mt lw P K F s := fun ρ G hK hF hR => by
  cases hc : sc X ρ c with
  | true => exact h1 ρ G hK ⟨hF.1, fun f hf => by rcases List.mem_cons.mp hf with e | hf; (· rw [e]; exact hc); exact hF.2 f hf⟩ hR
  | false => exact h2 ρ G hK ⟨hF.1, fun f hf => by rcases List.mem_cons.mp hf with e | hf; (· rw [e]; exact hc); exact hF.2 f hf⟩ hR
end INST
