/-! ===== a term, bit by bit ===== -/
section BBT
variable {X : pX} {ρ : sR} {F : sFs}
/-- a bit: known, or that bit of a term -/
abbrev sB : Type := Bool ⊕ (sT × Nat)
noncomputable def bval (X : pX) (ρ : sR) (q : sB) : Bool := match q with
  | .inl b => b
  | .inr p => tb X ρ p.1 p.2
noncomputable def bisz (q : sB) : Bool := match q with
  | .inl b => !b
  | .inr _ => false
theorem bisz_ok {q : sB} (h : bisz q = true) : bval X ρ q = false := by
  cases q with
  | inl b => simpa [bisz, bval] using h
  | inr p => cases h
noncomputable def bandB (p q d : sB) : sB := match p with
  | .inl b => (bif b then q else .inl false)
  | .inr z => match q with
    | .inl c => (bif c then .inr z else .inl false)
    | .inr _ => d
noncomputable def borB (p q d : sB) : sB := match p with
  | .inl b => (bif b then .inl true else q)
  | .inr z => match q with
    | .inl c => (bif c then .inl true else .inr z)
    | .inr _ => d
noncomputable def bxorB (p q d : sB) : sB := match p with
  | .inl b => (match q with
    | .inl c => .inl (b != c)
    | .inr z => (bif b then d else .inr z))
  | .inr z => match q with
    | .inl c => (bif c then d else .inr z)
    | .inr _ => d
theorem bandB_ok {p q d : sB} {a b : Bool} (h1 : bval X ρ p = a) (h2 : bval X ρ q = b) (h3 : bval X ρ d = (a && b)) : bval X ρ (bandB p q d) = (a && b) := by
  cases p with
  | inl x =>
    have h1 : x = a := h1
    subst h1
    cases x with
    | true => rw [Bool.true_and]; exact h2
    | false => rfl
  | inr z =>
    cases q with
    | inl c =>
      have h2 : c = b := h2
      subst h2
      cases c with
      | true => rw [Bool.and_true]; exact h1
      | false => rw [Bool.and_false]; rfl
    | inr y => exact h3
theorem borB_ok {p q d : sB} {a b : Bool} (h1 : bval X ρ p = a) (h2 : bval X ρ q = b) (h3 : bval X ρ d = (a || b)) : bval X ρ (borB p q d) = (a || b) := by
  cases p with
  | inl x =>
    have h1 : x = a := h1
    subst h1
    cases x with
    | true => rfl
    | false => rw [Bool.false_or]; exact h2
  | inr z =>
    cases q with
    | inl c =>
      have h2 : c = b := h2
      subst h2
      cases c with
      | true => rw [Bool.or_true]; rfl
      | false => rw [Bool.or_false]; exact h1
    | inr y => exact h3
theorem bxorB_ok {p q d : sB} {a b : Bool} (h1 : bval X ρ p = a) (h2 : bval X ρ q = b) (h3 : bval X ρ d = (a ^^ b)) : bval X ρ (bxorB p q d) = (a ^^ b) := by
  cases p with
  | inl x =>
    have h1 : x = a := h1
    subst h1
    cases q with
    | inl c =>
      have h2 : c = b := h2
      subst h2
      rfl
    | inr z =>
      cases x with
      | true => exact h3
      | false => rw [Bool.false_xor]; exact h2
  | inr z =>
    cases q with
    | inl c =>
      have h2 : c = b := h2
      subst h2
      cases c with
      | true => exact h3
      | false => rw [Bool.xor_false]; exact h1
    | inr y => exact h3
/-- the bit as it stands; none, if the number is too small to have it -/
noncomputable def bat (F : sFs) (t : sT) (k : Nat) : sB := bif decide (0 ≤ (sivl F t).1) then (bif decide ((sivl F t).1 = (sivl F t).2) then .inl (Nat.testBit (sivl F t).1.toNat k) else bif decide ((sivl F t).2 < ((2 ^ k : Nat) : Int)) then .inl false else .inr (t, k)) else .inr (t, k)
theorem bz_of {w : Nat} {x : BitVec w} {k : Nat} (h0 : 0 ≤ x.toInt) (h1 : x.toInt < ((2 ^ k : Nat) : Int)) : x.getLsbD k = false := by
  have e : x.toInt = (x.toNat : Int) := by
    rw [BitVec.toInt_eq_toNat_cond] at h0 ⊢
    split
    · rfl
    · next h =>
      rw [if_neg h] at h0
      have := x.isLt
      omega
  rw [e] at h1
  have h2 : x.toNat < 2 ^ k := by exact_mod_cast h1
  exact Nat.testBit_lt_two_pow h2
theorem bn_of {w : Nat} {x : BitVec w} {k : Nat} (h0 : 0 ≤ x.toInt) : x.getLsbD k = Nat.testBit x.toInt.toNat k := by
  have e : x.toInt = (x.toNat : Int) := by
    rw [BitVec.toInt_eq_toNat_cond] at h0 ⊢
    split
    · rfl
    · next h =>
      rw [if_neg h] at h0
      have := x.isLt
      omega
  rw [e, Int.toNat_natCast]
  rfl
theorem bat_ok (hF : fok X ρ F) (t : sT) (k : Nat) : bval X ρ (bat F t k) = tb X ρ t k := by
  unfold bat
  cases h : decide (0 ≤ (sivl F t).1) with
  | false => rfl
  | true =>
    have h := of_decide_eq_true h
    obtain ⟨s1, s2⟩ := sivl_ok hF t
    cases h1 : decide ((sivl F t).1 = (sivl F t).2) with
    | true =>
      have h1 := of_decide_eq_true h1
      show Nat.testBit (sivl F t).1.toNat k = tb X ρ t k
      have e : sn X ρ t = (sivl F t).1 := by omega
      unfold tb
      unfold sn at e
      split
      · next hk =>
        rw [if_pos hk] at e
        rw [← e]
        exact (bn_of (x := (sd X ρ t).2.toBitVec) (by show 0 ≤ (sd X ρ t).2.toInt; omega)).symm
      · next hk =>
        rw [if_neg hk] at e
        rw [← e]
        exact (bn_of (x := (sd X ρ t).1.toBitVec) (by show 0 ≤ (sd X ρ t).1.toInt; omega)).symm
    | false =>
      cases h2 : decide ((sivl F t).2 < ((2 ^ k : Nat) : Int)) with
      | false => rfl
      | true =>
        have h2 := of_decide_eq_true h2
        show false = tb X ρ t k
        unfold tb
        unfold sn at s1 s2
        split
        · next hk =>
          rw [if_pos hk] at s1 s2
          exact (bz_of (x := (sd X ρ t).2.toBitVec) (Int.le_trans h s1) (Int.lt_of_le_of_lt s2 h2)).symm
        · next hk =>
          rw [if_neg hk] at s1 s2
          exact (bz_of (x := (sd X ρ t).1.toBitVec) (Int.le_trans h s1) (Int.lt_of_le_of_lt s2 h2)).symm
theorem bif_ok {c : Bool} {p d : sB} {v : Bool} (h1 : c = true → bval X ρ p = v) (h2 : bval X ρ d = v) : bval X ρ (bif c then p else d) = v := by
  cases c with
  | true => exact h1 rfl
  | false => exact h2
/-- by how much is shifted -/
noncomputable def bamt (w : Nat) (b : sT) : Option Nat := match sC1 b with
  | some p => (bif Nat.blt p.1.toNatClampNeg w && decide (p.1 = Int32.ofNat p.1.toNatClampNeg) then some p.1.toNatClampNeg else none)
  | none => none
theorem bamt_ok {w : Nat} {b : sT} {n : Nat} (h : bamt w b = some n) : n < w ∧ (sd X ρ b).1 = Int32.ofNat n := by
  unfold bamt at h
  split at h
  · next p hp =>
    rw [sC1_ok hp]
    cases hc : (Nat.blt p.1.toNatClampNeg w && decide (p.1 = Int32.ofNat p.1.toNatClampNeg)) with
    | false => rw [hc] at h; cases h
    | true =>
      rw [hc] at h
      cases h
      rw [Bool.and_eq_true, decide_eq_true_eq] at hc
      exact ⟨Nat.blt_eq.mp hc.1, hc.2⟩
  · cases h
noncomputable def bpw (w : Nat) (m : BitVec w) : Option Nat := (List.range w).find? (fun k => decide (m = BitVec.twoPow w k))
theorem bpw_ok {w : Nat} {m : BitVec w} {n : Nat} (h : bpw w m = some n) : n < w ∧ m = BitVec.twoPow w n := ⟨List.mem_range.mp (List.mem_of_find?_eq_some h), of_decide_eq_true (List.find?_some (p := fun k => decide (m = BitVec.twoPow w k)) h)⟩
noncomputable def bopt (o : Option Nat) (f : Nat → sB) (d : sB) : sB := match o with
  | some n => f n
  | none => d
theorem bopt_ok {o : Option Nat} {f : Nat → sB} {d : sB} {v : Bool} (h1 : ∀ n, o = some n → bval X ρ (f n) = v) (h2 : bval X ρ d = v) : bval X ρ (bopt o f d) = v := by
  cases o with
  | some n => exact h1 n rfl
  | none => exact h2
noncomputable def bshl (f : Nat → sB) (k j : Nat) : sB := bif Nat.blt k j then .inl false else f (k - j)
noncomputable def bushr (w : Nat) (f : Nat → sB) (k j : Nat) : sB := bif Nat.blt (k + j) w then f (k + j) else .inl false
noncomputable def bsshr (w : Nat) (f : Nat → sB) (k j : Nat) : sB := bif Nat.blt (k + j) w then f (k + j) else f (w - 1)
/-- no two bits up to this one in the same place -/
noncomputable def bdis (f g : Nat → sB) (k : Nat) : Bool := (List.range (k + 1)).all (fun i => bisz (f i) || bisz (g i))
theorem add_dis {w : Nat} {x y : BitVec w} {k : Nat} (hk : k < w) (h : ∀ i, i ≤ k → (x.getLsbD i && y.getLsbD i) = false) : (x + y).getLsbD k = (x.getLsbD k || y.getLsbD k) := by
  have hc : ∀ j, j ≤ k → BitVec.carry j x y false = false := by
    intro j
    induction j with
    | zero => intro _; exact BitVec.carry_zero ..
    | succ j ih =>
      intro hj
      rw [BitVec.carry_succ, ih (by omega)]
      have := h j (by omega)
      cases hx : x.getLsbD j <;> cases hy : y.getLsbD j <;> rw [hx, hy] at this <;> simp_all [Bool.atLeastTwo]
  rw [BitVec.getLsbD_add hk, hc k (Nat.le_refl _)]
  have := h k (Nat.le_refl _)
  cases hx : x.getLsbD k <;> cases hy : y.getLsbD k <;> rw [hx, hy] at this <;> simp_all
theorem sh_il {x : Int32} {n : Nat} (h : n < 32) : (x <<< (Int32.ofNat n &&& 31)).toBitVec = x.toBitVec <<< n := by
  have hsh : ∀ n : Nat, n < 32 → ((Int32.ofNat n &&& 31).toBitVec.smod 32#32).toNat = n := by decide
  rw [Int32.toBitVec_shiftLeft, BitVec.shiftLeft_eq']
  congr 1
  exact hsh n h
theorem sh_ir {x : Int32} {n : Nat} (h : n < 32) : (x >>> (Int32.ofNat n &&& 31)).toBitVec = x.toBitVec.sshiftRight n := by
  have hsh : ∀ n : Nat, n < 32 → ((Int32.ofNat n &&& 31).toBitVec.smod 32#32).toNat = n := by decide
  rw [Int32.toBitVec_shiftRight, BitVec.sshiftRight_eq']
  congr 1
  exact hsh n h
theorem sh_iu {x : Int32} {n : Nat} (h : n < 32) : (x.toUInt32 >>> ((Int32.ofNat n).toUInt32 &&& Int32.toUInt32 31)).toInt32.toBitVec = x.toBitVec >>> n := by
  have hsh : ∀ n : Nat, n < 32 → (((Int32.ofNat n).toBitVec &&& (31 : Int32).toBitVec) % 32#32).toNat = n := by decide
  show (x.toUInt32 >>> ((Int32.ofNat n).toUInt32 &&& Int32.toUInt32 31)).toBitVec = _
  rw [UInt32.toBitVec_shiftRight, UInt32.toBitVec_and, BitVec.ushiftRight_eq']
  congr 1
  exact hsh n h
theorem sh_ll {x : Int64} {n : Nat} (h : n < 64) : (x <<< ((Int32.ofNat n).toInt64 &&& 63)).toBitVec = x.toBitVec <<< n := by
  have hsh : ∀ n : Nat, n < 64 → (((Int32.ofNat n).toInt64 &&& 63).toBitVec.smod 64#64).toNat = n := by decide
  rw [Int64.toBitVec_shiftLeft, BitVec.shiftLeft_eq']
  congr 1
  exact hsh n h
theorem sh_lr {x : Int64} {n : Nat} (h : n < 64) : (x >>> ((Int32.ofNat n).toInt64 &&& 63)).toBitVec = x.toBitVec.sshiftRight n := by
  have hsh : ∀ n : Nat, n < 64 → (((Int32.ofNat n).toInt64 &&& 63).toBitVec.smod 64#64).toNat = n := by decide
  rw [Int64.toBitVec_shiftRight, BitVec.sshiftRight_eq']
  congr 1
  exact hsh n h
theorem sh_lu {x : Int64} {n : Nat} (h : n < 64) : (x.toUInt64 >>> ((Int32.ofNat n).toInt64.toUInt64 &&& Int64.toUInt64 63)).toInt64.toBitVec = x.toBitVec >>> n := by
  have hsh : ∀ n : Nat, n < 64 → (((Int32.ofNat n).toInt64.toBitVec &&& (63 : Int64).toBitVec) % 64#64).toNat = n := by decide
  show (x.toUInt64 >>> ((Int32.ofNat n).toInt64.toUInt64 &&& Int64.toUInt64 63)).toBitVec = _
  rw [UInt64.toBitVec_shiftRight, UInt64.toBitVec_and, BitVec.ushiftRight_eq']
  congr 1
  exact hsh n h
/-- what the kinds of both must be, then so, else as it stands -/
noncomputable def bk2 (a b : Nat) (x y : sT) (p d : sB) : sB := bif Nat.beq (sk x) a && Nat.beq (sk y) b then p else d
theorem bk2_ok {a b : Nat} {x y : sT} {p d : sB} {v : Bool} (h1 : sk x = a → sk y = b → bval X ρ p = v) (h2 : bval X ρ d = v) : bval X ρ (bk2 a b x y p d) = v := by
  unfold bk2
  refine bif_ok (fun h => ?_) h2
  rw [Bool.and_eq_true] at h
  exact h1 (Nat.eq_of_beq_eq_true h.1) (Nat.eq_of_beq_eq_true h.2)
/-- an operation's bit, by those of its sides -/
noncomputable def bop2 (o : Binary) (x y : sT) (f g : Nat → sB) (d : sB) (k : Nat) : sB := @Jvm.Binary.rec (fun _ => sT → sT → (Nat → sB) → (Nat → sB) → sB → Nat → sB)
  (fun x y f g d k => bk2 0 0 x y (bandB (f k) (g k) d) d)
  (fun x y f g d k => bk2 0 0 x y (borB (f k) (g k) d) d)
  (fun x y f g d k => bk2 0 0 x y (bxorB (f k) (g k) d) d)
  (fun x y f _ d k => bk2 0 0 x y (bopt (bamt 32 y) (bshl f k) d) d)
  (fun x y f _ d k => bk2 0 0 x y (bopt (bamt 32 y) (bsshr 32 f k) d) d)
  (fun x y f _ d k => bk2 0 0 x y (bopt (bamt 32 y) (bushr 32 f k) d) d)
  (fun x y f g d k => bk2 1 1 x y (bif bdis f g k then borB (f k) (g k) d else d) d)
  (fun _ _ _ _ d _ => d)
  (fun x y f _ d k => bk2 1 1 x y (match sC1 y with
    | some p => bopt (bpw 64 p.2.toBitVec) (bshl f k) d
    | none => d) d)
  (fun _ _ _ _ d _ => d) (fun _ _ _ _ d _ => d)
  (fun x y f g d k => bk2 1 1 x y (bandB (f k) (g k) d) d)
  (fun x y f g d k => bk2 1 1 x y (borB (f k) (g k) d) d)
  (fun x y f g d k => bk2 1 1 x y (bxorB (f k) (g k) d) d)
  (fun x y f _ d k => bk2 1 0 x y (bopt (bamt 64 y) (bshl f k) d) d)
  (fun x y f _ d k => bk2 1 0 x y (bopt (bamt 64 y) (bsshr 64 f k) d) d)
  (fun x y f _ d k => bk2 1 0 x y (bopt (bamt 64 y) (bushr 64 f k) d) d)
  (fun _ _ _ _ d _ => d) (fun _ _ _ _ d _ => d) (fun _ _ _ _ d _ => d) (fun _ _ _ _ d _ => d) (fun _ _ _ _ d _ => d) (fun _ _ _ _ d _ => d) (fun _ _ _ _ d _ => d) (fun _ _ _ _ d _ => d) (fun _ _ _ _ d _ => d) (fun _ _ _ _ d _ => d) (fun _ _ _ _ d _ => d) (fun _ _ _ _ d _ => d) (fun _ _ _ _ d _ => d) (fun _ _ _ _ d _ => d) (fun _ _ _ _ d _ => d) o x y f g d k
noncomputable def bop1 (o : Unary) (x : sT) (f : Nat → sB) (d : sB) (k : Nat) : sB := @Jvm.Unary.rec (fun _ => sT → (Nat → sB) → sB → Nat → sB)
  (fun _ _ d _ => d) (fun _ _ d _ => d)
  (fun x f d k => bif Nat.beq (sk x) 0 then (bif Nat.blt k 32 then f k else f 31) else d)
  (fun x f d k => bif Nat.beq (sk x) 1 then f k else d)
  (fun _ _ d _ => d) (fun _ _ d _ => d) (fun _ _ d _ => d) (fun _ _ d _ => d) (fun _ _ d _ => d) (fun _ _ d _ => d) (fun _ _ d _ => d) (fun _ _ d _ => d) (fun _ _ d _ => d) (fun _ _ d _ => d) (fun _ _ d _ => d) (fun _ _ d _ => d) (fun _ _ d _ => d) (fun _ _ d _ => d) (fun _ _ d _ => d) (fun _ _ d _ => d) (fun _ _ d _ => d) o x f d k
noncomputable def bb (t : sT) (F : sFs) (k : Nat) : sB := @Jvm.Term.rec (fun _ => sFs → Nat → sB)
  (fun i F k => bat F (.arg i) k)
  (fun v _ k => .inl (v.toBitVec.getLsbD k))
  (fun v _ k => .inl (v.toBitVec.getLsbD k))
  (fun F k => bat F .null k)
  (fun i F k => bat F (.index i) k)
  (fun t c n d _ F k => bat F (.field t c n d) k)
  (fun c n d F k => bat F (.static c n d) k)
  (fun c i F k => bat F (.string c i) k)
  (fun c F k => bat F (.mirror c) k)
  (fun t _ F k => bat F (.length t) k)
  (fun t i _ _ F k => bat F (.elem t i) k)
  (fun a b ha hb F k => bk2 0 0 a b (bif bdis (ha F) (hb F) k then borB (ha F k) (hb F k) (bat F (.add a b) k) else bat F (.add a b) k) (bat F (.add a b) k))
  (fun a b _ _ F k => bat F (.sub a b) k)
  (fun a b ha _ F k => bk2 0 0 a b (match sC1 b with
    | some p => bopt (bpw 32 p.1.toBitVec) (bshl (ha F) k) (bat F (.mul a b) k)
    | none => bat F (.mul a b) k) (bat F (.mul a b) k))
  (fun a b _ _ F k => bat F (.div a b) k)
  (fun a b _ _ F k => bat F (.rem a b) k)
  (fun o a b ha hb F k => bop2 o a b (ha F) (hb F) (bat F (.op2 o a b) k) k)
  (fun o a ha F k => bop1 o a (ha F) (bat F (.op1 o a) k) k)
  (fun t _ F k => bat F (.sum t) k)
  (fun F k => bat F .result k)
  (fun F k => bat F .thrown k)
  (fun t _ F k => bat F (.old t) k) t F k
/-- how many bits a term has -/
noncomputable def bw (t : sT) : Nat := if sk t = 1 then 64 else 32
theorem bw_i {t : sT} (h : sk t = 0) : bw t = 32 := by
  unfold bw
  rw [if_neg (by rw [h]; decide)]
theorem bw_l {t : sT} (h : sk t = 1) : bw t = 64 := by
  unfold bw
  rw [if_pos h]
theorem bdis_ok {f g : Nat → sB} {k : Nat} (h : bdis f g k = true) : ∀ i, i ≤ k → (bval X ρ (f i) && bval X ρ (g i)) = false := by
  intro i hi
  have h1 := List.all_eq_true.mp h i (List.mem_range.mpr (by omega))
  rw [Bool.or_eq_true] at h1
  rcases h1 with h1 | h1
  · rw [bisz_ok h1, Bool.false_and]
  · rw [bisz_ok h1, Bool.and_false]
theorem bshl_ok {w : Nat} {x : BitVec w} {f : Nat → sB} {k j : Nat} (hk : k < w) (h : ∀ i, i < w → bval X ρ (f i) = x.getLsbD i) : bval X ρ (bshl f k j) = (x <<< j).getLsbD k := by
  unfold bshl
  rw [BitVec.getLsbD_shiftLeft]
  cases hc : Nat.blt k j with
  | true =>
    have : k < j := Nat.blt_eq.mp hc
    simp [this, bval]
  | false =>
    have : ¬ k < j := fun q => by rw [Nat.blt_eq.mpr q] at hc; cases hc
    show bval X ρ (f (k - j)) = _
    rw [h (k - j) (by omega)]
    simp [this, hk]
theorem bushr_ok {w : Nat} {x : BitVec w} {f : Nat → sB} {k j : Nat} (h : ∀ i, i < w → bval X ρ (f i) = x.getLsbD i) : bval X ρ (bushr w f k j) = (x >>> j).getLsbD k := by
  unfold bushr
  rw [BitVec.getLsbD_ushiftRight, Nat.add_comm j k]
  cases hc : Nat.blt (k + j) w with
  | true => exact h _ (Nat.blt_eq.mp hc)
  | false =>
    have : ¬ k + j < w := fun q => by rw [Nat.blt_eq.mpr q] at hc; cases hc
    show false = _
    rw [BitVec.getLsbD_of_ge x (k + j) (by omega)]
theorem bsshr_ok {w : Nat} {x : BitVec w} {f : Nat → sB} {k j : Nat} (hk : k < w) (h : ∀ i, i < w → bval X ρ (f i) = x.getLsbD i) : bval X ρ (bsshr w f k j) = (x.sshiftRight j).getLsbD k := by
  unfold bsshr
  rw [BitVec.getLsbD_sshiftRight, Nat.add_comm j k]
  cases hc : Nat.blt (k + j) w with
  | true =>
    have : k + j < w := Nat.blt_eq.mp hc
    show bval X ρ (f (k + j)) = _
    rw [h _ this]
    simp [this, hk]
  | false =>
    have : ¬ k + j < w := fun q => by rw [Nat.blt_eq.mpr q] at hc; cases hc
    show bval X ρ (f (w - 1)) = _
    rw [h _ (by omega)]
    simp [this, hk, BitVec.msb_eq_getLsbD_last]
theorem bb_ok (hF : fok X ρ F) : ∀ (t : sT) (k : Nat), k < bw t → bval X ρ (bb t F k) = tb X ρ t k := by
  intro t
  induction t with
  | int v => intro k _; rw [tb_i rfl]; rfl
  | long v => intro k _; rw [tb_l rfl]; rfl
  | add a b iha ihb =>
    intro k hk
    show bval X ρ (bk2 0 0 a b (bif bdis (bb a F) (bb b F) k then borB (bb a F k) (bb b F k) (bat F (.add a b) k) else bat F (.add a b) k) (bat F (.add a b) k)) = _
    refine bk2_ok (fun ka kb => bif_ok (fun hd => ?_) (bat_ok hF _ k)) (bat_ok hF _ k)
    have hk : k < 32 := hk
    have ea : ∀ i, i < 32 → bval X ρ (bb a F i) = (sd X ρ a).1.toBitVec.getLsbD i := fun i hi => by rw [iha i (by rw [bw_i ka]; exact hi), tb_i ka]
    have eb : ∀ i, i < 32 → bval X ρ (bb b F i) = (sd X ρ b).1.toBitVec.getLsbD i := fun i hi => by rw [ihb i (by rw [bw_i kb]; exact hi), tb_i kb]
    have e : tb X ρ (.add a b) k = ((sd X ρ a).1.toBitVec.getLsbD k || (sd X ρ b).1.toBitVec.getLsbD k) := by
      rw [tb_i rfl]
      show ((sd X ρ a).1 + (sd X ρ b).1).toBitVec.getLsbD k = _
      rw [Int32.toBitVec_add, add_dis hk (fun i hi => by rw [← ea i (by omega), ← eb i (by omega)]; exact bdis_ok hd i hi)]
    rw [e]
    exact borB_ok (ea k hk) (eb k hk) (by rw [← e]; exact bat_ok hF _ k)
  | mul a b iha _ =>
    intro k hk
    show bval X ρ (bk2 0 0 a b (match sC1 b with
      | some p => bopt (bpw 32 p.1.toBitVec) (bshl (bb a F) k) (bat F (.mul a b) k)
      | none => bat F (.mul a b) k) (bat F (.mul a b) k)) = _
    refine bk2_ok (fun ka kb => ?_) (bat_ok hF _ k)
    have hk : k < 32 := hk
    split
    · next p hp =>
      refine bopt_ok (fun n hn => ?_) (bat_ok hF _ k)
      obtain ⟨n1, n2⟩ := bpw_ok hn
      rw [tb_i rfl]
      show _ = ((sd X ρ a).1 * (sd X ρ b).1).toBitVec.getLsbD k
      rw [sC1_ok hp, Int32.toBitVec_mul, n2, BitVec.mul_twoPow_eq_shiftLeft]
      exact bshl_ok hk (fun i hi => by rw [iha i (by rw [bw_i ka]; exact hi), tb_i ka])
    · exact bat_ok hF _ k
  | op2 o a b iha ihb =>
    intro k hk
    show bval X ρ (bop2 o a b (bb a F) (bb b F) (bat F (.op2 o a b) k) k) = _
    have ai : sk a = 0 → ∀ i, i < 32 → bval X ρ (bb a F i) = (sd X ρ a).1.toBitVec.getLsbD i := fun ka i hi => by rw [iha i (by rw [bw_i ka]; exact hi), tb_i ka]
    have bi : sk b = 0 → ∀ i, i < 32 → bval X ρ (bb b F i) = (sd X ρ b).1.toBitVec.getLsbD i := fun ka i hi => by rw [ihb i (by rw [bw_i ka]; exact hi), tb_i ka]
    have al : sk a = 1 → ∀ i, i < 64 → bval X ρ (bb a F i) = (sd X ρ a).2.toBitVec.getLsbD i := fun ka i hi => by rw [iha i (by rw [bw_l ka]; exact hi), tb_l ka]
    have bl : sk b = 1 → ∀ i, i < 64 → bval X ρ (bb b F i) = (sd X ρ b).2.toBitVec.getLsbD i := fun ka i hi => by rw [ihb i (by rw [bw_l ka]; exact hi), tb_l ka]
    cases o with
    | iand =>
      refine bk2_ok (fun ka kb => ?_) (bat_ok hF _ k)
      have hk : k < 32 := hk
      have e : tb X ρ (.op2 .iand a b) k = ((sd X ρ a).1.toBitVec.getLsbD k && (sd X ρ b).1.toBitVec.getLsbD k) := by
        rw [tb_i rfl]
        show ((sd X ρ a).1 &&& (sd X ρ b).1).toBitVec.getLsbD k = _
        rw [Int32.toBitVec_and, BitVec.getLsbD_and]
      rw [e]
      exact bandB_ok (ai ka k hk) (bi kb k hk) (by rw [← e]; exact bat_ok hF _ k)
    | ior =>
      refine bk2_ok (fun ka kb => ?_) (bat_ok hF _ k)
      have hk : k < 32 := hk
      have e : tb X ρ (.op2 .ior a b) k = ((sd X ρ a).1.toBitVec.getLsbD k || (sd X ρ b).1.toBitVec.getLsbD k) := by
        rw [tb_i rfl]
        show ((sd X ρ a).1 ||| (sd X ρ b).1).toBitVec.getLsbD k = _
        rw [Int32.toBitVec_or, BitVec.getLsbD_or]
      rw [e]
      exact borB_ok (ai ka k hk) (bi kb k hk) (by rw [← e]; exact bat_ok hF _ k)
    | ixor =>
      refine bk2_ok (fun ka kb => ?_) (bat_ok hF _ k)
      have hk : k < 32 := hk
      have e : tb X ρ (.op2 .ixor a b) k = ((sd X ρ a).1.toBitVec.getLsbD k ^^ (sd X ρ b).1.toBitVec.getLsbD k) := by
        rw [tb_i rfl]
        show ((sd X ρ a).1 ^^^ (sd X ρ b).1).toBitVec.getLsbD k = _
        rw [Int32.toBitVec_xor, BitVec.getLsbD_xor]
      rw [e]
      exact bxorB_ok (ai ka k hk) (bi kb k hk) (by rw [← e]; exact bat_ok hF _ k)
    | ishl =>
      refine bk2_ok (fun ka kb => bopt_ok (fun n hn => ?_) (bat_ok hF _ k)) (bat_ok hF _ k)
      have hk : k < 32 := hk
      obtain ⟨n1, n2⟩ := bamt_ok (X := X) (ρ := ρ) hn
      rw [tb_i rfl]
      show _ = ((sd X ρ a).1 <<< ((sd X ρ b).1 &&& 31)).toBitVec.getLsbD k
      rw [n2, sh_il n1]
      exact bshl_ok hk (ai ka)
    | ishr =>
      refine bk2_ok (fun ka kb => bopt_ok (fun n hn => ?_) (bat_ok hF _ k)) (bat_ok hF _ k)
      have hk : k < 32 := hk
      obtain ⟨n1, n2⟩ := bamt_ok (X := X) (ρ := ρ) hn
      rw [tb_i rfl]
      show _ = ((sd X ρ a).1 >>> ((sd X ρ b).1 &&& 31)).toBitVec.getLsbD k
      rw [n2, sh_ir n1]
      exact bsshr_ok hk (ai ka)
    | iushr =>
      refine bk2_ok (fun ka kb => bopt_ok (fun n hn => ?_) (bat_ok hF _ k)) (bat_ok hF _ k)
      have hk : k < 32 := hk
      obtain ⟨n1, n2⟩ := bamt_ok (X := X) (ρ := ρ) hn
      rw [tb_i rfl]
      show _ = (((sd X ρ a).1.toUInt32 >>> ((sd X ρ b).1.toUInt32 &&& Int32.toUInt32 31)).toInt32).toBitVec.getLsbD k
      rw [n2, sh_iu n1]
      exact bushr_ok (ai ka)
    | ladd =>
      refine bk2_ok (fun ka kb => bif_ok (fun hd => ?_) (bat_ok hF _ k)) (bat_ok hF _ k)
      have hk : k < 64 := hk
      have e : tb X ρ (.op2 .ladd a b) k = ((sd X ρ a).2.toBitVec.getLsbD k || (sd X ρ b).2.toBitVec.getLsbD k) := by
        rw [tb_l rfl]
        show ((sd X ρ a).2 + (sd X ρ b).2).toBitVec.getLsbD k = _
        rw [Int64.toBitVec_add, add_dis hk (fun i hi => by rw [← al ka i (by omega), ← bl kb i (by omega)]; exact bdis_ok hd i hi)]
      rw [e]
      exact borB_ok (al ka k hk) (bl kb k hk) (by rw [← e]; exact bat_ok hF _ k)
    | lmul =>
      refine bk2_ok (fun ka kb => ?_) (bat_ok hF _ k)
      have hk : k < 64 := hk
      show bval X ρ (match sC1 b with
        | some p => bopt (bpw 64 p.2.toBitVec) (bshl (bb a F) k) (bat F (.op2 .lmul a b) k)
        | none => bat F (.op2 .lmul a b) k) = _
      split
      · next p hp =>
        refine bopt_ok (fun n hn => ?_) (bat_ok hF _ k)
        obtain ⟨n1, n2⟩ := bpw_ok hn
        rw [tb_l rfl]
        show _ = ((sd X ρ a).2 * (sd X ρ b).2).toBitVec.getLsbD k
        rw [sC1_ok hp, Int64.toBitVec_mul, n2, BitVec.mul_twoPow_eq_shiftLeft]
        exact bshl_ok hk (al ka)
      · exact bat_ok hF _ k
    | land =>
      refine bk2_ok (fun ka kb => ?_) (bat_ok hF _ k)
      have hk : k < 64 := hk
      have e : tb X ρ (.op2 .land a b) k = ((sd X ρ a).2.toBitVec.getLsbD k && (sd X ρ b).2.toBitVec.getLsbD k) := by
        rw [tb_l rfl]
        show ((sd X ρ a).2 &&& (sd X ρ b).2).toBitVec.getLsbD k = _
        rw [Int64.toBitVec_and, BitVec.getLsbD_and]
      rw [e]
      exact bandB_ok (al ka k hk) (bl kb k hk) (by rw [← e]; exact bat_ok hF _ k)
    | lor =>
      refine bk2_ok (fun ka kb => ?_) (bat_ok hF _ k)
      have hk : k < 64 := hk
      have e : tb X ρ (.op2 .lor a b) k = ((sd X ρ a).2.toBitVec.getLsbD k || (sd X ρ b).2.toBitVec.getLsbD k) := by
        rw [tb_l rfl]
        show ((sd X ρ a).2 ||| (sd X ρ b).2).toBitVec.getLsbD k = _
        rw [Int64.toBitVec_or, BitVec.getLsbD_or]
      rw [e]
      exact borB_ok (al ka k hk) (bl kb k hk) (by rw [← e]; exact bat_ok hF _ k)
    | lxor =>
      refine bk2_ok (fun ka kb => ?_) (bat_ok hF _ k)
      have hk : k < 64 := hk
      have e : tb X ρ (.op2 .lxor a b) k = ((sd X ρ a).2.toBitVec.getLsbD k ^^ (sd X ρ b).2.toBitVec.getLsbD k) := by
        rw [tb_l rfl]
        show ((sd X ρ a).2 ^^^ (sd X ρ b).2).toBitVec.getLsbD k = _
        rw [Int64.toBitVec_xor, BitVec.getLsbD_xor]
      rw [e]
      exact bxorB_ok (al ka k hk) (bl kb k hk) (by rw [← e]; exact bat_ok hF _ k)
    | lshl =>
      refine bk2_ok (fun ka kb => bopt_ok (fun n hn => ?_) (bat_ok hF _ k)) (bat_ok hF _ k)
      have hk : k < 64 := hk
      obtain ⟨n1, n2⟩ := bamt_ok (X := X) (ρ := ρ) hn
      rw [tb_l rfl]
      show _ = ((sd X ρ a).2 <<< ((sd X ρ b).1.toInt64 &&& 63)).toBitVec.getLsbD k
      rw [n2, sh_ll n1]
      exact bshl_ok hk (al ka)
    | lshr =>
      refine bk2_ok (fun ka kb => bopt_ok (fun n hn => ?_) (bat_ok hF _ k)) (bat_ok hF _ k)
      have hk : k < 64 := hk
      obtain ⟨n1, n2⟩ := bamt_ok (X := X) (ρ := ρ) hn
      rw [tb_l rfl]
      show _ = ((sd X ρ a).2 >>> ((sd X ρ b).1.toInt64 &&& 63)).toBitVec.getLsbD k
      rw [n2, sh_lr n1]
      exact bsshr_ok hk (al ka)
    | lushr =>
      refine bk2_ok (fun ka kb => bopt_ok (fun n hn => ?_) (bat_ok hF _ k)) (bat_ok hF _ k)
      have hk : k < 64 := hk
      obtain ⟨n1, n2⟩ := bamt_ok (X := X) (ρ := ρ) hn
      rw [tb_l rfl]
      show _ = (((sd X ρ a).2.toUInt64 >>> ((sd X ρ b).1.toInt64.toUInt64 &&& Int64.toUInt64 63)).toInt64).toBitVec.getLsbD k
      rw [n2, sh_lu n1]
      exact bushr_ok (al ka)
    | _ => exact bat_ok hF _ k
  | op1 o a iha =>
    intro k hk
    show bval X ρ (bop1 o a (bb a F) (bat F (.op1 o a) k) k) = _
    cases o with
    | i2l =>
      refine bif_ok (fun h => ?_) (bat_ok hF _ k)
      have ka : sk a = 0 := Nat.eq_of_beq_eq_true h
      have hk : k < 64 := hk
      rw [tb_l rfl]
      show _ = ((sd X ρ a).1.toInt64).toBitVec.getLsbD k
      rw [Int32.toBitVec_toInt64, BitVec.getLsbD_signExtend]
      cases hc : Nat.blt k 32 with
      | true =>
        have : k < 32 := Nat.blt_eq.mp hc
        show bval X ρ (bb a F k) = _
        rw [iha k (by rw [bw_i ka]; exact this), tb_i ka]
        simp [this, hk]
      | false =>
        have : ¬ k < 32 := fun q => by rw [Nat.blt_eq.mpr q] at hc; cases hc
        show bval X ρ (bb a F 31) = _
        rw [iha 31 (by rw [bw_i ka]; decide), tb_i ka]
        simp [this, hk, BitVec.msb_eq_getLsbD_last]
    | l2i =>
      refine bif_ok (fun h => ?_) (bat_ok hF _ k)
      have ka : sk a = 1 := Nat.eq_of_beq_eq_true h
      have hk : k < 32 := hk
      show bval X ρ (bb a F k) = _
      rw [iha k (by rw [bw_l ka]; omega), tb_l ka, tb_i rfl]
      show _ = ((sd X ρ a).2.toInt32).toBitVec.getLsbD k
      rw [Int64.toBitVec_toInt32, BitVec.getLsbD_signExtend]
      simp [show k < 64 by omega, hk]
    | _ => exact bat_ok hF _ k
  | _ => intro k _; exact bat_ok hF _ k
/-- two bits are one -/
noncomputable def bqe (p q : sB) : Bool := match p with
  | .inl a => (match q with
    | .inl b => (bif a then b else !b)
    | .inr _ => false)
  | .inr a => (match q with
    | .inl _ => false
    | .inr b => Nat.beq a.2 b.2 && tqe a.1 b.1)
theorem bqe_ok {p q : sB} (h : bqe p q = true) : bval X ρ p = bval X ρ q := by
  cases p with
  | inl a =>
    cases q with
    | inl b =>
      have h : (bif a then b else !b) = true := h
      cases a <;> cases b <;> simp_all [bval]
    | inr b => cases h
  | inr a =>
    cases q with
    | inl b => cases h
    | inr b =>
      have h : (Nat.beq a.2 b.2 && tqe a.1 b.1) = true := h
      rw [Bool.and_eq_true] at h
      show tb X ρ a.1 a.2 = tb X ρ b.1 b.2
      rw [Nat.eq_of_beq_eq_true h.1, tqe_ok _ _ h.2]
/-- is it an operation -/
noncomputable def bop (t : sT) : Bool := Nat.ble 11 (ttag t) && Nat.ble (ttag t) 17
noncomputable def tbvn (F : sFs) (a b : sT) (n : Nat) : Bool := (List.range n).all (fun k => bqe (bb a F k) (bb b F k))
/-- the same, bit by bit -/
noncomputable def tbv (F : sFs) (a b : sT) : Bool := bif bop a || bop b then (bif Nat.beq (sk a) 0 && Nat.beq (sk b) 0 then tbvn F a b 32 else bif Nat.beq (sk a) 1 && Nat.beq (sk b) 1 then tbvn F a b 64 else false) else false
theorem tbvn_i (hF : fok X ρ F) {a b : sT} (ka : sk a = 0) (kb : sk b = 0) (h : tbvn F a b 32 = true) : (sd X ρ a).1 = (sd X ρ b).1 := by
  apply Int32.toBitVec_inj.mp
  apply BitVec.eq_of_getLsbD_eq
  intro k hk
  have h1 := bqe_ok (X := X) (ρ := ρ) (List.all_eq_true.mp h k (List.mem_range.mpr hk))
  rw [bb_ok hF a k (by rw [bw_i ka]; exact hk), bb_ok hF b k (by rw [bw_i kb]; exact hk), tb_i ka, tb_i kb] at h1
  exact h1
theorem tbvn_l (hF : fok X ρ F) {a b : sT} (ka : sk a = 1) (kb : sk b = 1) (h : tbvn F a b 64 = true) : (sd X ρ a).2 = (sd X ρ b).2 := by
  apply Int64.toBitVec_inj.mp
  apply BitVec.eq_of_getLsbD_eq
  intro k hk
  have h1 := bqe_ok (X := X) (ρ := ρ) (List.all_eq_true.mp h k (List.mem_range.mpr hk))
  rw [bb_ok hF a k (by rw [bw_l ka]; exact hk), bb_ok hF b k (by rw [bw_l kb]; exact hk), tb_l ka, tb_l kb] at h1
  exact h1
theorem tbv_ok (hF : fok X ρ F) {a b : sT} (h : tbv F a b = true) : sv X ρ a = sv X ρ b := by
  unfold tbv at h
  cases h0 : (bop a || bop b) with
  | false => rw [h0] at h; cases h
  | true =>
    rw [h0] at h
    cases h1 : (Nat.beq (sk a) 0 && Nat.beq (sk b) 0) with
    | true =>
      rw [h1] at h
      rw [Bool.and_eq_true] at h1
      have ka := Nat.eq_of_beq_eq_true h1.1
      have kb := Nat.eq_of_beq_eq_true h1.2
      rw [sv_int ka, sv_int kb, tbvn_i hF ka kb h]
    | false =>
      rw [h1] at h
      cases h2 : (Nat.beq (sk a) 1 && Nat.beq (sk b) 1) with
      | true =>
        rw [h2] at h
        rw [Bool.and_eq_true] at h2
        have ka := Nat.eq_of_beq_eq_true h2.1
        have kb := Nat.eq_of_beq_eq_true h2.2
        rw [sv_long ka, sv_long kb, tbvn_l hF ka kb h]
      | false => rw [h2] at h; cases h
/-- bits that are known and differ -/
noncomputable def bdf (p q : sB) : Bool := match p with
  | .inl a => (match q with
    | .inl b => (bif a then !b else b)
    | .inr _ => false)
  | .inr _ => false
theorem bdf_ok {p q : sB} (h : bdf p q = true) : ¬ bval X ρ p = bval X ρ q := by
  cases p with
  | inl a =>
    cases q with
    | inl b =>
      have h : (bif a then !b else b) = true := h
      cases a <;> cases b <;> simp_all [bval]
    | inr b => cases h
  | inr a => cases h
noncomputable def vdecn (F : sFs) (a b : sT) (n : Nat) : Option Bool := bif (List.range n).any (fun k => bdf (bb a F k) (bb b F k)) then some false else bif tbvn F a b n then some true else none
noncomputable def vdec (F : sFs) (c : sQ) : Option Bool := bif bop c.2.1 || bop c.2.2 then (bif Nat.beq c.1 0 then (bif Nat.beq (sk c.2.1) 0 && Nat.beq (sk c.2.2) 0 then vdecn F c.2.1 c.2.2 32 else none) else bif Nat.beq c.1 6 then (bif Nat.beq (sk c.2.1) 1 && Nat.beq (sk c.2.2) 1 then vdecn F c.2.1 c.2.2 64 else none) else none) else none
theorem vdec_ok (hF : fok X ρ F) {c : sQ} {v : Bool} (h : vdec F c = some v) : sc X ρ c = v := by
  obtain ⟨n, a, b⟩ := c
  unfold vdec at h
  dsimp only at h
  cases h0 : (bop a || bop b) with
  | false => rw [h0] at h; cases h
  | true =>
    rw [h0] at h
    cases h1 : Nat.beq n 0 with
    | true =>
      rw [h1] at h
      have hn := Nat.eq_of_beq_eq_true h1
      subst hn
      cases h2 : (Nat.beq (sk a) 0 && Nat.beq (sk b) 0) with
      | false => rw [h2] at h; cases h
      | true =>
        rw [h2] at h
        rw [Bool.and_eq_true] at h2
        have ka := Nat.eq_of_beq_eq_true h2.1
        have kb := Nat.eq_of_beq_eq_true h2.2
        have h : vdecn F a b 32 = some v := h
        unfold vdecn at h
        show decide ((sd X ρ a).1 = (sd X ρ b).1) = v
        cases h3 : (List.range 32).any (fun k => bdf (bb a F k) (bb b F k)) with
        | true =>
          rw [h3] at h
          cases h
          obtain ⟨k, hk, h4⟩ := List.any_eq_true.mp h3
          have hk := List.mem_range.mp hk
          have h5 := bdf_ok (X := X) (ρ := ρ) h4
          rw [bb_ok hF a k (by rw [bw_i ka]; exact hk), bb_ok hF b k (by rw [bw_i kb]; exact hk), tb_i ka, tb_i kb] at h5
          exact decide_eq_false (fun e => h5 (by rw [e]))
        | false =>
          rw [h3] at h
          cases h4 : tbvn F a b 32 with
          | false => rw [h4] at h; cases h
          | true =>
            rw [h4] at h
            cases h
            exact decide_eq_true (tbvn_i hF ka kb h4)
    | false =>
      rw [h1] at h
      cases h1' : Nat.beq n 6 with
      | false => rw [h1'] at h; cases h
      | true =>
        rw [h1'] at h
        have hn := Nat.eq_of_beq_eq_true h1'
        subst hn
        cases h2 : (Nat.beq (sk a) 1 && Nat.beq (sk b) 1) with
        | false => rw [h2] at h; cases h
        | true =>
          rw [h2] at h
          rw [Bool.and_eq_true] at h2
          have ka := Nat.eq_of_beq_eq_true h2.1
          have kb := Nat.eq_of_beq_eq_true h2.2
          have h : vdecn F a b 64 = some v := h
          unfold vdecn at h
          show decide ((sd X ρ a).2 = (sd X ρ b).2) = v
          cases h3 : (List.range 64).any (fun k => bdf (bb a F k) (bb b F k)) with
          | true =>
            rw [h3] at h
            cases h
            obtain ⟨k, hk, h4⟩ := List.any_eq_true.mp h3
            have hk := List.mem_range.mp hk
            have h5 := bdf_ok (X := X) (ρ := ρ) h4
            rw [bb_ok hF a k (by rw [bw_l ka]; exact hk), bb_ok hF b k (by rw [bw_l kb]; exact hk), tb_l ka, tb_l kb] at h5
            exact decide_eq_false (fun e => h5 (by rw [e]))
          | false =>
            rw [h3] at h
            cases h4 : tbvn F a b 64 with
            | false => rw [h4] at h; cases h
            | true =>
              rw [h4] at h
              cases h
              exact decide_eq_true (tbvn_l hF ka kb h4)
end BBT
