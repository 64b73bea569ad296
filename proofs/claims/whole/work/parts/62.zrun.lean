/-! ===== two runs checked side by side ===== -/
/-- at a call of y: its arguments, what lies below them, where it goes on -/
noncomputable def sat1 (y : Nat) (s : sS) : Option (List sT × List sT × List pOp) := match s with
  | ((k, _, _, _, full, cur, _, st), _, _, G, _) => match cur with
    | (pc, ins, len, r1, r2, r3) :: tail => if Nat.beq r1 y && !(Nat.beq k 2) then (match sask ins r2 r3 st G, pm_to full tail pc len none with
      | some q, some cur' => some (q.1, q.2, cur')
      | _, _ => none)
      else none
    | [] => none
/-- the state behind it -/
noncomputable def sback (s : sS) (q : List sT × List sT × List pOp) (v : Option sT) (G : sH) : sS := match s with
  | ((k, nL, ret, hs, full, _, lv, _), fs, d, _, sl) => ((k, nL, ret, hs, full, q.2.2, lv, v.toList ++ q.2.1), fs, d, G, sl)
/-- as smC; of an array with places apart: the array without them, and the places -/
noncomputable def smO (σ : sM) (e0 e : Option sE) : sM := match e0, e with
  | some (.inl (_, _, .arg a, x :: u0)), some (.inl (_, _, b, u)) => (x :: u0).foldl (fun σ x => smU σ b u x) (bif (sC1 x.1).isNone && tqe b (.arg a) then σ else smB σ a b (fltU (x :: u0) u))
  | some (.inl (_, _, .old (.add (.sub (.arg q) (.index k)) (.add (.mul (.sub (.index 0) (.index _)) (.index a)) (.index _))), [])), some (.inl (_, _, .old (.add _ (.add (.mul _ (.index c)) _)), x :: u)) => bif (afnd σ a).isSome then σ else (σ.1, (a, .arg c, (x :: u).map (fun y => (fred q k y.1, y.2))) :: σ.2)
  | e0, e => smC σ e0 e
/-- arrays in a row that have become others -/
noncomputable def smRl (σ : sM) : sT → sT → sM
  | .index a, .index c => bif Nat.beq a c || (afnd σ a).isSome then σ else (σ.1, (a, .arg c, []) :: σ.2)
  | .add (.index a) r, .add (.index c) s => smRl (bif Nat.beq a c || (afnd σ a).isSome then σ else (σ.1, (a, .arg c, []) :: σ.2)) r s
  | _, _ => σ
noncomputable def smRw (σ : sM) (b0 b : sT) : sM := bif Nat.beq (ttag b0) 21 && Nat.beq (ttag b) 21 then (match b0, b with
  | .old (.add (.sub _ _) (.add (.mul _ l0) _)), .old (.add (.sub _ _) (.add (.mul _ l) _)) => smRl σ l0 l
  | .old (.mul _ l0), .old (.mul _ l) => smRl σ l0 l
  | _, _ => σ) else σ
/-- arrays in a row that were written to: a value as it was before the map, a place within its block -/
noncomputable def unv (m : Nat) (t : sT) : Option sT := bif Nat.beq m 0 then some t else bif Nat.beq m 1 then (match t with
  | .op2 .iushr x (.int v) => bif decide (v = 5) then some x else none
  | _ => none) else none
noncomputable def blkp (w j : Nat) (p : sT) : Option sT := match p with
  | .int v => bif decide (0 ≤ v) && (Nat.ble (j * w) v.toNatClampNeg && Nat.blt v.toNatClampNeg ((j + 1) * w)) then some (.int (v - Int32.ofNat (j * w))) else none
  | .arg v => bif Nat.beq j 0 then some (.arg v) else none
  | .add (.int v) x => bif decide (v = Int32.ofNat (j * w)) then some x else none
  | .add x (.int v) => bif decide (v = Int32.ofNat (j * w)) then some x else none
  | _ => none
noncomputable def smR1 (m w : Nat) (u : List (sT × sT)) (j a c : Nat) (σ : sM) : sM := bif (afnd σ a).isSome then σ else (match u.filterMap (fun y => (blkp w j y.1).bind (fun p => (unv m y.2).map (fun v => (p, v)))) with
  | [] => bif Nat.beq a c then σ else (σ.1, (a, .arg c, []) :: σ.2)
  | x :: ws => (σ.1, (a, .arg c, x :: ws) :: σ.2))
noncomputable def smRv (m w : Nat) (u : List (sT × sT)) : sT → sT → Nat → sM → sM
  | .index a, .index c, j, σ => smR1 m w u j a c σ
  | .add (.index a) r, .add (.index c) s, j, σ => smRv m w u r s (j + 1) (smR1 m w u j a c σ)
  | _, _, _, σ => σ
noncomputable def smRo (σ : sM) (b0 b : sT) (u : List (sT × sT)) (e0 e : Option sE) : sM := match b0, b with
  | .old (.mul (.sub (.index m) (.index w)) l0), .old (.mul _ l) => smRv m w u l0 l 0 σ
  | _, _ => smO σ e0 e
/-- the same, with the frequent ones first -/
noncomputable def smAr (σ : sM) (b0 : sT) (u0 : List (sT × sT)) (b : sT) (u : List (sT × sT)) (e0 e : Option sE) : sM := bif Nat.beq (ttag b0) 0 then (match u0 with
    | [] => smB σ (tpn b0) b u
    | x :: u0 => (x :: u0).foldl (fun σ x => smU σ b u x) (bif (sC1 x.1).isNone && tqe b b0 then σ else smB σ (tpn b0) b (fltU (x :: u0) u)))
  else (bif u0.isEmpty then (bif u.isEmpty then smRw σ b0 b else smRo σ b0 b u e0 e) else smO σ e0 e)
noncomputable def smD (σ : sM) (e0 e : Option sE) : sM := match e0 with
  | none => σ
  | some x0 => match e with
    | none => σ
    | some x => match x0 with
      | .inr o0 => (match x with
        | .inr o => smL σ o0.2 o.2
        | .inl _ => σ)
      | .inl a0 => (match x with
        | .inl a => smAr σ a0.2.2.1 a0.2.2.2 a.2.2.1 a.2.2.2 e0 e
        | .inr _ => σ)
noncomputable def smK (Z G : sH) (σ : sM) (l : List Nat) : sM := l.foldl (fun σ k => smD σ (hget Z k) (hget G k)) σ
/-- a contract's own variables that its facts set -/
noncomputable def slog (F0 : sFs) (σ : sM) : sM := F0.foldl (fun σ f => match f with
  | ((0, t, .arg v), true) => bif Nat.ble 60000 v && (Nat.blt v 65536 && (sfnd σ v).isNone) then ((v, ssub σ t) :: σ.1, σ.2) else σ
  | ((6, t, .arg v), true) => bif Nat.ble 60000 v && (Nat.blt v 65536 && (sfnd σ v).isNone) then ((v, ssub σ t) :: σ.1, σ.2) else σ
  | _ => σ) σ
noncomputable def rsig (Z : sH) (C : sC) (qc qm : List sT) (Gc Gm : sH) : sM := slog C.2.2.2.1 (smK Z Gm (smK Z Gc (smL (smL ([], []) C.2.1.1 qc) C.2.1.2 qm) C.2.2.1.1) C.2.2.1.2)
noncomputable def fsubs (σ : sM) (F : sFs) : sFs := F.map (fun g => ((g.1.1, ssubE σ g.1.2.1, ssubE σ g.1.2.2), g.2))
noncomputable def isubs (σ : sM) (I : sI) : sI := I.map (fun c => (fsubs σ c.1, (c.2.1.1, ssubE σ c.2.1.2.1, ssubE σ c.2.1.2.2), c.2.2))
/-- an array that a named condition looks at: untouched, or another one -/
noncomputable def agd (σ : sM) (t : sT) : Bool := match t with
  | .elem (.arg a) (.int _) => (match afnd σ a with
    | none => true
    | some (.arg c, []) => Nat.beq (c % 2) (a % 2)
    | _ => false)
  | .elem _ _ => false
  | t => (match ssubE σ t with
    | .elem _ _ => false
    | .add _ _ => false
    | _ => true)
/-- the same of each one in a row -/
noncomputable def agds (σ : sM) (n : Nat) : sT → Bool
  | .add a b => (agd σ a && (vlt n a && (sgd σ a && Nat.ble (sk a) 1))) && agds σ n b
  | t => agd σ t && (vlt n t && (sgd σ t && Nat.ble (sk t) 1))
/-- a condition that can be carried over -/
noncomputable def qgd (σ : sM) (n : Nat) (c : sQ) : Bool := (skok c && (vlt n c.2.1 && (vlt n c.2.2 && (sgd σ c.2.1 && sgd σ c.2.2)))) || (Nat.ble 100 c.1 && (agds σ n c.2.1 && (vlt n c.2.2 && (sgd σ c.2.2 && Nat.ble (sk c.2.2) 1))))
noncomputable def fgd (σ : sM) (n : Nat) (F : sFs) : Bool := F.all (fun g => qgd σ n g.1)
noncomputable def igd (σ : sM) (n : Nat) (I : sI) : Bool := I.all (fun c => fgd σ n c.1 && qgd σ n c.2.1)
noncomputable def fvlt (n : Nat) (F : sFs) : Bool := F.all (fun g => vlt n g.1.2.1 && vlt n g.1.2.2)
noncomputable def ivlt (n : Nat) (I : sI) : Bool := I.all (fun c => fvlt n c.1 && (vlt n c.2.1.2.1 && vlt n c.2.1.2.2))
/-- two things that a named condition looks at are the same -/
noncomputable def anum (t : sT) : Bool := !(Nat.beq (ttag t) 10) && (!(Nat.beq (ttag t) 11) && Nat.ble (sk t) 1)
noncomputable def ait1 (F : sFs) (a b : sT) : Bool := tqe a b || ((anum a && (anum b && Nat.beq (sk a) (sk b))) && teqX F a b)
noncomputable def aitq (F : sFs) : sT → sT → Bool
  | .add a b, y => (match y with
    | .add c d => ait1 F a c && aitq F b d
    | _ => false)
  | t, y => !(Nat.beq (ttag y) 11) && ait1 F t y
theorem ait1_ok {X : pX} {ρ : sR} {F : sFs} (hF : fok X ρ F) {a b : sT} (h : ait1 F a b = true) : aarr ρ a = aarr ρ b ∧ (if sk a = 1 then (sd X ρ a).2.toInt else (sd X ρ a).1.toInt) = (if sk b = 1 then (sd X ρ b).2.toInt else (sd X ρ b).1.toInt) := by
  unfold ait1 at h
  rw [Bool.or_eq_true] at h
  rcases h with h | h
  · rw [tqe_ok _ _ h]
    exact ⟨rfl, rfl⟩
  · simp only [Bool.and_eq_true] at h
    obtain ⟨⟨ha, hb, hk⟩, ht⟩ := h
    have hk := Nat.eq_of_beq_eq_true hk
    have hz : ∀ t : sT, anum t = true → aarr ρ t = (fun _ => 0, fun _ => 0) ∧ (sk t = 0 ∨ sk t = 1) := by
      intro t h
      simp only [anum, Bool.and_eq_true] at h
      obtain ⟨h1, _, h3⟩ := h
      have h3 : sk t ≤ 1 := Nat.le_of_ble_eq_true h3
      refine ⟨?_, by omega⟩
      cases t with
      | elem t i => cases h1
      | _ => rfl
    obtain ⟨a1, a2⟩ := hz a ha
    obtain ⟨b1, _⟩ := hz b hb
    refine ⟨by rw [a1, b1], ?_⟩
    have e := teqX_ok hF ht
    rw [← hk]
    rcases a2 with a2 | a2
    · rw [sv_int a2, sv_int (hk ▸ a2)] at e
      rw [if_neg (by rw [a2]; decide), if_neg (by rw [a2]; decide), Value.int.inj e]
    · rw [sv_long a2, sv_long (hk ▸ a2)] at e
      rw [if_pos a2, if_pos a2, Value.long.inj e]
theorem aits_1q {X : pX} {ρ : sR} {t : sT} (h : Nat.beq (ttag t) 11 = false) : aits X ρ t = [(aarr ρ t, if sk t = 1 then (sd X ρ t).2.toInt else (sd X ρ t).1.toInt)] := by
  cases t with
  | add a b => cases h
  | _ => rfl
theorem aitq_ok {X : pX} {ρ : sR} {F : sFs} (hF : fok X ρ F) : ∀ {a b : sT}, aitq F a b = true → aits X ρ a = aits X ρ b := by
  intro a
  induction a with
  | add x y _ ih =>
    intro b h
    cases b with
    | add c d =>
      have h : (ait1 F x c && aitq F y d) = true := h
      rw [Bool.and_eq_true] at h
      obtain ⟨e1, e2⟩ := ait1_ok (X := X) hF h.1
      show (aarr ρ x, if sk x = 1 then (sd X ρ x).2.toInt else (sd X ρ x).1.toInt) :: aits X ρ y = (aarr ρ c, if sk c = 1 then (sd X ρ c).2.toInt else (sd X ρ c).1.toInt) :: aits X ρ d
      rw [e1, e2, ih h.2]
    | _ => cases h
  | _ =>
    intro b h
    simp only [aitq, Bool.and_eq_true, Bool.not_eq_true'] at h
    obtain ⟨e1, e2⟩ := ait1_ok (X := X) hF h.2
    rw [aits_1q (t := b) h.1, aits_1q rfl, e1, e2]
/-- a named condition that stands there, but for the terms' forms -/
noncomputable def nmem (F : sFs) (c : sQ) (v : Bool) : Bool := Nat.ble 100 c.1 && F.any (fun f => Nat.beq f.1.1 c.1 && ((f.2 == v) && (aitq F f.1.2.1 c.2.1 && ((Nat.beq (sk f.1.2.2) (sk c.2.2) && Nat.ble (sk c.2.2) 1) && teqX F f.1.2.2 c.2.2))))
theorem nmem_ok {X : pX} {ρ : sR} {F : sFs} (hF : fok X ρ F) {c : sQ} {v : Bool} (h : nmem F c v = true) : sc X ρ c = v := by
  obtain ⟨k, a, b⟩ := c
  simp only [nmem, Bool.and_eq_true, List.any_eq_true, beq_iff_eq] at h
  obtain ⟨hk, f, hf, h1, h2, h3, ⟨h4, h5⟩, h6⟩ := h
  have h1 := Nat.eq_of_beq_eq_true h1
  have h4 := Nat.eq_of_beq_eq_true h4
  have h5 : sk b ≤ 1 := Nat.le_of_ble_eq_true h5
  have hk : 100 ≤ k := Nat.le_of_ble_eq_true hk
  obtain ⟨⟨k', a', b'⟩, v'⟩ := f
  dsimp only at h1 h2 h3 h4 h6
  subst h1
  have e := teqX_ok hF h6
  have en : sn X ρ b' = sn X ρ b := by
    unfold sn
    rw [h4]
    rcases (show sk b = 0 ∨ sk b = 1 by omega) with q | q
    · rw [sv_int (h4.trans q), sv_int q] at e
      rw [if_neg (by rw [q]; decide), if_neg (by rw [q]; decide), Value.int.inj e]
    · rw [sv_long (h4.trans q), sv_long q] at e
      rw [if_pos q, if_pos q, Value.long.inj e]
  have h7 := hF.2 _ hf
  dsimp only at h7
  rw [h2] at h7
  rw [← h7]
  have hs : ∀ (x y : sT), sc X ρ (k', x, y) = (Nat.ble 100 k' && apred k' (aits X ρ x) (sn X ρ y)) := by
    intro x y
    unfold sc
    split <;> first | rfl | (exfalso; simp_all; try omega)
  rw [hs, hs, aitq_ok hF h3, en]
/-- named conditions that hold because nothing is there -/
noncomputable def alst : sT → List sT
  | .add a b => a :: alst b
  | t => [t]
theorem aits_alst {X : pX} {ρ : sR} : ∀ t : sT, aits X ρ t = (alst t).map (fun a => (aarr ρ a, if sk a = 1 then (sd X ρ a).2.toInt else (sd X ρ a).1.toInt)) := by
  intro t
  induction t with
  | add a b _ ih =>
    show (aarr ρ a, if sk a = 1 then (sd X ρ a).2.toInt else (sd X ρ a).1.toInt) :: aits X ρ b = _
    rw [ih]
    rfl
  | _ => rfl
theorem an_alst {X : pX} {ρ : sR} {t u : sT} {i : Nat} (h : (alst t)[i]? = some u) : an_ (aits X ρ t) i = (if sk u = 1 then (sd X ρ u).2.toInt else (sd X ρ u).1.toInt) := by
  unfold an_
  rw [aits_alst, List.map_map, List.getD_eq_getElem?_getD, List.getElem?_map, h]
  rfl
noncomputable def ais0 (l : List sT) (i : Nat) : Bool := match l[i]? with
  | some t => tqe t (.int 0)
  | none => false
noncomputable def ainz (F : sFs) (l : List sT) (i : Nat) : Bool := match l[i]? with
  | some t => Nat.beq (sk t) 0 && (match vdec F (0, t, .int 0) with
    | some b => !b
    | none => false)
  | none => false
theorem ais0_ok {X : pX} {ρ : sR} {t : sT} {i : Nat} (h : ais0 (alst t) i = true) : an_ (aits X ρ t) i = 0 := by
  unfold ais0 at h
  split at h
  · next u hu =>
    rw [an_alst hu, tqe_ok _ _ h]
    rfl
  · cases h
theorem ainz_ok {X : pX} {ρ : sR} {F : sFs} (hF : fok X ρ F) {t : sT} {i : Nat} (h : ainz F (alst t) i = true) : ¬ an_ (aits X ρ t) i = 0 := by
  unfold ainz at h
  split at h
  · next u hu =>
    rw [Bool.and_eq_true] at h
    have hk := Nat.eq_of_beq_eq_true h.1
    rw [an_alst hu, if_neg (by rw [hk]; decide)]
    cases hv : vdec F (0, u, .int 0) with
    | none => rw [hv] at h; cases h.2
    | some b =>
      rw [hv] at h
      have hb : b = false := by simpa using h.2
      rw [hb] at hv
      have h1 : ¬ (sd X ρ u).1 = 0 := of_decide_eq_false (vdec_ok (X := X) hF hv)
      exact fun e => h1 (Int32.toInt_inj.mp e)
  · cases h
noncomputable def ntriv (F : sFs) (c : sQ) : Bool := bif Nat.beq c.1 121 then ais0 (alst c.2.1) 0 else bif Nat.beq c.1 120 || Nat.beq c.1 123 then ais0 (alst c.2.1) 6 && (ais0 (alst c.2.1) 8 && ainz F (alst c.2.1) 3) else bif Nat.beq c.1 124 then ais0 (alst c.2.1) 3 && ainz F (alst c.2.1) 1 else bif Nat.beq c.1 126 || Nat.beq c.1 128 then ainz F (alst c.2.1) 0 else false
theorem ntriv_ok {X : pX} {ρ : sR} {F : sFs} (hF : fok X ρ F) {c : sQ} (h : ntriv F c = true) : sc X ρ c = true := by
  obtain ⟨k, a, b⟩ := c
  unfold ntriv at h
  dsimp only at h
  cases h1 : Nat.beq k 121 with
  | true =>
    rw [h1] at h
    have e := Nat.eq_of_beq_eq_true h1
    subst e
    have h0 := ais0_ok (X := X) (ρ := ρ) h
    show atr (aits X ρ a) = true
    unfold atr
    dsimp only
    rw [if_pos h0]
  | false =>
    rw [h1] at h
    cases h2 : (Nat.beq k 120 || Nat.beq k 123) with
    | true =>
      rw [h2] at h
      have h : (ais0 (alst a) 6 && (ais0 (alst a) 8 && ainz F (alst a) 3)) = true := h
      rw [Bool.and_eq_true, Bool.and_eq_true] at h
      have h6 := ais0_ok (X := X) (ρ := ρ) h.1
      have h8 := ais0_ok (X := X) (ρ := ρ) h.2.1
      have h3 := ainz_ok (X := X) hF h.2.2
      rw [Bool.or_eq_true] at h2
      rcases h2 with h2 | h2
      · have e := Nat.eq_of_beq_eq_true h2
        subst e
        show apdi (aits X ρ a) (sn X ρ b).toNat = true
        unfold apdi
        dsimp only
        rw [h6, h8, if_neg h3]
        simp [h3]
      · have e := Nat.eq_of_beq_eq_true h2
        subst e
        show apdo (aits X ρ a) (sn X ρ b).toNat = true
        unfold apdo
        dsimp only
        rw [h6, h8, if_neg h3]
        simp [h3]
    | false =>
      rw [h2] at h
      cases h4 : Nat.beq k 124 with
      | false =>
        rw [h4] at h
        cases h5 : (Nat.beq k 126 || Nat.beq k 128) with
        | false => rw [h5] at h; cases h
        | true =>
          rw [h5] at h
          have hn := ainz_ok (X := X) (t := a) hF h
          rw [Bool.or_eq_true] at h5
          rcases h5 with h5 | h5
          · have e := Nat.eq_of_beq_eq_true h5
            subst e
            show apdm (aits X ρ a) (sn X ρ b).toNat = true
            unfold apdm
            rw [if_neg hn]
          · have e := Nat.eq_of_beq_eq_true h5
            subst e
            show apdb (aits X ρ a) = true
            unfold apdb
            rw [if_neg hn]
      | true =>
        rw [h4] at h
        have e := Nat.eq_of_beq_eq_true h4
        subst e
        have h : (ais0 (alst a) 3 && ainz F (alst a) 1) = true := h
        rw [Bool.and_eq_true] at h
        have h3 := ais0_ok (X := X) (ρ := ρ) h.1
        have hn := ainz_ok (X := X) hF h.2
        show apda (aits X ρ a) (sn X ρ b).toNat = true
        unfold apda
        dsimp only
        rw [h3, if_neg hn]
        simp
/-- what is known, or can be found out -/
noncomputable def kdecO (F : sFs) (c : sQ) (v : Bool) : Bool := qmem c v F || ((match sdec F c with
  | some b => b == v
  | none => match xdecX F c with
    | some b => b == v
    | none => false) || (v && (skok c && ((Nat.beq c.1 0 || Nat.beq c.1 6) && teqX F c.2.1 c.2.2))))
noncomputable def kdec (F : sFs) (c : sQ) (v : Bool) : Bool := bif Nat.ble 100 c.1 then qmem c v F || (nmem F c v || (v && ntriv F c)) else kdecO F c v
/-- a guard that is known not to hold, at a quick look -/
noncomputable def gno (F : sFs) (g : sQ × Bool) : Bool := qmem g.1 (!g.2) F || (match sdec F g.1 with
  | some b => b == !g.2
  | none => false)
noncomputable def ihold1 (F : sFs) (I : sI) (G : sFs) (q : sQ) (v : Bool) : Bool := I.any (fun x => qqe x.2.1 q && ((x.2.2 == v) && fqe x.1 G)) || (G.any (fun g => gno F g) || (kdec F q v || (G.any (fun g => kdec F g.1 (!g.2)) || (I.any (fun x => qqe x.2.1 q && ((x.2.2 == v) && x.1.all (fun g => kdec (G ++ F) g.1 g.2))) || (scon (isat (G ++ F) I) || (kdec (isat (G ++ F) I) q v || I.any (fun x => qqe x.2.1 q && ((x.2.2 == v) && x.1.all (fun g => kdec (isat (G ++ F) I) g.1 g.2)))))))))
/-- a pattern's term shows so under the setting (variables, numbers, places of arrays) -/
noncomputable def tqsO (σ : sM) (t0 t : sT) : Bool := match t0 with
  | .arg i => (match sfnd σ i with
    | some u => tqe u t && Nat.beq (sk u) (i % 2)
    | none => tqe (.arg i) t)
  | .int v => tqe (.int v) t
  | .long v => tqe (.long v) t
  | .elem (.arg a) (.int k) => (match afnd σ a with
    | none => tqe (.elem (.arg a) (.int k)) t
    | some (.arg c, []) => Nat.beq (c % 2) (a % 2) && tqe (.elem (.arg c) (.int k)) t
    | _ => false)
  | _ => false
noncomputable def tqsK (i : sT) (a : Nat) (σ : sM) (y : sT) : Bool := @Jvm.Term.rec (fun _ => Nat → sM → sT → Bool) (fun _ _ _ _ => false) (fun v a _ y => (match afnd σ a with
    | none => tqe (.elem (.arg a) (.int v)) y
    | some (.arg c, []) => Nat.beq (c % 2) (a % 2) && tqe (.elem (.arg c) (.int v)) y
    | _ => false)) (fun _ _ _ _ => false) (fun _ _ _ => false) (fun _ _ _ _ => false) (fun _ _ _ _ _ _ _ _ => false) (fun _ _ _ _ _ _ => false) (fun _ _ _ _ _ => false) (fun _ _ _ _ => false) (fun _ _ _ _ _ => false) (fun _ _ _ _ _ _ _ => false) (fun _ _ _ _ _ _ _ => false) (fun _ _ _ _ _ _ _ => false) (fun _ _ _ _ _ _ _ => false) (fun _ _ _ _ _ _ _ => false) (fun _ _ _ _ _ _ _ => false) (fun _ _ _ _ _ _ _ _ => false) (fun _ _ _ _ _ _ => false) (fun _ _ _ _ _ => false) (fun _ _ _ => false) (fun _ _ _ => false) (fun _ _ _ _ _ => false) i a σ y
noncomputable def tqsE (t i : sT) (σ : sM) (y : sT) : Bool := @Jvm.Term.rec (fun _ => sT → sM → sT → Bool) (fun i i_ _ y => tqsK i_ i σ y) (fun _ _ _ _ => false) (fun _ _ _ _ => false) (fun _ _ _ => false) (fun _ _ _ _ => false) (fun _ _ _ _ _ _ _ _ => false) (fun _ _ _ _ _ _ => false) (fun _ _ _ _ _ => false) (fun _ _ _ _ => false) (fun _ _ _ _ _ => false) (fun _ _ _ _ _ _ _ => false) (fun _ _ _ _ _ _ _ => false) (fun _ _ _ _ _ _ _ => false) (fun _ _ _ _ _ _ _ => false) (fun _ _ _ _ _ _ _ => false) (fun _ _ _ _ _ _ _ => false) (fun _ _ _ _ _ _ _ _ => false) (fun _ _ _ _ _ _ => false) (fun _ _ _ _ _ => false) (fun _ _ _ => false) (fun _ _ _ => false) (fun _ _ _ _ _ => false) t i σ y
noncomputable def tqs (σ : sM) (x y : sT) : Bool := @Jvm.Term.rec (fun _ => sM → sT → Bool) (fun i σ y => @Option.rec sT (fun _ => Bool) (@Bool.rec (fun _ => Bool) false (Nat.beq i (tpn y)) (Nat.beq (ttag y) 0)) (fun u => @Bool.rec (fun _ => Bool) false (Nat.beq (sk u) (i % 2)) (tqe u y)) (sfnd σ i)) (fun v _ y => @Bool.rec (fun _ => Bool) false (Nat.beq v.toBitVec.toNat (tpn y)) (Nat.beq (ttag y) 1)) (fun v _ y => @Bool.rec (fun _ => Bool) false (Nat.beq v.toBitVec.toNat (tpn y)) (Nat.beq (ttag y) 2)) (fun _ _ => false) (fun _ _ _ => false) (fun _ _ _ _ _ _ _ => false) (fun _ _ _ _ _ => false) (fun _ _ _ _ => false) (fun _ _ _ => false) (fun _ _ _ _ => false) (fun t i _ _ σ y => tqsE t i σ y) (fun _ _ _ _ _ _ => false) (fun _ _ _ _ _ _ => false) (fun _ _ _ _ _ _ => false) (fun _ _ _ _ _ _ => false) (fun _ _ _ _ _ _ => false) (fun _ _ _ _ _ _ _ => false) (fun _ _ _ _ _ => false) (fun _ _ _ _ => false) (fun _ _ => false) (fun _ _ => false) (fun _ _ _ _ => false) x σ y
theorem tqe_arg (i : Nat) : tqe (.arg i) (.arg i) = true := by
  show (bif Nat.beq (thd (.arg i)) (thd (.arg i)) then tqr (.arg i) (.arg i) else false) = true
  rw [Nat.beq_refl]
  exact Nat.beq_refl i
theorem tqe_int (v : Int32) : tqe (.int v) (.int v) = true := by
  show (bif Nat.beq (thd (.int v)) (thd (.int v)) then tqr (.int v) (.int v) else false) = true
  rw [Nat.beq_refl]
  exact Nat.beq_refl _
theorem tqe_long (v : Int64) : tqe (.long v) (.long v) = true := by
  show (bif Nat.beq (thd (.long v)) (thd (.long v)) then tqr (.long v) (.long v) else false) = true
  rw [Nat.beq_refl]
  exact Nat.beq_refl _
theorem tqs_eq {σ : sM} {x y : sT} (h : tqs σ x y = true) : tqsO σ x y = true := by
  cases x with
  | arg i =>
    have h : @Option.rec sT (fun _ => Bool) (@Bool.rec (fun _ => Bool) false (Nat.beq i (tpn y)) (Nat.beq (ttag y) 0)) (fun u => @Bool.rec (fun _ => Bool) false (Nat.beq (sk u) (i % 2)) (tqe u y)) (sfnd σ i) = true := h
    show (match sfnd σ i with
      | some u => tqe u y && Nat.beq (sk u) (i % 2)
      | none => tqe (.arg i) y) = true
    cases hf : sfnd σ i with
    | none =>
      rw [hf] at h
      have h : @Bool.rec (fun _ => Bool) false (Nat.beq i (tpn y)) (Nat.beq (ttag y) 0) = true := h
      cases h1 : Nat.beq (ttag y) 0 with
      | false => rw [h1] at h; cases h
      | true =>
        rw [h1] at h
        cases y with
        | arg j =>
          have e : i = j := Nat.eq_of_beq_eq_true h
          subst e
          exact tqe_arg i
        | _ => cases h1
    | some u =>
      rw [hf] at h
      have h : @Bool.rec (fun _ => Bool) false (Nat.beq (sk u) (i % 2)) (tqe u y) = true := h
      cases h1 : tqe u y with
      | false => rw [h1] at h; cases h
      | true =>
        rw [h1] at h
        show (tqe u y && Nat.beq (sk u) (i % 2)) = true
        rw [h1, Bool.true_and]
        exact h
  | int v =>
    have h : @Bool.rec (fun _ => Bool) false (Nat.beq v.toBitVec.toNat (tpn y)) (Nat.beq (ttag y) 1) = true := h
    cases h1 : Nat.beq (ttag y) 1 with
    | false => rw [h1] at h; cases h
    | true =>
      rw [h1] at h
      cases y with
      | int w =>
        have e : v = w := Int32.toBitVec_inj.mp (BitVec.eq_of_toNat_eq (Nat.eq_of_beq_eq_true h))
        subst e
        exact tqe_int v
      | _ => cases h1
  | long v =>
    have h : @Bool.rec (fun _ => Bool) false (Nat.beq v.toBitVec.toNat (tpn y)) (Nat.beq (ttag y) 2) = true := h
    cases h1 : Nat.beq (ttag y) 2 with
    | false => rw [h1] at h; cases h
    | true =>
      rw [h1] at h
      cases y with
      | long w =>
        have e : v = w := Int64.toBitVec_inj.mp (BitVec.eq_of_toNat_eq (Nat.eq_of_beq_eq_true h))
        subst e
        exact tqe_long v
      | _ => cases h1
  | elem t i =>
    have h : tqsE t i σ y = true := h
    cases t <;> first | exact h | (cases i <;> exact h)
  | _ => cases h
theorem skokQ_ok {c : sQ} (h : skokQ c = true) : skok c = true := by
  unfold skokQ at h
  unfold skok
  cases h1 : Nat.blt c.1 6 with
  | true =>
    rw [h1] at h
    have h : (Nat.beq (sk c.2.1) 0 && Nat.beq (sk c.2.2) 0) = true := h
    simp only [Bool.and_eq_true] at h
    rw [if_pos (Nat.blt_eq.mp h1), Nat.eq_of_beq_eq_true h.1, Nat.eq_of_beq_eq_true h.2]
    rfl
  | false =>
    rw [h1] at h
    rw [if_neg (fun e => by rw [Nat.blt_eq.mpr e] at h1; cases h1)]
    cases h2 : Nat.blt c.1 100 with
    | true =>
      rw [h2] at h
      have h : (Nat.beq (sk c.2.1) 1 && Nat.beq (sk c.2.2) 1) = true := h
      simp only [Bool.and_eq_true] at h
      rw [if_pos (Nat.blt_eq.mp h2), Nat.eq_of_beq_eq_true h.1, Nat.eq_of_beq_eq_true h.2]
      rfl
    | false => rw [h2] at h; cases h
noncomputable def qqs (σ : sM) (c x : sQ) : Bool := Nat.beq c.1 x.1 && (tqs σ c.2.1 x.2.1 && (tqs σ c.2.2 x.2.2 && skokQ c))
/-- an item of a named condition's row -/
noncomputable def nq1 (σ : sM) (x y : sT) : Bool := @Bool.rec (fun _ => Bool) (@Bool.rec (fun _ => Bool) (@Bool.rec (fun _ => Bool) (tqs σ x y) false (Nat.beq (ttag y) 11)) false (Nat.beq (ttag y) 10)) (tqs σ x y) (Nat.beq (ttag x) 10)
noncomputable def rqs (σ : sM) (x y : sT) : Bool := @Jvm.Term.rec (fun _ => sM → sT → Bool) (fun i σ y => nq1 σ (.arg i) y) (fun v σ y => nq1 σ (.int v) y) (fun v σ y => nq1 σ (.long v) y) (fun _ _ => false) (fun _ _ _ => false) (fun _ _ _ _ _ _ _ => false) (fun _ _ _ _ _ => false) (fun _ _ _ _ => false) (fun _ _ _ => false) (fun _ _ _ _ => false) (fun t i _ _ σ y => nq1 σ (.elem t i) y) (fun a _ _ hb σ y => @Bool.rec (fun _ => Bool) false (@Bool.rec (fun _ => Bool) false (hb σ (tp2 y)) (nq1 σ a (tp1 y))) (Nat.beq (ttag y) 11)) (fun _ _ _ _ _ _ => false) (fun _ _ _ _ _ _ => false) (fun _ _ _ _ _ _ => false) (fun _ _ _ _ _ _ => false) (fun _ _ _ _ _ _ _ => false) (fun _ _ _ _ _ => false) (fun _ _ _ _ => false) (fun _ _ => false) (fun _ _ => false) (fun _ _ _ _ => false) x σ y
noncomputable def nqs (σ : sM) (c x : sQ) : Bool := Nat.beq c.1 x.1 && (rqs σ c.2.1 x.2.1 && (tqs σ c.2.2 x.2.2 && Nat.ble (sk c.2.2) 1))
noncomputable def qqn (σ : sM) (c x : sQ) : Bool := @Bool.rec (fun _ => Bool) (qqs σ c x) (nqs σ c x) (Nat.ble 100 c.1)
noncomputable def fqs (σ : sM) : sFs → sFs → Bool
  | [], [] => true
  | f :: r, g :: s => qqn σ f.1 g.1 && ((f.2 == g.2) && fqs σ r s)
  | _, _ => false
noncomputable def iqs (σ : sM) (c x : sFs × sQ × Bool) : Bool := qqn σ c.2.1 x.2.1 && ((c.2.2 == x.2.2) && fqs σ c.1 x.1)
/-- a number that tells conditions apart at a glance -/
noncomputable def fsg (c : sQ) : Nat := Nat.add (Nat.mul 199 (Nat.add (Nat.mul 1021 (thd c.2.1)) (thd c.2.2))) c.1
/-- what lies behind the fact that is it; z is the number of what it becomes -/
noncomputable def ffnd (σ : sM) (c : sQ × Bool) (z : Nat) (L : sFs) : Option sFs := @List.rec (sQ × Bool) (fun _ => Option sFs) none (fun x r ih => @Bool.rec (fun _ => Option sFs) ih (@Bool.rec (fun _ => Option sFs) ih (@Bool.rec (fun _ => Option sFs) ih (some r) (c.2 == x.2)) (qqn σ c.1 x.1)) (Nat.beq (fsg x.1) z)) L
noncomputable def fhd (σ : sM) (c : sQ × Bool) (L : sFs) : Option sFs := @List.rec (sQ × Bool) (fun _ => Option sFs) none (fun x r _ => @Bool.rec (fun _ => Option sFs) none (@Bool.rec (fun _ => Option sFs) none (some r) (c.2 == x.2)) (qqn σ c.1 x.1)) L
noncomputable def fslow (F : sFs) (σ : sM) (f : sQ × Bool) : Bool := qgd σ 65536 f.1 && kdec F (f.1.1, ssubE σ f.1.2.1, ssubE σ f.1.2.2) f.2
noncomputable def fwalk (F : sFs) (σ : sM) (F0 L : sFs) : Bool := @List.rec (sQ × Bool) (fun _ => sFs → Bool) (fun _ => true) (fun f _ ih L => match fhd σ f L with
    | some L' => ih L'
    | none => (match ffnd σ f (fsg (f.1.1, ssubE σ f.1.2.1, ssubE σ f.1.2.2)) L with
      | some L' => ih L'
      | none => (match ffnd σ f (fsg (f.1.1, ssubE σ f.1.2.1, ssubE σ f.1.2.2)) F with
        | some _ => ih L
        | none => fslow F σ f && ih L))) F0 L
/-- the facts hold of what the pattern's variables are set to -/
noncomputable def fholdE (F : sFs) (σ : sM) (F0 : sFs) : Bool := vhold F σ && fwalk F σ F0 F
/-- what lies behind the one that is it -/
noncomputable def ifnd (σ : sM) (c : sFs × sQ × Bool) : sI → Option sI
  | [] => none
  | x :: r => bif iqs σ c x then some r else ifnd σ c r
noncomputable def iwalk (F : sFs) (I : sI) (σ : sM) : sI → sI → Bool
  | [], _ => true
  | c :: r, L => match ifnd σ c L with
    | some L' => iwalk F I σ r L'
    | none => (igd σ 65536 [c] && ihold1 F I (fsubs σ c.1) (c.2.1.1, ssubE σ c.2.1.2.1, ssubE σ c.2.1.2.2) c.2.2) && iwalk F I σ r L
noncomputable def ihold (F : sFs) (I : sI) (σ : sM) (iv : sI) : Bool := iwalk F I σ iv I
section RR
variable {X : pX} {Ft : Nat → Nat → FieldType} {dfl : Nat → Nat × List Value} {Mt : List pM} {hl : Nat → Option (pHd × Nat)} {K : sK} {ρ ρ' : sR} {off : Nat} {σ : sM}
theorem kdecO_ok {F : sFs} (hF : fok X ρ F) {c : sQ} {v : Bool} (h : kdecO F c v = true) : sc X ρ c = v := by
  simp only [kdecO, Bool.or_eq_true, Bool.and_eq_true] at h
  rcases h with h | h | ⟨h1, h2, h3, h4⟩
  · exact qmem_ok hF.2 h
  · split at h
    · next b hb => rw [sdec_ok hF hb]; simpa using h
    · split at h
      · next b hb => rw [xdecX_ok hF hb]; simpa using h
      · cases h
  · rw [h1]
    have e := teqX_ok hF h4
    obtain ⟨k, a, b⟩ := c
    dsimp only at h2 h3 e
    rcases h3 with h3 | h3
    · have hk := Nat.eq_of_beq_eq_true h3
      subst hk
      simp only [skok, Nat.reduceLT, if_true, Bool.and_eq_true, beq_iff_eq] at h2
      rw [sv_int h2.1, sv_int h2.2] at e
      exact decide_eq_true (Value.int.inj e)
    · have hk := Nat.eq_of_beq_eq_true h3
      subst hk
      simp only [skok, Nat.reduceLT, if_false, if_true, Bool.and_eq_true, beq_iff_eq] at h2
      rw [sv_long h2.1, sv_long h2.2] at e
      exact decide_eq_true (Value.long.inj e)
theorem kdec_ok {F : sFs} (hF : fok X ρ F) {c : sQ} {v : Bool} (h : kdec F c v = true) : sc X ρ c = v := by
  unfold kdec at h
  cases hc : Nat.ble 100 c.1 with
  | true =>
    rw [hc] at h
    have h : (qmem c v F || (nmem F c v || (v && ntriv F c))) = true := h
    rw [Bool.or_eq_true, Bool.or_eq_true, Bool.and_eq_true] at h
    rcases h with h | h | h
    · exact qmem_ok hF.2 h
    · exact nmem_ok hF h
    · rw [h.1]; exact ntriv_ok hF h.2
  | false =>
    rw [hc] at h
    exact kdecO_ok hF h
theorem REP_a {n : Nat} {ρ'' : sR} (h : REP X n ρ' ρ'' σ) {t : sT} (h1 : agd σ t = true) (h2 : vlt n t = true) : aarr ρ'' (ssubE σ t) = aarr ρ' t := by
    unfold agd at h1
    split at h1
    · next a j =>
      have ht : (Nat.blt a n && vlt n (.int j)) = true := h2
      simp only [Bool.and_eq_true] at ht
      have ha : a < n := Nat.blt_eq.mp ht.1
      have h2 := h.2 a ha
      unfold aval at h2
      have key : ∀ c : Nat, c % 2 = a % 2 → (∀ i, bden X ρ'' (.arg c) i = bden X ρ' (.arg a) i) → aarr ρ'' (.elem (.arg c) (.int j)) = aarr ρ' (.elem (.arg a) (.int j)) := fun c hc hv => by
        unfold aarr
        dsimp only
        rw [hc]
        split
        · next h0 =>
          congr 1
          funext i
          have := hv i
          unfold bden at this
          dsimp only at this
          rw [if_pos (by omega), if_pos (by omega)] at this
          injection this
        · next h0 =>
          congr 1
          funext i
          have := hv i
          unfold bden at this
          dsimp only at this
          rw [if_neg (by omega), if_neg (by omega)] at this
          injection this
      split at h1
      · next hp =>
        have h2' : ∀ i, bden X ρ'' (.arg a) i = bden X ρ' (.arg a) i := fun i => by
          have := h2 i
          rw [hp] at this
          exact this
        have e : ssubE σ (.elem (.arg a) (.int j)) = .elem (.arg a) (.int j) := by simp only [ssubE_arg, ssubE_int, ssubE_long, ssubE_null, ssubE_index, ssubE_field, ssubE_static, ssubE_string, ssubE_mirror, ssubE_length, ssubE_elem, ssubE_add, ssubE_sub, ssubE_mul, ssubE_div, ssubE_rem, ssubE_op2, ssubE_op1, ssubE_sum, ssubE_result, ssubE_thrown, ssubE_old, hp]
        rw [e]
        exact key a rfl h2'
      · next c hp =>
        have h2' : ∀ i, bden X ρ'' (.arg c) i = bden X ρ' (.arg a) i := fun i => by
          have := h2 i
          rw [hp] at this
          exact this
        have hpar := Nat.eq_of_beq_eq_true h1
        have e : ssubE σ (.elem (.arg a) (.int j)) = .elem (.arg c) (.int j) := by simp only [ssubE_arg, ssubE_int, ssubE_long, ssubE_null, ssubE_index, ssubE_field, ssubE_static, ssubE_string, ssubE_mirror, ssubE_length, ssubE_elem, ssubE_add, ssubE_sub, ssubE_mul, ssubE_div, ssubE_rem, ssubE_op2, ssubE_op1, ssubE_sum, ssubE_result, ssubE_thrown, ssubE_old, hp, selE]; rw [hpar]; simp
        rw [e]
        exact key c hpar h2'
      · cases h1
    · cases h1
    · next hno1 hno2 =>
      have e1 : aarr ρ' t = (fun _ => 0, fun _ => 0) := by
        cases t <;> first | rfl | exact absurd rfl (hno2 _ _)
      rw [e1]
      split at h1
      · cases h1
      · cases h1
      · next hno3 hno4 =>
        generalize ssubE σ t = u at hno3 hno4
        cases u <;> first | rfl | exact absurd rfl (hno3 _ _)
theorem agd_add {t : sT} (h : agd σ t = true) (h0 : ∀ a b, t ≠ .add a b) : ∀ a b, ssubE σ t ≠ .add a b := by
  intro a b e
  unfold agd at h
  split at h
  · next c k =>
    split at h
    · next hp => simp only [ssubE_arg, ssubE_int, ssubE_long, ssubE_null, ssubE_index, ssubE_field, ssubE_static, ssubE_string, ssubE_mirror, ssubE_length, ssubE_elem, ssubE_add, ssubE_sub, ssubE_mul, ssubE_div, ssubE_rem, ssubE_op2, ssubE_op1, ssubE_sum, ssubE_result, ssubE_thrown, ssubE_old, hp] at e; cases e
    · next c' hp =>
      simp only [ssubE_arg, ssubE_int, ssubE_long, ssubE_null, ssubE_index, ssubE_field, ssubE_static, ssubE_string, ssubE_mirror, ssubE_length, ssubE_elem, ssubE_add, ssubE_sub, ssubE_mul, ssubE_div, ssubE_rem, ssubE_op2, ssubE_op1, ssubE_sum, ssubE_result, ssubE_thrown, ssubE_old, hp, selE] at e
      split at e
      · cases e
      · cases e
    · cases h
  · cases h
  · rw [e] at h
    cases h
theorem REP_as {n : Nat} {ρ'' : sR} (h : REP X n ρ' ρ'' σ) (hk : ∀ i u, sfnd σ i = some u → sk u = i % 2) : ∀ t : sT, agds σ n t = true → aits X ρ'' (ssubE σ t) = aits X ρ' t := by
  have one : ∀ t : sT, (agd σ t && (vlt n t && (sgd σ t && Nat.ble (sk t) 1))) = true → aarr ρ'' (ssubE σ t) = aarr ρ' t ∧ sn X ρ'' (ssubE σ t) = sn X ρ' t := fun t ht => by
    simp only [Bool.and_eq_true] at ht
    obtain ⟨g1, g2, g3, g4⟩ := ht
    have g4 := Nat.le_of_ble_eq_true g4
    exact ⟨REP_a h g1 g2, seqv_n (ssubE_e h hk _ g2 g3) (by omega)⟩
  have other : ∀ t : sT, (∀ a b, t ≠ .add a b) → (agd σ t && (vlt n t && (sgd σ t && Nat.ble (sk t) 1))) = true → aits X ρ'' (ssubE σ t) = aits X ρ' t := fun t h0 ht => by
    have h1 := one t ht
    simp only [Bool.and_eq_true] at ht
    rw [aits_one h0, aits_one (agd_add ht.1 h0), h1.1, h1.2]
  intro t
  induction t with
  | add a b _ ihb =>
    intro ht
    have ht : ((agd σ a && (vlt n a && (sgd σ a && Nat.ble (sk a) 1))) && agds σ n b) = true := ht
    rw [Bool.and_eq_true] at ht
    have h1 := one a ht.1
    have e1 : aits X ρ'' (ssubE σ (.add a b)) = (aarr ρ'' (ssubE σ a), sn X ρ'' (ssubE σ a)) :: aits X ρ'' (ssubE σ b) := rfl
    have e2 : aits X ρ' (.add a b) = (aarr ρ' a, sn X ρ' a) :: aits X ρ' b := rfl
    rw [e1, e2, h1.1, h1.2, ihb ht.2]
  | _ => exact fun ht => other _ (fun _ _ e => by cases e) ht
theorem REP_q {n : Nat} {ρ'' : sR} (h : REP X n ρ' ρ'' σ) (hk : ∀ i u, sfnd σ i = some u → sk u = i % 2) {c : sQ} (hq : qgd σ n c = true) : sc X ρ'' (c.1, ssubE σ c.2.1, ssubE σ c.2.2) = sc X ρ' c := by
  simp only [qgd, Bool.or_eq_true, Bool.and_eq_true, beq_iff_eq] at hq
  rcases hq with ⟨h1, h2, h3, h4, h5⟩ | ⟨h9, h1, h3, h5, h7⟩
  · exact sc_eqv (ssubE_e h hk _ h2 h4) (ssubE_e h hk _ h3 h5) h1
  · obtain ⟨k, t, b⟩ := c
    dsimp only at h1 h3 h5 h7 h9 ⊢
    replace h9 := Nat.le_of_ble_eq_true h9
    replace h7 := Nat.le_of_ble_eq_true h7
    have eb := seqv_n (ssubE_e h hk _ h3 h5) (by omega)
    have hr := REP_as h hk t h1
    unfold sc
    dsimp only
    split <;> first | omega | skip
    rw [hr, eb]
theorem REP_f {n : Nat} {ρ'' : sR} (h : REP X n ρ' ρ'' σ) (hk : ∀ i u, sfnd σ i = some u → sk u = i % 2) {F : sFs} (hg : fgd σ n F = true) : fall X ρ'' (fsubs σ F) ↔ fall X ρ' F := by
  have hg := List.all_eq_true.mp hg
  constructor
  · intro h0 g hgm
    rw [← REP_q h hk (hg g hgm)]
    exact h0 _ (List.mem_map.mpr ⟨g, hgm, rfl⟩)
  · intro h0 f hf
    obtain ⟨g, hgm, rfl⟩ := List.mem_map.mp hf
    rw [← h0 g hgm]
    exact REP_q h hk (hg g hgm)
theorem REP_i {n : Nat} {ρ'' : sR} (h : REP X n ρ' ρ'' σ) (hk : ∀ i u, sfnd σ i = some u → sk u = i % 2) {I : sI} (hg : igd σ n I = true) (hI : iok X ρ' I) : iok X ρ'' (isubs σ I) := by
  intro c hc hgu
  obtain ⟨x, hx, rfl⟩ := List.mem_map.mp hc
  have h1 := List.all_eq_true.mp hg x hx
  simp only [Bool.and_eq_true] at h1
  have hgu := (REP_f h hk h1.1).mp hgu
  have h2 := hI x hx hgu
  dsimp only
  rw [← h2]
  exact REP_q h hk h1.2
theorem ihold1_ok {F : sFs} {I : sI} {G : sFs} {q : sQ} {v : Bool} (hF : fok X ρ F) (hI : iok X ρ I) (h : ihold1 F I G q v = true) (hg : fall X ρ G) : sc X ρ q = v := by
  have hGF : fok X ρ (G ++ F) := ⟨hF.1, fun f hf => by rcases List.mem_append.mp hf with q | q; (· exact hg f q); exact hF.2 f q⟩
  have hF' : fok X ρ (isat (G ++ F) I) := isat_ok hGF hI
  simp only [ihold1, Bool.or_eq_true, Bool.and_eq_true, List.any_eq_true, List.all_eq_true] at h
  rcases h with ⟨x, hx, e1, e2, e3⟩ | ⟨g, hgm, h1⟩ | h0 | ⟨g, hgm, h1⟩ | ⟨x, hx, e1, e2, e3⟩ | h1 | h1 | ⟨x, hx, e1, e2, e3⟩
  · obtain ⟨x1, x2, x3⟩ := x
    have e1 := qqe_ok e1
    have e2 : x3 = v := by simpa using e2
    have e3 := fqe_ok e3
    dsimp only at e1 e2 e3
    rw [e1, e2, e3] at hx
    exact hI _ hx hg
  · exfalso
    have h3 := hg g hgm
    simp only [gno, Bool.or_eq_true] at h1
    rcases h1 with h1 | h1
    · have h2 := qmem_ok hF.2 h1
      rw [h3] at h2
      simp at h2
    · split at h1
      · next b hb =>
        have h2 := sdec_ok hF hb
        rw [h3] at h2
        rw [← h2] at h1
        simp at h1
      · cases h1
  · exact kdec_ok hF h0
  · have h2 := kdec_ok hF h1
    rw [hg g hgm] at h2
    simp at h2
  · obtain ⟨x1, x2, x3⟩ := x
    have e1 := qqe_ok e1
    have e2 : x3 = v := by simpa using e2
    dsimp only at e1 e2 e3
    rw [e1, e2] at hx
    exact hI _ hx (fun g hg' => kdec_ok hGF (e3 g hg'))
  · exact (scon_ok hF' h1).elim
  · exact kdec_ok hF' h1
  · obtain ⟨x1, x2, x3⟩ := x
    have e1 := qqe_ok e1
    have e2 : x3 = v := by simpa using e2
    dsimp only at e1 e2 e3
    rw [e1, e2] at hx
    exact hI _ hx (fun g hg' => kdec_ok hF' (e3 g hg'))
theorem tqs_ok {t0 t : sT} (h : tqs σ t0 t = true) : seqv X ρ (rsub X ρ σ) t t0 := by
  replace h := tqs_eq h
  unfold tqsO at h
  split at h
  · next i =>
    split at h
    · next u hu =>
      simp only [Bool.and_eq_true] at h
      have e := tqe_ok _ _ h.1
      subst e
      have hk := Nat.eq_of_beq_eq_true h.2
      refine ⟨hk, fun _ => ?_, fun _ => ?_⟩
      · simp only [sd, rsub, hu]
      · simp only [sd, rsub, hu]
    · next hu =>
      have e := tqe_ok _ _ h
      subst e
      refine ⟨rfl, fun _ => ?_, fun _ => ?_⟩
      · simp only [sd, rsub, hu]
      · simp only [sd, rsub, hu]
  · have e := tqe_ok _ _ h
    subst e
    exact ⟨rfl, fun _ => rfl, fun _ => rfl⟩
  · have e := tqe_ok _ _ h
    subst e
    exact ⟨rfl, fun _ => rfl, fun _ => rfl⟩
  · next a k =>
    split at h
    · next hu =>
      have e := tqe_ok _ _ h
      subst e
      refine ⟨rfl, fun _ => ?_, fun _ => ?_⟩
      · simp only [sd, rsub, hu]
      · simp only [sd, rsub, hu]
    · next c hu =>
      simp only [Bool.and_eq_true] at h
      have e := tqe_ok _ _ h.2
      subst e
      have hk := Nat.eq_of_beq_eq_true h.1
      refine ⟨hk, fun h0 => ?_, fun h1 => ?_⟩
      · have h0 : a % 2 = 0 := h0
        simp only [sd, rsub, hu, aden, bden]
        rw [if_neg (by omega)]
        rfl
      · have h1 : a % 2 = 1 := h1
        simp only [sd, rsub, hu, aden, bden]
        rw [if_pos (by omega)]
        rfl
    · cases h
  · cases h
theorem qqs_ok {c x : sQ} (h : qqs σ c x = true) : sc X ρ x = sc X (rsub X ρ σ) c := by
  obtain ⟨k, a, b⟩ := c
  obtain ⟨k', a', b'⟩ := x
  simp only [qqs, Bool.and_eq_true] at h
  obtain ⟨h1, h2, h3, h4⟩ := h
  have e := Nat.eq_of_beq_eq_true h1
  subst e
  exact sc_eqv (tqs_ok h2) (tqs_ok h3) (skokQ_ok h4)
theorem nq1_ok {x y : sT} (h : nq1 σ x y = true) : aarr ρ y = aarr (rsub X ρ σ) x ∧ seqv X ρ (rsub X ρ σ) y x ∧ ∀ a b, y ≠ .add a b := by
  unfold nq1 at h
  cases h10 : Nat.beq (ttag x) 10 with
  | true =>
    rw [h10] at h
    have ht : tqs σ x y = true := h
    clear h
    refine ⟨?_, tqs_ok ht, ?_⟩
    · cases x with
      | elem t i =>
        replace ht := tqs_eq ht
        unfold tqsO at ht
        split at ht
        · next hh => cases hh
        · next hh => cases hh
        · next hh => cases hh
        · next a k hh =>
          cases hh
          split at ht
          · next hu =>
            have e := tqe_ok _ _ ht
            subst e
            unfold aarr
            simp only [rsub, hu]
          · next c hu =>
            simp only [Bool.and_eq_true] at ht
            have e := tqe_ok _ _ ht.2
            subst e
            have hk := Nat.eq_of_beq_eq_true ht.1
            unfold aarr
            dsimp only
            rw [hk]
            split
            · next h0 =>
              congr 1
              funext j
              simp only [rsub, hu, aden, bden]
              rw [if_pos (by omega)]
              rfl
            · next h0 =>
              congr 1
              funext j
              simp only [rsub, hu, aden, bden]
              rw [if_neg (by omega)]
              rfl
          · cases ht
        · cases ht
      | _ => cases h10
    · intro a b e
      subst e
      cases x with
      | elem t i =>
        replace ht := tqs_eq ht
        unfold tqsO at ht
        split at ht
        · next hh => cases hh
        · next hh => cases hh
        · next hh => cases hh
        · split at ht
          · exact Jvm.Term.noConfusion (tqe_ok _ _ ht)
          · simp only [Bool.and_eq_true] at ht
            exact Jvm.Term.noConfusion (tqe_ok _ _ ht.2)
          · cases ht
        · cases ht
      | _ => cases h10
  | false =>
    rw [h10] at h
    cases h1 : Nat.beq (ttag y) 10 with
    | true => rw [h1] at h; cases h
    | false =>
      rw [h1] at h
      cases h2 : Nat.beq (ttag y) 11 with
      | true => rw [h2] at h; cases h
      | false =>
        rw [h2] at h
        have h : tqs σ x y = true := h
        refine ⟨?_, tqs_ok h, fun a b e => by subst e; cases h2⟩
        have ex : aarr (rsub X ρ σ) x = (fun _ => 0, fun _ => 0) := by cases x <;> first | rfl | cases h10
        have ey : aarr ρ y = (fun _ => 0, fun _ => 0) := by cases y <;> first | rfl | cases h1
        rw [ex, ey]
theorem tqs_sk {x y : sT} (h : tqs σ x y = true) : sk x = 0 ∨ sk x = 1 := by
  replace h := tqs_eq h
  unfold tqsO at h
  split at h
  · show _ % 2 = 0 ∨ _ % 2 = 1
    omega
  · exact Or.inl rfl
  · exact Or.inr rfl
  · show _ % 2 = 0 ∨ _ % 2 = 1
    omega
  · cases h
theorem nq1_tq {x y : sT} (h : nq1 σ x y = true) : tqs σ x y = true := by
  unfold nq1 at h
  cases h10 : Nat.beq (ttag x) 10 with
  | true => rw [h10] at h; exact h
  | false =>
    rw [h10] at h
    cases h1 : Nat.beq (ttag y) 10 with
    | true => rw [h1] at h; cases h
    | false =>
      rw [h1] at h
      cases h2 : Nat.beq (ttag y) 11 with
      | true => rw [h2] at h; cases h
      | false => rw [h2] at h; exact h
theorem nq1_it {x y : sT} (h : nq1 σ x y = true) (h0 : ∀ a b, x ≠ .add a b) : aits X ρ y = aits X (rsub X ρ σ) x := by
  obtain ⟨h1, h2, h3⟩ := nq1_ok (X := X) (ρ := ρ) h
  rw [aits_one h3, aits_one h0, h1]
  have e : sn X ρ y = sn X (rsub X ρ σ) x := seqv_n h2 (tqs_sk (nq1_tq h))
  rw [e]
theorem rqs_ok : ∀ {x y : sT}, rqs σ x y = true → aits X ρ y = aits X (rsub X ρ σ) x := by
  intro x
  induction x with
  | add a b _ ihb =>
    intro y h
    cases y with
    | add c d =>
      have h : @Bool.rec (fun _ => Bool) false (rqs σ b d) (nq1 σ a c) = true := h
      cases h1 : nq1 σ a c with
      | false => rw [h1] at h; cases h
      | true =>
        rw [h1] at h
        have h : rqs σ b d = true := h
        obtain ⟨q1, q2, q3⟩ := nq1_ok (X := X) (ρ := ρ) h1
        have e : sn X ρ c = sn X (rsub X ρ σ) a := seqv_n q2 (tqs_sk (nq1_tq h1))
        show (aarr ρ c, sn X ρ c) :: aits X ρ d = (aarr (rsub X ρ σ) a, sn X (rsub X ρ σ) a) :: aits X (rsub X ρ σ) b
        rw [q1, e, ihb h]
    | _ => cases h
  | arg i => intro y h; exact nq1_it h (fun _ _ e => by cases e)
  | int v => intro y h; exact nq1_it h (fun _ _ e => by cases e)
  | long v => intro y h; exact nq1_it h (fun _ _ e => by cases e)
  | elem t i => intro y h; exact nq1_it h (fun _ _ e => by cases e)
  | _ => intro y h; cases h
theorem qqn_ok {c x : sQ} (h : qqn σ c x = true) : sc X ρ x = sc X (rsub X ρ σ) c := by
  unfold qqn at h
  cases h9 : Nat.ble 100 c.1 with
  | false => rw [h9] at h; exact qqs_ok h
  | true =>
    rw [h9] at h
    have h : nqs σ c x = true := h
    obtain ⟨k, a, b⟩ := c
    obtain ⟨k', a', b'⟩ := x
    simp only [nqs, Bool.and_eq_true] at h
    obtain ⟨h1, h2, h3, h4⟩ := h
    have e := Nat.eq_of_beq_eq_true h1
    subst e
    have h9 := Nat.le_of_ble_eq_true h9
    have h4 := Nat.le_of_ble_eq_true h4
    dsimp only at h9 h4
    have s1 := tqs_ok (X := X) (ρ := ρ) h3
    have eb : sn X ρ b' = sn X (rsub X ρ σ) b := seqv_n s1 (by omega)
    have er := rqs_ok (X := X) (ρ := ρ) h2
    unfold sc
    dsimp only
    split <;> first | omega | skip
    rw [er, eb]
theorem fqs_ok : ∀ {F G : sFs}, fqs σ F G = true → fall X (rsub X ρ σ) F → fall X ρ G
  | [], [], _, _ => fun f hf => by cases hf
  | [], _ :: _, h, _ => by cases h
  | _ :: _, [], h, _ => by cases h
  | f :: r, g :: s, h, hF => by
    simp only [fqs, Bool.and_eq_true, beq_iff_eq] at h
    intro x hx
    rcases List.mem_cons.mp hx with e | hx
    · rw [e, qqn_ok h.1, ← h.2.1]
      exact hF f List.mem_cons_self
    · exact fqs_ok h.2.2 (fun y hy => hF y (List.mem_cons_of_mem _ hy)) x hx
theorem iqs_ok {c x : sFs × sQ × Bool} (h : iqs σ c x = true) (hx : fall X ρ x.1 → sc X ρ x.2.1 = x.2.2) (hg : fall X (rsub X ρ σ) c.1) : sc X (rsub X ρ σ) c.2.1 = c.2.2 := by
  simp only [iqs, Bool.and_eq_true, beq_iff_eq] at h
  rw [← qqn_ok h.1, h.2.1]
  exact hx (fqs_ok h.2.2 hg)
theorem ffnd_ok {c : sQ × Bool} {z : Nat} : ∀ {L L' : sFs}, ffnd σ c z L = some L' → (∃ x ∈ L, qqn σ c.1 x.1 = true ∧ c.2 = x.2) ∧ ∀ y ∈ L', y ∈ L
  | [], _, h => by cases h
  | x :: r, L', h => by
    have h : @Bool.rec (fun _ => Option sFs) (ffnd σ c z r) (@Bool.rec (fun _ => Option sFs) (ffnd σ c z r) (@Bool.rec (fun _ => Option sFs) (ffnd σ c z r) (some r) (c.2 == x.2)) (qqn σ c.1 x.1)) (Nat.beq (fsg x.1) z) = some L' := h
    have more : ffnd σ c z r = some L' → (∃ z ∈ x :: r, qqn σ c.1 z.1 = true ∧ c.2 = z.2) ∧ ∀ y ∈ L', y ∈ x :: r := fun h => by
      obtain ⟨⟨z, hz, h1⟩, h2⟩ := ffnd_ok h
      exact ⟨⟨z, List.mem_cons_of_mem _ hz, h1⟩, fun y hy => List.mem_cons_of_mem _ (h2 y hy)⟩
    cases h0 : Nat.beq (fsg x.1) z with
    | false => rw [h0] at h; exact more h
    | true =>
      rw [h0] at h
      cases hq : qqn σ c.1 x.1 with
      | false => rw [hq] at h; exact more h
      | true =>
        rw [hq] at h
        cases h2 : (c.2 == x.2) with
        | false => rw [h2] at h; exact more h
        | true =>
          rw [h2] at h
          cases h
          exact ⟨⟨x, List.mem_cons_self, hq, by simpa using h2⟩, fun y hy => List.mem_cons_of_mem _ hy⟩
theorem fhd_ok {c : sQ × Bool} {L L' : sFs} (h : fhd σ c L = some L') : (∃ x ∈ L, qqn σ c.1 x.1 = true ∧ c.2 = x.2) ∧ ∀ y ∈ L', y ∈ L := by
  cases L with
  | nil => cases h
  | cons x r =>
    have h : @Bool.rec (fun _ => Option sFs) none (@Bool.rec (fun _ => Option sFs) none (some r) (c.2 == x.2)) (qqn σ c.1 x.1) = some L' := h
    cases hq : qqn σ c.1 x.1 with
    | false => rw [hq] at h; cases h
    | true =>
      rw [hq] at h
      cases h2 : (c.2 == x.2) with
      | false => rw [h2] at h; cases h
      | true =>
        rw [h2] at h
        cases h
        exact ⟨⟨x, List.mem_cons_self, hq, by simpa using h2⟩, fun y hy => List.mem_cons_of_mem _ hy⟩
theorem fwalk_ok {F : sFs} (hF : fok X ρ F) (hM : sMok K σ = true) : ∀ (F0 L : sFs), (∀ y ∈ L, y ∈ F) → fwalk F σ F0 L = true → fall X (rsub X ρ σ) F0
  | [], _, _, _ => fun f hf => by cases hf
  | f :: r, L, hL, h => by
    have h : (match fhd σ f L with
      | some L' => fwalk F σ r L'
      | none => (match ffnd σ f (fsg (f.1.1, ssubE σ f.1.2.1, ssubE σ f.1.2.2)) L with
        | some L' => fwalk F σ r L'
        | none => (match ffnd σ f (fsg (f.1.1, ssubE σ f.1.2.1, ssubE σ f.1.2.2)) F with
          | some _ => fwalk F σ r L
          | none => fslow F σ f && fwalk F σ r L))) = true := h
    have hit : ∀ {L1 : sFs}, (∀ y ∈ L1, y ∈ F) → (∃ x ∈ L1, qqn σ f.1 x.1 = true ∧ f.2 = x.2) → sc X (rsub X ρ σ) f.1 = f.2 := fun hL1 hf => by
      obtain ⟨x, hx, h1, h2⟩ := hf
      rw [← qqn_ok h1, h2]
      exact hF.2 x (hL1 x hx)
    have step : ∀ {L' : sFs}, (∀ y ∈ L', y ∈ F) → fwalk F σ r L' = true → sc X (rsub X ρ σ) f.1 = f.2 → fall X (rsub X ρ σ) (f :: r) := fun hL' hr hc x hx => by
      rcases List.mem_cons.mp hx with e | hx
      · rw [e]; exact hc
      · exact fwalk_ok hF hM r _ hL' hr x hx
    split at h
    · next L' hf => exact step (fun y hy => hL y ((fhd_ok hf).2 y hy)) h (hit hL (fhd_ok hf).1)
    · split at h
      · next L' hf => exact step (fun y hy => hL y ((ffnd_ok hf).2 y hy)) h (hit hL (ffnd_ok hf).1)
      · split at h
        · next L' hf => exact step hL h (hit (fun _ h => h) (ffnd_ok hf).1)
        · simp only [fslow, Bool.and_eq_true] at h
          refine step hL h.2 ?_
          rw [← REP_q (REP_rsub hM) (fun i u => sfnd_k hM) h.1.1]
          exact kdec_ok hF h.1.2
theorem fholdE_ok {F F0 : sFs} (hF : fok X ρ F) (hM : sMok K σ = true) (h : fholdE F σ F0 = true) : fok X (rsub X ρ σ) F0 := by
  simp only [fholdE, Bool.and_eq_true] at h
  exact ⟨vok_sub hF hM h.1, fwalk_ok hF hM F0 F (fun _ h => h) h.2⟩
theorem ifnd_ok {c : sFs × sQ × Bool} : ∀ {L L' : sI}, ifnd σ c L = some L' → (∃ x ∈ L, iqs σ c x = true) ∧ ∀ y ∈ L', y ∈ L
  | [], _, h => by cases h
  | x :: r, L', h => by
    unfold ifnd at h
    cases hq : iqs σ c x with
    | true =>
      rw [hq] at h
      cases h
      exact ⟨⟨x, List.mem_cons_self, hq⟩, fun y hy => List.mem_cons_of_mem _ hy⟩
    | false =>
      rw [hq] at h
      obtain ⟨⟨z, hz, h1⟩, h2⟩ := ifnd_ok h
      exact ⟨⟨z, List.mem_cons_of_mem _ hz, h1⟩, fun y hy => List.mem_cons_of_mem _ (h2 y hy)⟩
theorem iwalk_ok {F : sFs} {I : sI} (hF : fok X ρ F) (hI : iok X ρ I) (hM : sMok K σ = true) : ∀ (iv L : sI), (∀ y ∈ L, y ∈ I) → iwalk F I σ iv L = true → iok X (rsub X ρ σ) iv
  | [], _, _, _ => fun c hc => by cases hc
  | c :: r, L, hL, h => by
    unfold iwalk at h
    have step : ∀ {L' : sI}, (∀ y ∈ L', y ∈ I) → iwalk F I σ r L' = true → (fall X (rsub X ρ σ) c.1 → sc X (rsub X ρ σ) c.2.1 = c.2.2) → iok X (rsub X ρ σ) (c :: r) := fun hL' hr hc x hx => by
      rcases List.mem_cons.mp hx with e | hx
      · rw [e]; exact hc
      · exact iwalk_ok hF hI hM r _ hL' hr x hx
    split at h
    · next L' hf =>
      obtain ⟨⟨x, hx, h1⟩, h2⟩ := ifnd_ok hf
      exact step (fun y hy => hL y (h2 y hy)) h (iqs_ok h1 (hI x (hL x hx)))
    · simp only [Bool.and_eq_true] at h
      obtain ⟨⟨h1, h2⟩, h3⟩ := h
      refine step hL h3 (fun hg => ?_)
      have h4 := List.all_eq_true.mp h1 c List.mem_cons_self
      simp only [Bool.and_eq_true] at h4
      rw [← REP_f (REP_rsub hM) (fun i u => sfnd_k hM) h4.1] at hg
      rw [← REP_q (REP_rsub hM) (fun i u => sfnd_k hM) h4.2]
      exact ihold1_ok hF hI h2 hg
theorem ihold_ok {F : sFs} {I iv : sI} (hF : fok X ρ F) (hI : iok X ρ I) (hM : sMok K σ = true) (h : ihold F I σ iv = true) : iok X (rsub X ρ σ) iv := iwalk_ok hF hI hM iv I (fun _ h => h) h
theorem aarr_agr {n : Nat} {ρ1 ρ2 : sR} (h : agr n ρ1 ρ2) {t : sT} (ht : vlt n t = true) : aarr ρ1 t = aarr ρ2 t := by
  cases t with
  | elem x i =>
    cases x with
    | arg a =>
      have ht : (Nat.blt a n && vlt n i) = true := ht
      simp only [Bool.and_eq_true] at ht
      have ha : a < n := Nat.blt_eq.mp ht.1
      unfold aarr
      dsimp only
      rw [(h.2 a ha).1, (h.2 a ha).2]
    | _ => rfl
  | _ => rfl
theorem aits_agr {n : Nat} {ρ1 ρ2 : sR} (h : agr n ρ1 ρ2) : ∀ t : sT, vlt n t = true → aits X ρ1 t = aits X ρ2 t := by
  have other : ∀ t : sT, (∀ a b, t ≠ .add a b) → vlt n t = true → aits X ρ1 t = aits X ρ2 t := fun t h0 ht => by
    rw [aits_one h0, aits_one h0, aarr_agr h ht]
    unfold sn
    rw [vlt_d h t ht]
  intro t
  induction t with
  | add a b _ ihb =>
    intro ht
    simp only [vlt_arg, vlt_int, vlt_long, vlt_null, vlt_index, vlt_field, vlt_static, vlt_string, vlt_mirror, vlt_length, vlt_elem, vlt_add, vlt_sub, vlt_mul, vlt_div, vlt_rem, vlt_op2, vlt_op1, vlt_sum, vlt_result, vlt_thrown, vlt_old, Bool.and_eq_true] at ht
    show (aarr ρ1 a, sn X ρ1 a) :: aits X ρ1 b = (aarr ρ2 a, sn X ρ2 a) :: aits X ρ2 b
    unfold sn
    rw [ihb ht.2, aarr_agr h ht.1, vlt_d h a ht.1]
  | _ => exact fun ht => other _ (fun _ _ e => by cases e) ht
theorem fall_agr {n : Nat} {ρ1 ρ2 : sR} (h : agr n ρ1 ρ2) {F : sFs} (hv : fvlt n F = true) (hF : fall X ρ2 F) : fall X ρ1 F := by
  have hv := List.all_eq_true.mp hv
  intro g hg
  have h2 := hv g hg
  simp only [Bool.and_eq_true] at h2
  rw [← hF g hg]
  obtain ⟨⟨k, a, b⟩, v⟩ := g
  exact sc_arr (vlt_d h a h2.1) (vlt_d h b h2.2) (aits_agr h _ h2.1)
theorem agr_symm {n : Nat} {ρ1 ρ2 : sR} (h : agr n ρ1 ρ2) : agr n ρ2 ρ1 := ⟨fun i hi => ⟨(h.1 i hi).1.symm, (h.1 i hi).2.symm⟩, fun a ha => ⟨(h.2 a ha).1.symm, (h.2 a ha).2.symm⟩⟩
theorem iok_agr {n : Nat} {ρ1 ρ2 : sR} (h : agr n ρ1 ρ2) {I : sI} (hv : ivlt n I = true) (hI : iok X ρ2 I) : iok X ρ1 I := by
  intro c hc hg
  have h2 := List.all_eq_true.mp hv c hc
  simp only [Bool.and_eq_true] at h2
  have h3 := hI c hc (fall_agr (agr_symm h) h2.1 hg)
  obtain ⟨g, ⟨k, a, b⟩, v⟩ := c
  dsimp only at h3 h2 ⊢
  rw [← h3]
  exact sc_arr (vlt_d h a h2.2.1) (vlt_d h b h2.2.2) (aits_agr h _ h2.2.1)
/-- a contract used -/
noncomputable def rapp (K : sK) (Z : sH) (C : sC) (off : Nat) (F : sFs) (I : sI) (sc sm : sS) : Option (sFs × sI × sS × sS) := match sat1 C.1.1 sc, sat1 C.1.2.1 sm with
  | some qc, some qm => (
    let σ := rsig Z C qc.1 qm.1 sc.2.2.2.1 sm.2.2.2.1
    let σ2 := sig2 off C.2.2.2.2.1.1 C.2.2.2.2.1.2 σ
    if sMok K σ && (fholdE F σ C.2.2.2.1 && ((teqsX F (C.2.1.1.map (ssub σ)) qc.1 && (teqsX F (C.2.1.2.map (ssub σ)) qm.1 && (C.2.1.1.all scl && C.2.1.2.all scl))) && (fpok K F σ Z sc.2.2.2.1 C.2.2.1.1 && (fpok K F σ Z sm.2.2.2.1 C.2.2.1.2 && (ihold F I σ C.2.2.2.2.2.2.2.1 && (Nat.ble C.1.2.2 sc.2.2.1 && (Nat.ble C.1.2.2 sm.2.2.1 && (vltM off σ && (fvlt off F && (ivlt off I && ((sc.1 :: sc.2.1).all (vltF off) && ((sm.1 :: sm.2.1).all (vltF off) && (hall (vltE off) 9 sc.2.2.2.1.1 && (hall (vltE off) 9 sm.2.2.2.1.1 && (fpnew off F σ2 Z C.2.2.1.1 && (fpnew off F σ2 Z C.2.2.1.2 && (C.2.2.2.2.2.1.1.all (fun t => scl t && vlt off t) && (C.2.2.2.2.2.1.2.all (fun t => scl t && vlt off t) && (qc.2.1.all (vlt off) && qm.2.1.all (vlt off) && (fgd σ2 off C.2.2.2.2.2.2.1 && igd σ2 off C.2.2.2.2.2.2.2.2)))))))))))))))))))) then
      some (fsubs σ2 C.2.2.2.2.2.2.1 ++ F, isubs σ2 C.2.2.2.2.2.2.2.2 ++ I, sback sc qc (C.2.2.2.2.2.1.1.map (ssub σ2)) (hupd F σ2 Z sc.2.2.2.1 C.2.2.1.1), sback sm qm (C.2.2.2.2.2.1.2.map (ssub σ2)) (hupd F σ2 Z sm.2.2.2.1 C.2.2.1.2))
    else none)
  | _, _ => none
/-- what is asked of a contract once and for all -/
noncomputable def cgood (off : Nat) (C : sC) : Bool := Nat.beq (off % 32) 0 && (C.2.2.2.2.1.1.all (fun i => Nat.ble 1000 i) && C.2.2.2.2.1.2.all (fun i => Nat.ble 1000 i))
/-- one half of it -/
theorem rhalf {d y : Nat} {Q : pB → List Value → pH → Nat → Prop} {s : sS} {q : List sT × List sT × List pOp} (hq : sat1 y s = some q) {F : sFs} {ρ'' : sR} (hF'' : fok X ρ'' F) (hag : agr off ρ'' ρ) {σ2 : sM} (hrep : REP X off ρ' ρ'' σ2) (hk2 : ∀ i u, sfnd σ2 i = some u → sk u = i % 2) {Z : sH} {l : List Nat} {a0 : List sT} {v0 : Option sT} {dm : Nat}
    (hfr : (s.1 :: s.2.1).all (vltF off) = true) (hrest : q.2.1.all (vlt off) = true) (hh : hall (vltE off) 9 s.2.2.2.1.1 = true) (hfp : fpnew off F σ2 Z l = true) (hd : dm ≤ s.2.2.1) (hv0 : v0.all (fun t => scl t && vlt off t) = true)
    (hin : ∀ (B : pB) (G : pH), HR X (rwB ρ B) s.2.2.2.1 G → HR X (rwB (rsub X ρ σ) (G, G.length, s.2.2.2.2 + B.2.2)) (foot Z l) G) (hargs : dS X ρ q.1 = dS X (rsub X ρ σ) a0)
    (hcall : ∀ (B : pB) (G : pH), HR X (rwB (rsub X ρ σ) B) (foot Z l) G → ∃ G' : pH, CALL X Ft dfl Mt dm y (dS X (rsub X ρ σ) a0) G B.2.2 (.inl (v0.map (sv X ρ')), G', B.2.2) ∧ HR X (rwB ρ' B) (foot Z l) G')
    (hg : GPh X Ft dfl Mt d Q ρ'' (sback s q (v0.map (ssub σ2)) (hupd F σ2 Z s.2.2.2.1 l))) : GPh X Ft dfl Mt d Q ρ s := by
  obtain ⟨⟨k, nL, ret, hs, full, cur, lv, st⟩, fs, d0, sG, sl⟩ := s
  unfold sat1 at hq
  dsimp only at hq
  split at hq
  · next pc ins len r1 r2 r3 tail =>
    split at hq
    · next hc =>
      simp only [Bool.and_eq_true, Bool.not_eq_true'] at hc
      have hr1 := Nat.eq_of_beq_eq_true hc.1
      have hk : ¬ k = 2 := fun e => by
        have := hc.2
        rw [e] at this
        cases this
      subst hr1
      split at hq
      · next q' cur' ha hto =>
        cases hq
        intro B G hR
        dsimp only at hR hfr hrest hh hd hin hargs hg ⊢
        obtain ⟨G', hcl, hN⟩ := hcall _ G (hin B G hR)
        have hR'' := HR_new hF'' hag hrep hk2 hfp hh hR hN
        have hgg := hg B G' hR''
        simp only [List.all_cons, Bool.and_eq_true] at hfr
        have hask := sask_ok (X := X) (ρ := rwB ρ B) hR ha
        have hl := (vltF_d (X := X) hag hfr.1).1
        dsimp only [sback] at hgg hl
        refine GG_call (ρ1 := rwB ρ'' B) (fs1 := fs) (lv1 := lv) (st1 := (v0.map (ssub σ2)).toList ++ q'.2) (v := v0.map (sv X ρ')) hk ?_ hask (sask_ins ha) hto ?_ ?_ ?_ ?_ hgg
        · rcases sask_ins ha with ⟨i, rfl, -⟩ | ⟨i, rfl⟩ | ⟨i, rfl⟩ <;> rfl
        · rw [dS_B, hargs]
          exact CALL_up hd hcl
        · have e := KK_agr (X := X) (Ft := Ft) (dfl := dfl) (Mt := Mt) (P := PQ (Q B)) (lw := (0, [], d)) (n := off) (ρ1 := rwB ρ'' B) (ρ2 := rwB ρ B) hag fs (d0 + 1) hfr.2
          exact e
        · rw [dL_B, dL_B]
          exact hl
        · rw [dS_B, dS_B]
          have hrest' : dS X ρ'' q'.2 = dS X ρ q'.2 := by
            unfold dS
            exact List.map_congr_left (fun t ht => vlt_v hag (List.all_eq_true.mp hrest t ht))
          show ((v0.map (ssub σ2)).toList ++ q'.2).map (sv X ρ'') = _
          rw [List.map_append]
          congr 1
          cases v0 with
          | none => rfl
          | some t =>
            simp only [Option.all_some, Bool.and_eq_true] at hv0
            show [sv X ρ'' (ssub σ2 t)] = [sv X ρ' t]
            rw [REP_v hrep hk2 hv0.2 hv0.1]
      · cases hq
    · cases hq
  · cases hq
theorem sfnd_kind {mods moda : List Nat} (h2 : off % 2 = 0) (hM : sMok K σ = true) : ∀ i u, sfnd (sig2 off mods moda σ) i = some u → sk u = i % 2 := by
  intro i u hu
  rw [sfnd_sig2] at hu
  split at hu
  · cases hu
    show (i + off) % 2 = i % 2
    omega
  · exact sfnd_k hM hu
variable {dc dm : Nat} {Zc Zm : sH} {J : sR → List Value → List Value → Prop}
theorem rapp_ok (hx : K.2.2.2 = false) (hk0 : ∀ a l, K.2.2.1 a = some l → a < 1000) {Z : sH} {C : sC} (hC : SREL X Ft dfl Mt K Z C) (hgood : cgood off C = true) (hK : kok X ρ K) {F F' : sFs} {I I' : sI} (hF : fok X ρ F) (hI : iok X ρ I) {s1 s2 s1' s2' : sS} (h : rapp K Z C off F I s1 s2 = some (F', I', s1', s2')) (hg : ∀ ρ'' : sR, agr off ρ'' ρ → kok X ρ'' K → fok X ρ'' F' → iok X ρ'' I' → RelP X Ft dfl Mt dc dm Zc Zm J ρ'' s1' s2') : RelP X Ft dfl Mt dc dm Zc Zm J ρ s1 s2 := by
  unfold rapp at h
  split at h
  · next qc qm hqc hqm =>
    simp only at h
    generalize hσ : rsig Z C qc.1 qm.1 s1.2.2.2.1 s2.2.2.2.1 = σ at h
    split at h
    · next hc =>
      cases h
      simp only [Bool.and_eq_true] at hc
      obtain ⟨c1, c2, ⟨c3, c4, c5, c6⟩, c7, c8, c9, c10, c11, c12, c13, c14, c15, c16, c17, c18, c19, c20, c21, c22, ⟨c23, c24⟩, c25, c26⟩ := hc
      simp only [cgood, Bool.and_eq_true] at hgood
      obtain ⟨g1, g2, g3⟩ := hgood
      have h32 : off % 32 = 0 := Nat.eq_of_beq_eq_true g1
      have h2 : off % 2 = 0 := by omega
      have hpre := fholdE_ok hF c1 c2
      obtain ⟨ρ', ⟨f1, f2⟩, hpost, hiv', hc1, hc2⟩ := hC (rsub X ρ σ) (kok_sub hK c1) hpre (ihold_ok hF hI c1 c9)
      have hag : agr off (rnew off ρ ρ') ρ := rnew_agr
      have hrep : REP X off ρ' (rnew off ρ ρ') (sig2 off C.2.2.2.2.1.1 C.2.2.2.2.1.2 σ) := REP_new h2 g2 g3 c1 c12 f1 f2
      have hkind := sfnd_kind (σ := σ) (mods := C.2.2.2.2.1.1) (moda := C.2.2.2.2.1.2) h2 c1
      have hF'' : fok X (rnew off ρ ρ') F := ⟨rnew_vok h32 hF.1 hpost.1, fall_agr hag c13 hF.2⟩
      have hFn : fok X (rnew off ρ ρ') (fsubs (sig2 off C.2.2.2.2.1.1 C.2.2.2.2.1.2 σ) C.2.2.2.2.2.2.1 ++ F) := ⟨hF''.1, fun f hf => by
        rcases List.mem_append.mp hf with q | q
        · exact (REP_f hrep hkind c25).mpr hpost.2 f q
        · exact hF''.2 f q⟩
      have hIn : iok X (rnew off ρ ρ') (isubs (sig2 off C.2.2.2.2.1.1 C.2.2.2.2.1.2 σ) C.2.2.2.2.2.2.2.2 ++ I) := fun c hc => by
        rcases List.mem_append.mp hc with q | q
        · exact REP_i hrep hkind c26 hiv' c q
        · exact iok_agr hag c14 hI c q
      have hKn : kok X (rnew off ρ ρ') K := ⟨hK.1, hK.2.1, fun a l hl j => (by
        have h9 : ¬ off + 1000 ≤ a := by have := hk0 a l hl; omega
        have e1 : (rnew off ρ ρ').2.2.1 a = ρ.2.2.1 a := by simp only [rnew, if_neg h9]
        have e2 : (rnew off ρ ρ').2.2.2.1 a = ρ.2.2.2.1 a := by simp only [rnew, if_neg h9]
        rw [e1, e2]
        exact hK.2.2.1 a l hl j), fun h9 => (by rw [hx] at h9; cases h9)⟩
      obtain ⟨ρ3, vc, vm, j1, j2, j3⟩ := hg _ hag hKn hFn hIn
      refine ⟨ρ3, vc, vm, j1, ?_, ?_⟩
      · refine rhalf (σ := σ) (a0 := C.2.1.1) hqc hF'' hag hrep hkind c15 c23 c17 c19 (Nat.le_of_ble_eq_true c10) c21 (fun B G hR => HR_fp hF hK c1 c7 hR _) ?_ hc1 j2
        have e1 := teqsX_ok (X := X) (ρ := ρ) hF c3
        have e2 := slsub_v (X := X) (ρ := ρ) c1 c5
        unfold dS slsub at e2
        unfold dS
        rw [← e1]
        exact e2
      · refine rhalf (σ := σ) (a0 := C.2.1.2) hqm hF'' hag hrep hkind c16 c24 c18 c20 (Nat.le_of_ble_eq_true c11) c22 (fun B G hR => HR_fp hF hK c1 c8 hR _) ?_ hc2 j3
        have e1 := teqsX_ok (X := X) (ρ := ρ) hF c4
        have e2 := slsub_v (X := X) (ρ := ρ) c1 c6
        unfold dS slsub at e2
        unfold dS
        rw [← e1]
        exact e2
    · cases h
  · cases h
end RR
