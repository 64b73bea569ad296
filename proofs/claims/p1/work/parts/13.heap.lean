/-! ===== cells: what the pure machine's cells are in the machine's heap ===== -/
def pm_at (D : va_G) (cl : List vw_C) (dA : Nat → ClassId) (b0 : Nat) (ext : Nat → Nat) (k : Nat) (x : pE) (H : Heap) : Prop := match x with
  | .inl a => H[b0 + k]? = some (arrV (dA a.1) a.2.1 (fun j => pm_tr b0 ext (a.2.2 j)))
  | .inr o => va_at D cl (b0 + k, .inr (o.1, o.2.map (pm_tr b0 ext))) H
def pm_R (D : va_G) (cl : List vw_C) (dA : Nat → ClassId) (b0 : Nat) (ext : Nat → Nat) (H0 : Heap) (G : pH) (H : Heap) : Prop :=
  H.size = b0 + G.length ∧ (∀ q : Nat, q < b0 → H[q]? = H0[q]?) ∧ ∀ (k : Nat) (x : pE), G[k]? = some (some x) → pm_at D cl dA b0 ext k x H
def pm_B (b0 : Nat) (locs : List Loc) : Prop := ∀ q ∈ locs, b0 ≤ q.base
theorem pm_B.add {b0 : Nat} {locs : List Loc} (h : pm_B b0 locs) {k i : Nat} : pm_B b0 (locs ++ [⟨b0 + k, i⟩]) := by
  intro q hq
  rcases List.mem_append.mp hq with h1 | h1
  · exact h q h1
  · rw [List.mem_singleton.mp h1]; exact Nat.le_add_right _ _
theorem pm_at.kept {D : va_G} {cl : List vw_C} {dA : Nat → ClassId} {b0 : Nat} {ext : Nat → Nat} {k : Nat} {x : pE} {H H1 : Heap} (h : pm_at D cl dA b0 ext k x H) (hq : H1[b0 + k]? = H[b0 + k]?) : pm_at D cl dA b0 ext k x H1 := by
  cases x with
  | inl a => exact hq.trans h
  | inr o => exact va_at.kept (q := (b0 + k, .inr (o.1, o.2.map (pm_tr b0 ext)))) h hq
theorem pm_R.set {D : va_G} {cl : List vw_C} {dA : Nat → ClassId} {b0 : Nat} {ext : Nat → Nat} {H0 : Heap} {G : pH} {H H1 : Heap} {k : Nat} {x0 x : pE} (h : pm_R D cl dA b0 ext H0 G H) (hk : G[k]? = some (some x0)) (hz : H1.size = H.size) (ho : ∀ q : Nat, q ≠ b0 + k → H1[q]? = H[q]?) (hx : pm_at D cl dA b0 ext k x H1) : pm_R D cl dA b0 ext H0 (G.set k (some x)) H1 := by
  have hl := (List.getElem?_eq_some_iff.mp hk).1
  refine ⟨by rw [hz, h.1, List.length_set], fun q hq => (ho q (by omega)).trans (h.2.1 q hq), fun j y hy => ?_⟩
  by_cases hjk : k = j
  · subst hjk
    rw [List.getElem?_set_self hl] at hy
    cases hy
    exact hx
  · rw [List.getElem?_set_ne hjk] at hy
    exact (h.2.2 j y hy).kept (ho _ (by omega))
theorem pm_R.push {D : va_G} {cl : List vw_C} {dA : Nat → ClassId} {b0 : Nat} {ext : Nat → Nat} {H0 : Heap} {G : pH} {H H1 : Heap} {x : Option pE} (h : pm_R D cl dA b0 ext H0 G H) (hz : H1.size = H.size + 1) (ho : ∀ q : Nat, q < H.size → H1[q]? = H[q]?) (hx : ∀ y, x = some y → pm_at D cl dA b0 ext G.length y H1) : pm_R D cl dA b0 ext H0 (G ++ [x]) H1 := by
  refine ⟨by rw [hz, h.1, List.length_append, List.length_singleton]; omega, fun q hq => (ho q (by have := h.1; omega)).trans (h.2.1 q hq), fun j y hy => ?_⟩
  by_cases hj : j < G.length
  · rw [List.getElem?_append_left hj] at hy
    exact (h.2.2 j y hy).kept (ho _ (by have := h.1; omega))
  · rw [List.getElem?_append_right (by omega)] at hy
    have hz : j - G.length < 1 := (List.getElem?_eq_some_iff.mp hy).1
    have hj0 : j = G.length := by omega
    subst hj0
    rw [Nat.sub_self] at hy
    cases hy
    exact hx y rfl
/-- an int array from before the run -/
def pm_X (t N : Nat) (f : Nat → Int32) (s : State) (H : Heap) : Prop := ∃ cell : Cell, H[t]? = some cell ∧ s.isArrayOf cell .int ∧ cell.vm ≠ .unknown ∧ N ≤ cell.slots.size ∧ cell.slots.size.toInt32 = Int32.ofNat N ∧ ∀ j : Nat, j < N → cell.slots[j]? = some (.int (f j))
theorem pm_X.moved {t N : Nat} {f : Nat → Int32} {u U : State} {H : Heap} (hvm : u.vm.Alike U.vm) (h : pm_X t N f u H) : pm_X t N f U H := by
  obtain ⟨cell, h1, h2, h3⟩ := h
  exact ⟨cell, h1, State.isArrayOf_alike hvm h2, h3⟩
theorem pm_X.ofT {t N : Nat} {f : Nat → Int32} {A : Nat → Prop} {s : State} {H : Heap} (h : va_T .int t N (fun j => .int (f j)) A s H) : pm_X t N f s H := by
  obtain ⟨cell, h1, h2, h3, h4, h5, h6, -⟩ := h
  exact ⟨cell, h1, h2, h3, h4, h5, h6⟩
theorem pm_X.ofX {t N : Nat} {f : Nat → Int32} {s : State} {H : Heap} (h : va_X t N f s H) : pm_X t N f s H := by
  obtain ⟨cell, h1, h2, h3, h4, h5⟩ := h
  exact ⟨cell, h1, h2, h3, Nat.le_of_eq h4.symm, by rw [h4], h5⟩
def pm_in (i : Int32) (n : Nat) : Bool := !(decide (i < 0)) && decide (i.toNatClampNeg < n)
theorem pm_in_ok {i : Int32} {n : Nat} (h : pm_in i n = true) : ¬ (i < 0 ∨ n ≤ i.toNatClampNeg) ∧ i.toNatClampNeg < n := by
  simp only [pm_in, Bool.and_eq_true, Bool.not_eq_true', decide_eq_false_iff_not, decide_eq_true_eq] at h
  exact ⟨fun q => q.elim h.1 (fun z => by omega), h.2⟩
def pm_getf (ci j : Nat) (G : pH) (st : List Value) : Option (List Value) := match st with
  | .ref k :: r => match G[k]? with
    | some (some (.inr o)) => if o.1 = ci then match o.2[j]? with
      | some v => some (v :: r)
      | none => none
      else none
    | _ => none
  | _ => none
/-- may a value go into a field of this type -/
def pm_fit (ty : FieldType) (v : Value) : Bool := match ty, v with
  | .int, .int _ => true
  | .long, .long _ => true
  | .boolean, .int x => x == 0 || x == 1
  | .object _, .ref _ => true
  | .array _, .ref _ => true
  | _, _ => false
def pm_putf (ci j : Nat) (ty : FieldType) (G : pH) (st : List Value) : Option (List Value × pH) := match st with
  | v :: .ref k :: r => match G[k]? with
    | some (some (.inr o)) => if o.1 = ci ∧ j < o.2.length ∧ pm_fit ty v = true then some (r, G.set k (some (.inr (ci, o.2.set j v)))) else none
    | _ => none
  | _ => none
def pm_alen (X : pX) (G : pH) (st : List Value) : Option (List Value) := match st with
  | .ref k :: r => match G[k]? with
    | some (some (.inl a)) => if a.1 < 6 then some (.int (Int32.ofNat a.2.1) :: r) else none
    | _ => none
  | .retAddr i :: r => match X i with
    | some a => some (.int (Int32.ofNat a.1) :: r)
    | none => none
  | _ => none
def pm_ald (t : Nat) (G : pH) (st : List Value) : Option (List Value) := match st with
  | .int i :: .ref k :: r => match G[k]? with
    | some (some (.inl a)) => if a.1 = t ∧ pm_in i a.2.1 = true then some (a.2.2 i.toNatClampNeg :: r) else none
    | _ => none
  | _ => none
def pm_iald (X : pX) (G : pH) (st : List Value) : Option (List Value) := match st with
  | .int i :: .retAddr x :: r => match X x with
    | some a => if pm_in i a.1 = true then some (.int (a.2 i.toNatClampNeg) :: r) else none
    | none => none
  | _ => pm_ald 0 G st
def pm_aald (G : pH) (st : List Value) : Option (List Value) := match st with
  | .int i :: .ref k :: r => match G[k]? with
    | some (some (.inl a)) => if (3 ≤ a.1 ∧ a.1 < 6) ∧ pm_in i a.2.1 = true then some (a.2.2 i.toNatClampNeg :: r) else none
    | _ => none
  | _ => none
def pm_upd (f : Nat → Value) (k : Nat) (v : Value) : Nat → Value := fun j => if j = k then v else f j
def pm_ast (t : Nat) (G : pH) (k : Nat) (i : Int32) (v : Value) (r : List Value) : Option (List Value × pH) := match G[k]? with
  | some (some (.inl a)) => if a.1 = t ∧ pm_in i a.2.1 = true then some (r, G.set k (some (.inl (t, a.2.1, pm_upd a.2.2 i.toNatClampNeg v)))) else none
  | _ => none
def pm_iast (G : pH) (st : List Value) : Option (List Value × pH) := match st with
  | .int x :: .int i :: .ref k :: r => pm_ast 0 G k i (.int x) r
  | _ => none
def pm_last (G : pH) (st : List Value) : Option (List Value × pH) := match st with
  | .long x :: .int i :: .ref k :: r => pm_ast 1 G k i (.long x) r
  | _ => none
def pm_zast (G : pH) (st : List Value) : Option (List Value × pH) := match st with
  | .int x :: .int i :: .ref k :: r => pm_ast 2 G k i (narrow .boolean (.int x)) r
  | _ => none
/-- the array types, by their numbers -/
def pm_ty (t : Nat) : FieldType := match t with
  | 0 => .int
  | 1 => .long
  | 2 => .boolean
  | 3 => .array .int
  | 4 => .array .long
  | _ => .object "ServoNet$Drive"
def pm_tys (dA : Nat → ClassId) : List (ClassId × FieldType) := (List.range 6).map (fun t => (dA t, pm_ty t))
theorem pm_tys_at (dA : Nat → ClassId) {t : Nat} (h : t < 6) : (pm_tys dA)[t]? = some (dA t, pm_ty t) := by
  simp [pm_tys, h]
section PH
variable {p : Program} {l : Launch} {e : Env} {R : Room} {s : State} {m : MethodId} {args : Array Value} {below : List Frame} {meth : Method} {c : Code} {H : Heap} {locs : List Loc} {cells slots : Nat} {Q : State → Prop}
variable {cc : ByteArray} {pc b0 : Nat} {ext : Nat → Nat} {ls : Array Slot} {D : va_G} {cl : List vw_C} {dA : Nat → ClassId} {H0 : Heap} {G : pH} {tys : List (ClassId × FieldType)} {Ts : List Cond}
theorem pm_getf_ok (hx : p.tables.exec = Jvm.exec) (hb : c.code = cc) {own : String} {idx ci j N : Nat} {C : String} {T : u_T} (hts : ∀ w ∈ Ts, w.before args s = true) (hown : s.vm.findClass own = some m.cls) (hK : va_K D cl tys s) (hc : cl[ci]? = some (C, T, N)) (hin : ∀ w ∈ u_ws C T N, w ∈ Ts) (hj : j < N)
    (hlink : (Cond.fieldLink own idx (T j).1 (T j).2.1 (T j).2.2.1).before args s = true ∨ ∃ host, (Cond.fieldLinkNest own idx (T j).1 (T j).2.1 (T j).2.2.1 host).before args s = true) (hR : pm_R D cl dA b0 ext H0 G H) {st st' : List Value} (h : pm_getf ci j G st = some st') (hd : decode cc pc = .ok (.getfield idx, 3))
    (k : W p l e R s m args below meth c H locs cells slots Q (F0 m (pc + 3) ls (pm_S b0 ext st'))) : W p l e R s m args below meth c H locs cells slots Q (F0 m pc ls (pm_S b0 ext st)) := by
  unfold pm_getf at h
  split at h
  · next a r =>
    split at h
    · next o ho =>
      split at h
      · next hci =>
        split at h
        · next v hv =>
          cases h
          subst hci
          have h1 : va_at D cl (b0 + a, .inr (o.1, o.2.map (pm_tr b0 ext))) H := hR.2.2 a _ ho
          have hP : va_P D cl [(b0 + a, .inr (o.1, o.2.map (pm_tr b0 ext)))] H := by
            intro z q hq
            match z, hq with
            | 0, hq => cases hq; exact h1
            | z + 1, hq => simp at hq
          have hv' : (o.2.map (pm_tr b0 ext))[j]? = some (pm_tr b0 ext v) := by rw [List.getElem?_map, hv]; rfl
          rcases hlink with hl | ⟨host, hl⟩
          · exact va_get hx hb hts hin hown hK hP 0 rfl hc j hj hl (fun _ q => q) hv' hd k
          · exact va_getN hx hb hts hin hown hK hP 0 rfl hc j hj hl (fun _ q => q) hv' hd k
        · cases h
      · cases h
    · cases h
  · cases h
theorem pm_alen_ok (hx : p.tables.exec = Jvm.exec) (hb : c.code = cc) {X : pX} (hK : va_K D cl (pm_tys dA) s) (hX : ∀ i a, X i = some a → ext i < b0 ∧ pm_X (ext i) a.1 a.2 s H0) (hR : pm_R D cl dA b0 ext H0 G H) {st st' : List Value} (h : pm_alen X G st = some st') (hd : decode cc pc = .ok (.arraylength, 1))
    (k : W p l e R s m args below meth c H locs cells slots Q (F0 m (pc + 1) ls (pm_S b0 ext st'))) : W p l e R s m args below meth c H locs cells slots Q (F0 m pc ls (pm_S b0 ext st)) := by
  unfold pm_alen at h
  split at h
  · next a r =>
    split at h
    · next o ho =>
      split at h
      · next ht6 =>
        cases h
        have h1 : H[b0 + a]? = some (arrV (dA o.1) o.2.1 (fun j => pm_tr b0 ext (o.2.2 j))) := hR.2.2 a _ ho
        have h2 := (hK.2 o.1 _ (pm_tys_at dA ht6)).1
        exact W.alen hx hb h1 (h2 _ _) (by rw [arrV_size]) rfl rfl hd k
      · cases h
    · cases h
  · next i r =>
    split at h
    · next a ha =>
      cases h
      obtain ⟨hlt, scr, q1, q2, q3, q4, q5, -⟩ := hX i a ha
      exact W.alen hx hb (by rw [hR.2.1 _ hlt]; exact q1) q2 q5 rfl rfl hd k
    · cases h
  · cases h
end PH
