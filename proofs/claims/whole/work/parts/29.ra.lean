/-! ===== the machine does not look at the cells' numbers: a run with the cells of two blocks changed over ===== -/
def vren (π : Nat → Nat) (v : Value) : Value := match v with
  | .ref k => .ref (π k)
  | v => v
def lren (π : Nat → Nat) (lv : pL) : pL := lv.map (fun q => (q.1, vren π q.2))
def eren (π : Nat → Nat) (e : pE) : pE := match e with
  | .inl a => .inl (a.1, a.2.1, fun j => vren π (a.2.2 j))
  | .inr o => .inr (o.1, o.2.map (vren π))
def gren (π : Nat → Nat) (G : pH) : pH := (List.range G.length).map (fun k => ((G[π k]?).getD none).map (eren π))
def oren (π : Nat → Nat) (r : pL × List Value × Option Int) : pL × List Value × Option Int := (lren π r.1, r.2.1.map (vren π), r.2.2)
def rren (π : Nat → Nat) (r : pRes) : pRes := (match r.1 with
  | .inl v => .inl (v.map (vren π))
  | .inr E => .inr E, gren π r.2.1, r.2.2)
def xren (π : Nat → Nat) (x : pC) : pC := (x.1, lren π x.2.1, x.2.2.1.map (vren π), gren π x.2.2.2.1, x.2.2.2.2)
section REN
variable {π : Nat → Nat}
theorem vren_cat (v : Value) : (vren π v).category = v.category := by cases v <;> rfl
theorem vren_cats (st : List Value) : (st.map (vren π)).map (fun v => v.category) = st.map (fun v => v.category) := by
  rw [List.map_map]
  exact List.map_congr_left (fun v _ => vren_cat v)
theorem get_ren (lv : pL) (i : Nat) : pm_get (lren π lv) i = (pm_get lv i).map (vren π) := by
  unfold pm_get lren
  rw [List.find?_map]
  have e : ((fun q : Nat × Value => q.1 == i) ∘ fun q : Nat × Value => (q.1, vren π q.2)) = fun q => q.1 == i := rfl
  rw [e]
  cases lv.find? (fun q => q.1 == i) <;> rfl
theorem set1_ren (lv : pL) (i : Nat) (v : Value) : pm_set1 (lren π lv) i (vren π v) = lren π (pm_set1 lv i v) := by
  unfold pm_set1 lren
  rw [List.filter_map, List.map_cons]
  have e : ((fun q : Nat × Value => !(q.1 == i) && !(q.1 + 1 == i && q.2.category == 2)) ∘ fun q : Nat × Value => (q.1, vren π q.2)) = fun q => !(q.1 == i) && !(q.1 + 1 == i && q.2.category == 2) := by
    funext q
    simp only [Function.comp, vren_cat]
  rw [e]
theorem set2_ren (lv : pL) (i : Nat) (v : Value) : pm_set2 (lren π lv) i (vren π v) = lren π (pm_set2 lv i v) := by
  unfold pm_set2 lren
  rw [List.filter_map, List.map_cons]
  have e : ((fun q : Nat × Value => !(q.1 == i) && (!(q.1 == i + 1) && !(q.1 + 1 == i && q.2.category == 2))) ∘ fun q : Nat × Value => (q.1, vren π q.2)) = fun q => !(q.1 == i) && (!(q.1 == i + 1) && !(q.1 + 1 == i && q.2.category == 2)) := by
    funext q
    simp only [Function.comp, vren_cat]
  rw [e]
theorem r_iload (lv : pL) (st : List Value) (i : Nat) : pm_iload (lren π lv) (st.map (vren π)) i = (pm_iload lv st i).map (oren π) := by
  unfold pm_iload
  rw [get_ren]
  cases pm_get lv i with
  | none => rfl
  | some v => cases v <;> rfl
theorem r_lload (lv : pL) (st : List Value) (i : Nat) : pm_lload (lren π lv) (st.map (vren π)) i = (pm_lload lv st i).map (oren π) := by
  unfold pm_lload
  rw [get_ren]
  cases pm_get lv i with
  | none => rfl
  | some v => cases v <;> rfl
theorem r_aload (lv : pL) (st : List Value) (i : Nat) : pm_aload (lren π lv) (st.map (vren π)) i = (pm_aload lv st i).map (oren π) := by
  unfold pm_aload
  rw [get_ren]
  cases pm_get lv i with
  | none => rfl
  | some v => cases v <;> rfl
theorem if_ren {α β : Type} (f : α → β) (c : Prop) [Decidable c] (a : α) : (if c then some (f a) else none) = (if c then some a else none).map f := by
  by_cases h : c
  · rw [if_pos h, if_pos h]; rfl
  · rw [if_neg h, if_neg h]; rfl
theorem r_istore (nL : Nat) (lv : pL) (st : List Value) (i : Nat) : pm_istore nL (lren π lv) (st.map (vren π)) i = (pm_istore nL lv st i).map (oren π) := by
  rcases st with _ | ⟨a, r⟩
  · rfl
  · cases a with
    | int x =>
      show (if i < nL then some (pm_set1 (lren π lv) i (vren π (.int x)), r.map (vren π), none) else none) = _
      rw [set1_ren]
      exact if_ren (oren π) (i < nL) (pm_set1 lv i (.int x), r, none)
    | _ => rfl
theorem r_lstore (nL : Nat) (lv : pL) (st : List Value) (i : Nat) : pm_lstore nL (lren π lv) (st.map (vren π)) i = (pm_lstore nL lv st i).map (oren π) := by
  rcases st with _ | ⟨a, r⟩
  · rfl
  · cases a with
    | long x =>
      show (if i + 1 < nL then some (pm_set2 (lren π lv) i (vren π (.long x)), r.map (vren π), none) else none) = _
      rw [set2_ren]
      exact if_ren (oren π) (i + 1 < nL) (pm_set2 lv i (.long x), r, none)
    | _ => rfl
theorem r_astore (nL : Nat) (lv : pL) (st : List Value) (i : Nat) : pm_astore nL (lren π lv) (st.map (vren π)) i = (pm_astore nL lv st i).map (oren π) := by
  rcases st with _ | ⟨a, r⟩
  · rfl
  · cases a with
    | ref x =>
      show (if i < nL then some (pm_set1 (lren π lv) i (vren π (.ref x)), r.map (vren π), none) else none) = _
      rw [set1_ren]
      exact if_ren (oren π) (i < nL) (pm_set1 lv i (.ref x), r, none)
    | retAddr x =>
      show (if i < nL then some (pm_set1 (lren π lv) i (vren π (.retAddr x)), r.map (vren π), none) else none) = _
      rw [set1_ren]
      exact if_ren (oren π) (i < nL) (pm_set1 lv i (.retAddr x), r, none)
    | _ => rfl
theorem r_iinc (nL : Nat) (lv : pL) (st : List Value) (i : Nat) (n : Int) : pm_iinc nL (lren π lv) (st.map (vren π)) i n = (pm_iinc nL lv st i n).map (oren π) := by
  unfold pm_iinc
  rw [get_ren]
  cases pm_get lv i with
  | none => rfl
  | some v =>
    cases v with
    | int x =>
      show (if i < nL then some (pm_set1 (lren π lv) i (vren π (.int (x + Int32.ofInt n))), st.map (vren π), none) else none) = _
      rw [set1_ren]
      exact if_ren (oren π) (i < nL) (pm_set1 lv i (.int (x + Int32.ofInt n)), st, none)
    | _ => rfl
theorem r_ii (f : Int32 → Int32 → Int32) (lv : pL) (st : List Value) : pm_ii f (lren π lv) (st.map (vren π)) = (pm_ii f lv st).map (oren π) := by
  rcases st with _ | ⟨a, _ | ⟨b, r⟩⟩
  · rfl
  · cases a <;> rfl
  · cases a <;> cases b <;> rfl
theorem r_iz (f : Int32 → Int32 → Int32) (lv : pL) (st : List Value) : pm_iz f (lren π lv) (st.map (vren π)) = (pm_iz f lv st).map (oren π) := by
  rcases st with _ | ⟨a, _ | ⟨b, r⟩⟩
  · rfl
  · cases a <;> rfl
  · cases a <;> cases b <;> first | rfl | skip
    next y x =>
      show (if y = 0 then none else some (lren π lv, Value.int (f x y) :: r.map (vren π), none)) = Option.map (oren π) (if y = 0 then none else some (lv, Value.int (f x y) :: r, none))
      by_cases h : y = 0
      · rw [if_pos h, if_pos h]; rfl
      · rw [if_neg h, if_neg h]; rfl
theorem r_ll (f : Int64 → Int64 → Int64) (lv : pL) (st : List Value) : pm_ll f (lren π lv) (st.map (vren π)) = (pm_ll f lv st).map (oren π) := by
  rcases st with _ | ⟨a, _ | ⟨b, r⟩⟩
  · rfl
  · cases a <;> rfl
  · cases a <;> cases b <;> rfl
theorem r_lz (f : Int64 → Int64 → Int64) (lv : pL) (st : List Value) : pm_lz f (lren π lv) (st.map (vren π)) = (pm_lz f lv st).map (oren π) := by
  rcases st with _ | ⟨a, _ | ⟨b, r⟩⟩
  · rfl
  · cases a <;> rfl
  · cases a <;> cases b <;> first | rfl | skip
    next y x =>
      show (if y = 0 then none else some (lren π lv, Value.long (f x y) :: r.map (vren π), none)) = Option.map (oren π) (if y = 0 then none else some (lv, Value.long (f x y) :: r, none))
      by_cases h : y = 0
      · rw [if_pos h, if_pos h]; rfl
      · rw [if_neg h, if_neg h]; rfl
theorem r_li (f : Int64 → Int32 → Int64) (lv : pL) (st : List Value) : pm_li f (lren π lv) (st.map (vren π)) = (pm_li f lv st).map (oren π) := by
  rcases st with _ | ⟨a, _ | ⟨b, r⟩⟩
  · rfl
  · cases a <;> rfl
  · cases a <;> cases b <;> rfl
theorem r_i1 (f : Int32 → Int32) (lv : pL) (st : List Value) : pm_i1 f (lren π lv) (st.map (vren π)) = (pm_i1 f lv st).map (oren π) := by
  rcases st with _ | ⟨a, r⟩
  · rfl
  · cases a <;> rfl
theorem r_l1 (f : Int64 → Int64) (lv : pL) (st : List Value) : pm_l1 f (lren π lv) (st.map (vren π)) = (pm_l1 f lv st).map (oren π) := by
  rcases st with _ | ⟨a, r⟩
  · rfl
  · cases a <;> rfl
theorem r_i2l (lv : pL) (st : List Value) : pm_i2l (lren π lv) (st.map (vren π)) = (pm_i2l lv st).map (oren π) := by
  rcases st with _ | ⟨a, r⟩
  · rfl
  · cases a <;> rfl
theorem r_l2i (lv : pL) (st : List Value) : pm_l2i (lren π lv) (st.map (vren π)) = (pm_l2i lv st).map (oren π) := by
  rcases st with _ | ⟨a, r⟩
  · rfl
  · cases a <;> rfl
theorem r_lcmp (lv : pL) (st : List Value) : pm_lcmp (lren π lv) (st.map (vren π)) = (pm_lcmp lv st).map (oren π) := by
  rcases st with _ | ⟨a, _ | ⟨b, r⟩⟩
  · rfl
  · cases a <;> rfl
  · cases a <;> cases b <;> rfl
theorem r_dup (lv : pL) (st : List Value) : pm_dup (lren π lv) (st.map (vren π)) = (pm_dup lv st).map (oren π) := by
  rcases st with _ | ⟨a, r⟩
  · rfl
  · show (if (vren π a).category = 1 then some (lren π lv, vren π a :: vren π a :: r.map (vren π), none) else none) = _
    rw [vren_cat]
    exact if_ren (oren π) (a.category = 1) (lv, a :: a :: r, none)
theorem r_pop (lv : pL) (st : List Value) : pm_pop (lren π lv) (st.map (vren π)) = (pm_pop lv st).map (oren π) := by
  rcases st with _ | ⟨a, r⟩
  · rfl
  · show (if (vren π a).category = 1 then some (lren π lv, r.map (vren π), none) else none) = _
    rw [vren_cat]
    exact if_ren (oren π) (a.category = 1) (lv, r, none)
theorem r_dup2 (lv : pL) (st : List Value) : pm_dup2 (lren π lv) (st.map (vren π)) = (pm_dup2 lv st).map (oren π) := by
  rcases st with _ | ⟨a, _ | ⟨b, r⟩⟩
  · rfl
  · show (if (vren π a).category = 2 then some (lren π lv, [vren π a, vren π a], none) else none) = _
    rw [vren_cat]
    exact if_ren (oren π) (a.category = 2) (lv, [a, a], none)
  · show (if (vren π a).category = 2 then some (lren π lv, vren π a :: vren π a :: vren π b :: r.map (vren π), none) else if (vren π b).category = 1 then some (lren π lv, vren π a :: vren π b :: vren π a :: vren π b :: r.map (vren π), none) else none) = Option.map (oren π) (if a.category = 2 then some (lv, a :: a :: b :: r, none) else if b.category = 1 then some (lv, a :: b :: a :: b :: r, none) else none)
    rw [vren_cat, vren_cat]
    by_cases h : a.category = 2
    · rw [if_pos h, if_pos h]; rfl
    · rw [if_neg h, if_neg h]
      exact if_ren (oren π) (b.category = 1) (lv, a :: b :: a :: b :: r, none)
theorem r_if (cnd : Jvm.ClassFile.Cond) (off : Int) (lv : pL) (st : List Value) : pm_if cnd off (lren π lv) (st.map (vren π)) = (pm_if cnd off lv st).map (oren π) := by
  rcases st with _ | ⟨a, r⟩
  · rfl
  · cases a <;> rfl
theorem r_icmp (cnd : Jvm.ClassFile.Cond) (off : Int) (lv : pL) (st : List Value) : pm_icmp cnd off (lren π lv) (st.map (vren π)) = (pm_icmp cnd off lv st).map (oren π) := by
  rcases st with _ | ⟨a, _ | ⟨b, r⟩⟩
  · rfl
  · cases a <;> rfl
  · cases a <;> cases b <;> rfl
theorem r_tsw (dflt lo hi : Int) (offs : List Int) (lv : pL) (st : List Value) : pm_tsw dflt lo hi offs (lren π lv) (st.map (vren π)) = (pm_tsw dflt lo hi offs lv st).map (oren π) := by
  rcases st with _ | ⟨a, r⟩
  · rfl
  · cases a <;> first | rfl | skip
    next x =>
      simp only [List.map_cons, vren, pm_tsw]
      split
      · rfl
      · split <;> rfl
theorem r_lsw (dflt : Int) (ps : List (Int × Int)) (lv : pL) (st : List Value) : pm_lsw dflt ps (lren π lv) (st.map (vren π)) = (pm_lsw dflt ps lv st).map (oren π) := by
  rcases st with _ | ⟨a, r⟩
  · rfl
  · cases a <;> first | rfl | skip
    next x =>
      simp only [List.map_cons, vren, pm_lsw]
      split <;> rfl
theorem lop_ren (nL : Nat) (ins : Instr) (lv : pL) (st : List Value) : pm_lop nL ins (lren π lv) (st.map (vren π)) = (pm_lop nL ins lv st).map (oren π) := by
  unfold pm_lop
  split <;> first | rfl | exact r_iload _ _ _ | exact r_lload _ _ _ | exact r_aload _ _ _ | exact r_istore _ _ _ _ | exact r_lstore _ _ _ _ | exact r_astore _ _ _ _ | exact r_iinc _ _ _ _ _ | exact r_ii _ _ _ | exact r_iz _ _ _ | exact r_ll _ _ _ | exact r_lz _ _ _ | exact r_li _ _ _ | exact r_i1 _ _ _ | exact r_l1 _ _ _ | exact r_i2l _ _ | exact r_l2i _ _ | exact r_lcmp _ _ | exact r_dup _ _ | exact r_pop _ _ | exact r_dup2 _ _ | exact r_if _ _ _ _ | exact r_icmp _ _ _ _ | exact r_tsw _ _ _ _ _ _ | exact r_lsw _ _ _ _
end REN
