/-! ===== what touches neither cells nor other methods: the machine's rows out of the pure machine's ===== -/
section PL
variable {p : Program} {l : Launch} {e : Env} {R : Room} {s : State} {m : MethodId} {args : Array Value} {below : List Frame} {meth : Method} {c : Code} {H : Heap} {locs : List Loc} {cells slots : Nat} {Q : State → Prop}
variable {cc : ByteArray} {pc nL b0 : Nat} {ext : Nat → Nat} {ls : Array Slot}
theorem pm_cat (b0 : Nat) (ext : Nat → Nat) (v : Value) : (pm_tr b0 ext v).category = v.category ∨ ∃ i, v = .retAddr i := by
  cases v <;> simp [pm_tr, Value.category]
theorem pm_cat' (b0 : Nat) (ext : Nat → Nat) (v : Value) : (pm_tr b0 ext v).category = v.category := by
  cases v <;> simp [pm_tr, Value.category]
def pm_L (b0 : Nat) (ext : Nat → Nat) (lv : pL) : pL := lv.map (fun q => (q.1, pm_tr b0 ext q.2))
def pm_S (b0 : Nat) (ext : Nat → Nat) (st : List Value) : List Value := st.map (pm_tr b0 ext)
theorem pm_get_ok {lv : pL} {i : Nat} {v : Value} (h : pm_get lv i = some v) (hl : lv_has ls nL (pm_L b0 ext lv)) : ls[i]? = some (.val (pm_tr b0 ext v)) := by
  unfold pm_get at h
  split at h
  · next q hq =>
    cases h
    have h1 := List.mem_of_find?_eq_some hq
    have h2 := List.find?_some hq
    have h3 : q.1 = i := by simpa using h2
    subst h3
    exact hl.2.2 (q.1, pm_tr b0 ext q.2) (List.mem_map.mpr ⟨q, h1, rfl⟩)
  · cases h
theorem pm_set1_tr (b0 : Nat) (ext : Nat → Nat) (lv : pL) (i : Nat) (v : Value) : (i, pm_tr b0 ext v) :: (pm_L b0 ext lv).filter (fun q => !(q.1 == i) && !(q.1 + 1 == i && q.2.category == 2)) = pm_L b0 ext (pm_set1 lv i v) := by
  simp only [pm_set1, pm_L, List.map_cons, List.filter_map, Function.comp_def, pm_cat']
theorem pm_set2_tr (b0 : Nat) (ext : Nat → Nat) (lv : pL) (i : Nat) (v : Value) : (i, pm_tr b0 ext v) :: (pm_L b0 ext lv).filter (fun q => !(q.1 == i) && (!(q.1 == i + 1) && !(q.1 + 1 == i && q.2.category == 2))) = pm_L b0 ext (pm_set2 lv i v) := by
  simp only [pm_set2, pm_L, List.map_cons, List.filter_map, Function.comp_def, pm_cat']
/-- where the next instruction is: behind this one, or at a target -/
def pm_next (pc len : Nat) (j : Option Int) (pc' : Nat) : Prop := match j with
  | none => pc' = pc + len
  | some off => (pc : Int) + off = (pc' : Int)
/-- an instruction's row, as it is wanted -/
def pm_Row (p : Program) (l : Launch) (e : Env) (R : Room) (s : State) (m : MethodId) (args : Array Value) (below : List Frame) (meth : Method) (c : Code) (H : Heap) (locs : List Loc) (cells slots : Nat) (Q : State → Prop) (b0 : Nat) (ext : Nat → Nat) (pc len nL : Nat) (lv : pL) (st : List Value) (r : pL × List Value × Option Int) : Prop :=
  ∀ (ls : Array Slot) (pc' : Nat), lv_has ls nL (pm_L b0 ext lv) → pm_next pc len r.2.2 pc' → (∀ ls' : Array Slot, lv_has ls' nL (pm_L b0 ext r.1) → W p l e R s m args below meth c H locs cells slots Q (F0 m pc' ls' (pm_S b0 ext r.2.1))) → W p l e R s m args below meth c H locs cells slots Q (F0 m pc ls (pm_S b0 ext st))
theorem pm_ii_ok {f : Int32 → Int32 → Int32} {lv : pL} {st : List Value} {r : pL × List Value × Option Int} (h : pm_ii f lv st = some r)
    (row : ∀ (x y : Int32) (ls : Array Slot) (rest : List Value), W p l e R s m args below meth c H locs cells slots Q (F0 m (pc + 1) ls (.int (f x y) :: rest)) → W p l e R s m args below meth c H locs cells slots Q (F0 m pc ls (.int y :: .int x :: rest))) : pm_Row p l e R s m args below meth c H locs cells slots Q b0 ext pc 1 nL lv st r := by
  unfold pm_ii at h
  split at h
  · cases h
    intro ls pc' hl hn k
    cases hn
    exact row _ _ ls _ (k ls hl)
  · cases h
theorem pm_iz_ok {f : Int32 → Int32 → Int32} {lv : pL} {st : List Value} {r : pL × List Value × Option Int} (h : pm_iz f lv st = some r)
    (row : ∀ (x y : Int32) (ls : Array Slot) (rest : List Value), ¬ y = 0 → W p l e R s m args below meth c H locs cells slots Q (F0 m (pc + 1) ls (.int (f x y) :: rest)) → W p l e R s m args below meth c H locs cells slots Q (F0 m pc ls (.int y :: .int x :: rest))) : pm_Row p l e R s m args below meth c H locs cells slots Q b0 ext pc 1 nL lv st r := by
  unfold pm_iz at h
  split at h
  · split at h
    · cases h
    · next hy =>
      cases h
      intro ls pc' hl hn k
      cases hn
      exact row _ _ ls _ hy (k ls hl)
  · cases h
theorem pm_ll_ok {f : Int64 → Int64 → Int64} {lv : pL} {st : List Value} {r : pL × List Value × Option Int} (h : pm_ll f lv st = some r)
    (row : ∀ (x y : Int64) (ls : Array Slot) (rest : List Value), W p l e R s m args below meth c H locs cells slots Q (F0 m (pc + 1) ls (.long (f x y) :: rest)) → W p l e R s m args below meth c H locs cells slots Q (F0 m pc ls (.long y :: .long x :: rest))) : pm_Row p l e R s m args below meth c H locs cells slots Q b0 ext pc 1 nL lv st r := by
  unfold pm_ll at h
  split at h
  · cases h
    intro ls pc' hl hn k
    cases hn
    exact row _ _ ls _ (k ls hl)
  · cases h
theorem pm_lz_ok {f : Int64 → Int64 → Int64} {lv : pL} {st : List Value} {r : pL × List Value × Option Int} (h : pm_lz f lv st = some r)
    (row : ∀ (x y : Int64) (ls : Array Slot) (rest : List Value), ¬ y = 0 → W p l e R s m args below meth c H locs cells slots Q (F0 m (pc + 1) ls (.long (f x y) :: rest)) → W p l e R s m args below meth c H locs cells slots Q (F0 m pc ls (.long y :: .long x :: rest))) : pm_Row p l e R s m args below meth c H locs cells slots Q b0 ext pc 1 nL lv st r := by
  unfold pm_lz at h
  split at h
  · split at h
    · cases h
    · next hy =>
      cases h
      intro ls pc' hl hn k
      cases hn
      exact row _ _ ls _ hy (k ls hl)
  · cases h
theorem pm_li_ok {f : Int64 → Int32 → Int64} {lv : pL} {st : List Value} {r : pL × List Value × Option Int} (h : pm_li f lv st = some r)
    (row : ∀ (x : Int64) (y : Int32) (ls : Array Slot) (rest : List Value), W p l e R s m args below meth c H locs cells slots Q (F0 m (pc + 1) ls (.long (f x y) :: rest)) → W p l e R s m args below meth c H locs cells slots Q (F0 m pc ls (.int y :: .long x :: rest))) : pm_Row p l e R s m args below meth c H locs cells slots Q b0 ext pc 1 nL lv st r := by
  unfold pm_li at h
  split at h
  · cases h
    intro ls pc' hl hn k
    cases hn
    exact row _ _ ls _ (k ls hl)
  · cases h
theorem pm_i1_ok {f : Int32 → Int32} {lv : pL} {st : List Value} {r : pL × List Value × Option Int} (h : pm_i1 f lv st = some r)
    (row : ∀ (x : Int32) (ls : Array Slot) (rest : List Value), W p l e R s m args below meth c H locs cells slots Q (F0 m (pc + 1) ls (.int (f x) :: rest)) → W p l e R s m args below meth c H locs cells slots Q (F0 m pc ls (.int x :: rest))) : pm_Row p l e R s m args below meth c H locs cells slots Q b0 ext pc 1 nL lv st r := by
  unfold pm_i1 at h
  split at h
  · cases h
    intro ls pc' hl hn k
    cases hn
    exact row _ ls _ (k ls hl)
  · cases h
theorem pm_l1_ok {f : Int64 → Int64} {lv : pL} {st : List Value} {r : pL × List Value × Option Int} (h : pm_l1 f lv st = some r)
    (row : ∀ (x : Int64) (ls : Array Slot) (rest : List Value), W p l e R s m args below meth c H locs cells slots Q (F0 m (pc + 1) ls (.long (f x) :: rest)) → W p l e R s m args below meth c H locs cells slots Q (F0 m pc ls (.long x :: rest))) : pm_Row p l e R s m args below meth c H locs cells slots Q b0 ext pc 1 nL lv st r := by
  unfold pm_l1 at h
  split at h
  · cases h
    intro ls pc' hl hn k
    cases hn
    exact row _ ls _ (k ls hl)
  · cases h
theorem pm_i2l_ok (hx : p.tables.exec = Jvm.exec) (hb : c.code = cc) {lv : pL} {st : List Value} {r : pL × List Value × Option Int} (hd : decode cc pc = .ok (.i2l, 1)) (h : pm_i2l lv st = some r) : pm_Row p l e R s m args below meth c H locs cells slots Q b0 ext pc 1 nL lv st r := by
  unfold pm_i2l at h
  split at h
  · cases h
    intro ls pc' hl hn k
    cases hn
    exact lv_i2l hx hb hd rfl (k ls hl)
  · cases h
theorem pm_l2i_ok (hx : p.tables.exec = Jvm.exec) (hb : c.code = cc) {lv : pL} {st : List Value} {r : pL × List Value × Option Int} (hd : decode cc pc = .ok (.l2i, 1)) (h : pm_l2i lv st = some r) : pm_Row p l e R s m args below meth c H locs cells slots Q b0 ext pc 1 nL lv st r := by
  unfold pm_l2i at h
  split at h
  · cases h
    intro ls pc' hl hn k
    cases hn
    exact lv_l2i hx hb hd rfl (k ls hl)
  · cases h
theorem pm_lcmp_ok (hx : p.tables.exec = Jvm.exec) (hb : c.code = cc) {lv : pL} {st : List Value} {r : pL × List Value × Option Int} (hd : decode cc pc = .ok (.lcmp, 1)) (h : pm_lcmp lv st = some r) : pm_Row p l e R s m args below meth c H locs cells slots Q b0 ext pc 1 nL lv st r := by
  unfold pm_lcmp at h
  split at h
  · cases h
    intro ls pc' hl hn k
    cases hn
    exact W.lcmp hx hb hd (k ls hl)
  · cases h
theorem pm_dup_ok (hx : p.tables.exec = Jvm.exec) (hb : c.code = cc) {lv : pL} {st : List Value} {r : pL × List Value × Option Int} (hd : decode cc pc = .ok (.dup, 1)) (h : pm_dup lv st = some r) : pm_Row p l e R s m args below meth c H locs cells slots Q b0 ext pc 1 nL lv st r := by
  unfold pm_dup at h
  split at h
  · split at h
    · next hc =>
      cases h
      intro ls pc' hl hn k
      cases hn
      exact lv_dup hx hb hd (by rw [pm_cat']; exact hc) (k ls hl)
    · cases h
  · cases h
theorem pm_pop_ok (hx : p.tables.exec = Jvm.exec) (hb : c.code = cc) {lv : pL} {st : List Value} {r : pL × List Value × Option Int} (hd : decode cc pc = .ok (.pop, 1)) (h : pm_pop lv st = some r) : pm_Row p l e R s m args below meth c H locs cells slots Q b0 ext pc 1 nL lv st r := by
  unfold pm_pop at h
  split at h
  · split at h
    · next hc =>
      cases h
      intro ls pc' hl hn k
      cases hn
      exact lv_pop hx hb hd (by rw [pm_cat']; exact hc) (k ls hl)
    · cases h
  · cases h
theorem pm_one {v : Value} (h : ¬ v.category = 2) : v.category = 1 := by
  rcases lv_cat v with q | q
  · exact q
  · exact absurd q h
theorem pm_dup2_ok (hx : p.tables.exec = Jvm.exec) (hb : c.code = cc) {lv : pL} {st : List Value} {r : pL × List Value × Option Int} (hd : decode cc pc = .ok (.dup2, 1)) (h : pm_dup2 lv st = some r) : pm_Row p l e R s m args below meth c H locs cells slots Q b0 ext pc 1 nL lv st r := by
  unfold pm_dup2 at h
  split at h
  · split at h
    · next hc =>
      cases h
      intro ls pc' hl hn k
      cases hn
      exact lv_dup2_2 hx hb hd (by rw [pm_cat']; exact hc) (k ls hl)
    · next hc =>
      split at h
      · next hc2 =>
        cases h
        intro ls pc' hl hn k
        cases hn
        exact lv_dup2_11 hx hb hd (by rw [pm_cat']; exact pm_one hc) (by rw [pm_cat']; exact hc2) (k ls hl)
      · cases h
  · split at h
    · next hc =>
      cases h
      intro ls pc' hl hn k
      cases hn
      exact lv_dup2_2 hx hb hd (by rw [pm_cat']; exact hc) (k ls hl)
    · cases h
  · cases h
theorem pm_if_ok (hx : p.tables.exec = Jvm.exec) (hb : c.code = cc) {lv : pL} {st : List Value} {cnd : Jvm.ClassFile.Cond} {off : Int} {r : pL × List Value × Option Int} (hd : decode cc pc = .ok (.ifCond cnd off, 3)) (hg : 0 ≤ (pc : Int) + off) (h : pm_if cnd off lv st = some r) : pm_Row p l e R s m args below meth c H locs cells slots Q b0 ext pc 3 nL lv st r := by
  unfold pm_if at h
  split at h
  · next x rest =>
    cases h
    intro ls pc' hl hn k
    have ht : (pc : Int) + off = (((pc : Int) + off).toNat : Int) := (Int.toNat_of_nonneg hg).symm
    have kt : pm_c1 cnd x = true → W p l e R s m args below meth c H locs cells slots Q (F0 m ((pc : Int) + off).toNat ls (pm_S b0 ext rest)) := by
      intro hc
      simp only [pm_br, hc, if_true] at hn
      have : pc' = ((pc : Int) + off).toNat := by
        have h9 : (pc : Int) + off = (pc' : Int) := hn
        omega
      subst this
      exact k ls hl
    have kf : ¬ pm_c1 cnd x = true → W p l e R s m args below meth c H locs cells slots Q (F0 m (pc + 3) ls (pm_S b0 ext rest)) := by
      intro hc
      simp only [pm_br, hc] at hn
      have : pc' = pc + 3 := hn
      subst this
      exact k ls hl
    cases cnd
    · exact lv_if_eq hx hb hd ht (fun q => kt (by simp [pm_c1, q])) (fun q => kf (by simp [pm_c1, q]))
    · exact lv_if_ne hx hb hd ht (fun q => kt (by simp [pm_c1, q])) (fun q => kf (by simpa [pm_c1] using q))
    · exact lv_if_lt hx hb hd ht (fun q => kt (by simp [pm_c1, q])) (fun q => kf (by simpa [pm_c1] using q))
    · exact lv_if_ge hx hb hd ht (fun q => kt (by simpa [pm_c1] using q)) (fun q => kf (by simpa [pm_c1] using q))
    · exact lv_if_gt hx hb hd ht (fun q => kt (by simpa [pm_c1] using q)) (fun q => kf (by simpa [pm_c1] using q))
    · exact lv_if_le hx hb hd ht (fun q => kt (by simpa [pm_c1] using q)) (fun q => kf (by simpa [pm_c1] using q))
  · cases h
theorem pm_icmp_ok (hx : p.tables.exec = Jvm.exec) (hb : c.code = cc) {lv : pL} {st : List Value} {cnd : Jvm.ClassFile.Cond} {off : Int} {r : pL × List Value × Option Int} (hd : decode cc pc = .ok (.if_icmp cnd off, 3)) (hg : 0 ≤ (pc : Int) + off) (h : pm_icmp cnd off lv st = some r) : pm_Row p l e R s m args below meth c H locs cells slots Q b0 ext pc 3 nL lv st r := by
  unfold pm_icmp at h
  split at h
  · next y x rest =>
    cases h
    intro ls pc' hl hn k
    have ht : (pc : Int) + off = (((pc : Int) + off).toNat : Int) := (Int.toNat_of_nonneg hg).symm
    have kt : pm_c2 cnd x y = true → W p l e R s m args below meth c H locs cells slots Q (F0 m ((pc : Int) + off).toNat ls (pm_S b0 ext rest)) := by
      intro hc
      simp only [pm_br, hc, if_true] at hn
      have : pc' = ((pc : Int) + off).toNat := by
        have h9 : (pc : Int) + off = (pc' : Int) := hn
        omega
      subst this
      exact k ls hl
    have kf : ¬ pm_c2 cnd x y = true → W p l e R s m args below meth c H locs cells slots Q (F0 m (pc + 3) ls (pm_S b0 ext rest)) := by
      intro hc
      simp only [pm_br, hc] at hn
      have : pc' = pc + 3 := hn
      subst this
      exact k ls hl
    cases cnd
    · exact lv_icmp_eq hx hb hd ht (fun q => kt (by simp [pm_c2, q])) (fun q => kf (by simp [pm_c2, q]))
    · exact lv_icmp_ne hx hb hd ht (fun q => kt (by simp [pm_c2, q])) (fun q => kf (by simpa [pm_c2] using q))
    · exact lv_icmp_lt hx hb hd ht (fun q => kt (by simp [pm_c2, q])) (fun q => kf (by simpa [pm_c2] using q))
    · exact lv_icmp_ge hx hb hd ht (fun q => kt (by simpa [pm_c2] using q)) (fun q => kf (by simpa [pm_c2] using q))
    · exact lv_icmp_gt hx hb hd ht (fun q => kt (by simpa [pm_c2] using q)) (fun q => kf (by simpa [pm_c2] using q))
    · exact lv_icmp_le hx hb hd ht (fun q => kt (by simpa [pm_c2] using q)) (fun q => kf (by simpa [pm_c2] using q))
  · cases h
theorem pm_tsw_ok (hx : p.tables.exec = Jvm.exec) (hb : c.code = cc) {lv : pL} {st : List Value} {dflt lo hi : Int} {offs : Array Int} {len : Nat} {r : pL × List Value × Option Int} (hd : decode cc pc = .ok (.tableswitch dflt lo hi offs, len)) (h : pm_tsw dflt lo hi offs.toList lv st = some r) : pm_Row p l e R s m args below meth c H locs cells slots Q b0 ext pc len nL lv st r := by
  unfold pm_tsw at h
  split at h
  · split at h
    · next hr =>
      cases h
      intro ls pc' hl hn k
      exact lv_tableOut hx hb hd hr hn (k ls hl)
    · next hr =>
      split at h
      · next o ho =>
        cases h
        intro ls pc' hl hn k
        have h1 := fun q => hr (Or.inl q)
        have h2 := fun q => hr (Or.inr q)
        exact lv_tableIn hx hb hd h1 h2 (by rw [← Array.getElem?_toList]; exact ho) hn (k ls hl)
      · cases h
  · cases h
theorem pm_lsw_ok (hx : p.tables.exec = Jvm.exec) (hb : c.code = cc) {lv : pL} {st : List Value} {dflt : Int} {ps : Array (Int × Int)} {len : Nat} {r : pL × List Value × Option Int} (hd : decode cc pc = .ok (.lookupswitch dflt ps, len)) (h : pm_lsw dflt ps.toList lv st = some r) : pm_Row p l e R s m args below meth c H locs cells slots Q b0 ext pc len nL lv st r := by
  unfold pm_lsw at h
  split at h
  · split at h
    · next hp =>
      cases h
      intro ls pc' hl hn k
      exact lv_lookup hx hb hd hp rfl hn (k ls hl)
    · cases h
  · cases h
end PL
