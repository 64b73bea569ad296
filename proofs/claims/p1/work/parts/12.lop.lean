section PL2
variable {p : Program} {l : Launch} {e : Env} {R : Room} {s : State} {m : MethodId} {args : Array Value} {below : List Frame} {meth : Method} {c : Code} {H : Heap} {locs : List Loc} {cells slots : Nat} {Q : State → Prop}
variable {cc : ByteArray} {pc nL b0 : Nat} {ext : Nat → Nat}
theorem pm_iload_ok {lv : pL} {st : List Value} {i len : Nat} {r : pL × List Value × Option Int} (h : pm_iload lv st i = some r)
    (row : ∀ (x : Int32) (ls : Array Slot) (rest : List Value), ls[i]? = some (.val (.int x)) → W p l e R s m args below meth c H locs cells slots Q (F0 m (pc + len) ls (.int x :: rest)) → W p l e R s m args below meth c H locs cells slots Q (F0 m pc ls rest)) : pm_Row p l e R s m args below meth c H locs cells slots Q b0 ext pc len nL lv st r := by
  unfold pm_iload at h
  split at h
  · next x hg =>
    cases h
    intro ls pc' hl hn k
    cases hn
    exact row x ls _ (pm_get_ok hg hl) (k ls hl)
  · cases h
theorem pm_lload_ok {lv : pL} {st : List Value} {i len : Nat} {r : pL × List Value × Option Int} (h : pm_lload lv st i = some r)
    (row : ∀ (x : Int64) (ls : Array Slot) (rest : List Value), ls[i]? = some (.val (.long x)) → W p l e R s m args below meth c H locs cells slots Q (F0 m (pc + len) ls (.long x :: rest)) → W p l e R s m args below meth c H locs cells slots Q (F0 m pc ls rest)) : pm_Row p l e R s m args below meth c H locs cells slots Q b0 ext pc len nL lv st r := by
  unfold pm_lload at h
  split at h
  · next x hg =>
    cases h
    intro ls pc' hl hn k
    cases hn
    exact row x ls _ (pm_get_ok hg hl) (k ls hl)
  · cases h
theorem pm_aload_ok {lv : pL} {st : List Value} {i len : Nat} {r : pL × List Value × Option Int} (h : pm_aload lv st i = some r)
    (row : ∀ (x : Nat) (ls : Array Slot) (rest : List Value), ls[i]? = some (.val (.ref x)) → W p l e R s m args below meth c H locs cells slots Q (F0 m (pc + len) ls (.ref x :: rest)) → W p l e R s m args below meth c H locs cells slots Q (F0 m pc ls rest)) : pm_Row p l e R s m args below meth c H locs cells slots Q b0 ext pc len nL lv st r := by
  unfold pm_aload at h
  split at h
  · next x hg =>
    cases h
    intro ls pc' hl hn k
    cases hn
    exact row _ ls _ (pm_get_ok hg hl) (k ls hl)
  · next x hg =>
    cases h
    intro ls pc' hl hn k
    cases hn
    exact row _ ls _ (pm_get_ok hg hl) (k ls hl)
  · cases h
theorem pm_istore_ok {lv : pL} {st : List Value} {i len : Nat} {r : pL × List Value × Option Int} (h : pm_istore nL lv st i = some r)
    (row : ∀ (x : Int32) (lw : pL) (ls : Array Slot) (rest : List Value), lv_has ls nL lw → i < nL → (∀ ls' : Array Slot, lv_has ls' nL ((i, Value.int x) :: lw.filter (fun q => !(q.1 == i) && !(q.1 + 1 == i && q.2.category == 2))) → W p l e R s m args below meth c H locs cells slots Q (F0 m (pc + len) ls' rest)) → W p l e R s m args below meth c H locs cells slots Q (F0 m pc ls (.int x :: rest))) : pm_Row p l e R s m args below meth c H locs cells slots Q b0 ext pc len nL lv st r := by
  unfold pm_istore at h
  split at h
  · split at h
    · next hi =>
      cases h
      intro ls pc' hl hn k
      cases hn
      exact row _ _ ls _ hl hi (fun ls' h' => k ls' (by rw [← pm_set1_tr]; exact h'))
    · cases h
  · cases h
theorem pm_lstore_ok {lv : pL} {st : List Value} {i len : Nat} {r : pL × List Value × Option Int} (h : pm_lstore nL lv st i = some r)
    (row : ∀ (x : Int64) (lw : pL) (ls : Array Slot) (rest : List Value), lv_has ls nL lw → i + 1 < nL → (∀ ls' : Array Slot, lv_has ls' nL ((i, Value.long x) :: lw.filter (fun q => !(q.1 == i) && (!(q.1 == i + 1) && !(q.1 + 1 == i && q.2.category == 2)))) → W p l e R s m args below meth c H locs cells slots Q (F0 m (pc + len) ls' rest)) → W p l e R s m args below meth c H locs cells slots Q (F0 m pc ls (.long x :: rest))) : pm_Row p l e R s m args below meth c H locs cells slots Q b0 ext pc len nL lv st r := by
  unfold pm_lstore at h
  split at h
  · split at h
    · next hi =>
      cases h
      intro ls pc' hl hn k
      cases hn
      exact row _ _ ls _ hl hi (fun ls' h' => k ls' (by rw [← pm_set2_tr]; exact h'))
    · cases h
  · cases h
theorem pm_astore_ok {lv : pL} {st : List Value} {i len : Nat} {r : pL × List Value × Option Int} (h : pm_astore nL lv st i = some r)
    (row : ∀ (x : Nat) (lw : pL) (ls : Array Slot) (rest : List Value), lv_has ls nL lw → i < nL → (∀ ls' : Array Slot, lv_has ls' nL ((i, Value.ref x) :: lw.filter (fun q => !(q.1 == i) && !(q.1 + 1 == i && q.2.category == 2))) → W p l e R s m args below meth c H locs cells slots Q (F0 m (pc + len) ls' rest)) → W p l e R s m args below meth c H locs cells slots Q (F0 m pc ls (.ref x :: rest))) : pm_Row p l e R s m args below meth c H locs cells slots Q b0 ext pc len nL lv st r := by
  unfold pm_astore at h
  split at h
  · split at h
    · next hi =>
      cases h
      intro ls pc' hl hn k
      cases hn
      exact row _ _ ls _ hl hi (fun ls' h' => k ls' (by rw [← pm_set1_tr]; exact h'))
    · cases h
  · split at h
    · next hi =>
      cases h
      intro ls pc' hl hn k
      cases hn
      exact row _ _ ls _ hl hi (fun ls' h' => k ls' (by rw [← pm_set1_tr]; exact h'))
    · cases h
  · cases h
theorem pm_iinc_ok (hx : p.tables.exec = Jvm.exec) (hb : c.code = cc) {lv : pL} {st : List Value} {i : Nat} {n : Int} {r : pL × List Value × Option Int} (hd : decode cc pc = .ok (.iinc i n, 3)) (h : pm_iinc nL lv st i n = some r) : pm_Row p l e R s m args below meth c H locs cells slots Q b0 ext pc 3 nL lv st r := by
  unfold pm_iinc at h
  split at h
  · next x hg =>
    split at h
    · next hi =>
      cases h
      intro ls pc' hl hn k
      cases hn
      have hm : (i, Value.int x) ∈ pm_L b0 ext lv := by
        unfold pm_get at hg
        split at hg
        · next q hq =>
          cases q with
          | mk a v =>
            have hv : v = .int x := Option.some.inj hg
            subst hv
            have h2 : a = i := by simpa using List.find?_some hq
            subst h2
            exact List.mem_map.mpr ⟨(a, .int x), List.mem_of_find?_eq_some hq, rfl⟩
        · cases hg
      obtain ⟨j, hj⟩ := List.getElem?_of_mem hm
      exact lv_iinc hx hb hd hl (k := j) hj rfl hi rfl (fun ls' h' => k ls' (by rw [← pm_set1_tr]; exact h'))
    · cases h
  · cases h
/-- all of them -/
theorem pm_lop_ok (hx : p.tables.exec = Jvm.exec) (hb : c.code = cc) {ins : Instr} {len : Nat} {lv : pL} {st : List Value} {r : pL × List Value × Option Int} (hd : decode cc pc = .ok (ins, len)) (hln : pm_len ins len = true) (h : pm_lop nL ins lv st = some r) (hg : ∀ off, r.2.2 = some off → 0 ≤ (pc : Int) + off)
    (hbr : ∀ cnd off, ins = .ifCond cnd off ∨ ins = .if_icmp cnd off → 0 ≤ (pc : Int) + off) : pm_Row p l e R s m args below meth c H locs cells slots Q b0 ext pc len nL lv st r := by
  cases ins
  case iconst n => simp [pm_len] at hln; subst hln; cases h; intro ls pc' hl hn k; cases hn; exact lv_iconst hx hb hd rfl (k ls hl)
  case bipush n => simp [pm_len] at hln; subst hln; cases h; intro ls pc' hl hn k; cases hn; exact lv_bipush hx hb hd rfl (k ls hl)
  case sipush n => simp [pm_len] at hln; subst hln; cases h; intro ls pc' hl hn k; cases hn; exact lv_sipush hx hb hd rfl (k ls hl)
  case lconst n => simp [pm_len] at hln; subst hln; cases h; intro ls pc' hl hn k; cases hn; exact lv_lconst hx hb hd rfl (k ls hl)
  case iload_n n => simp [pm_len] at hln; subst hln; exact pm_iload_ok h (fun x ls rest hg k => lv_iload_n hx hb hd rfl hg k)
  case iload n => simp [pm_len] at hln; subst hln; exact pm_iload_ok h (fun x ls rest hg k => lv_iload hx hb hd hg k)
  case lload_n n => simp [pm_len] at hln; subst hln; exact pm_lload_ok h (fun x ls rest hg k => lv_lload_n hx hb hd rfl hg k)
  case lload n => simp [pm_len] at hln; subst hln; exact pm_lload_ok h (fun x ls rest hg k => lv_lload hx hb hd hg k)
  case aload_n n => simp [pm_len] at hln; subst hln; exact pm_aload_ok h (fun x ls rest hg k => lv_aload_n hx hb hd rfl hg k)
  case aload n => simp [pm_len] at hln; subst hln; exact pm_aload_ok h (fun x ls rest hg k => lv_aload hx hb hd hg k)
  case istore_n n => simp [pm_len] at hln; subst hln; exact pm_istore_ok h (fun x lw ls rest hl hi k => lv_istore_n hx hb hd rfl hl hi rfl k)
  case istore n => simp [pm_len] at hln; subst hln; exact pm_istore_ok h (fun x lw ls rest hl hi k => lv_istore hx hb hd hl hi rfl k)
  case lstore_n n => simp [pm_len] at hln; subst hln; exact pm_lstore_ok h (fun x lw ls rest hl hi k => lv_lstore_n hx hb hd rfl hl hi rfl k)
  case lstore n => simp [pm_len] at hln; subst hln; exact pm_lstore_ok h (fun x lw ls rest hl hi k => lv_lstore hx hb hd hl hi rfl k)
  case astore_n n => simp [pm_len] at hln; subst hln; exact pm_astore_ok h (fun x lw ls rest hl hi k => lv_astore_n hx hb hd rfl hl hi rfl k)
  case astore n => simp [pm_len] at hln; subst hln; exact pm_astore_ok h (fun x lw ls rest hl hi k => lv_astore hx hb hd hl hi rfl k)
  case iinc i n => simp [pm_len] at hln; subst hln; exact pm_iinc_ok hx hb hd h
  case iadd => simp [pm_len] at hln; subst hln; exact pm_ii_ok h (fun x y ls rest k => lv_iadd hx hb hd k)
  case isub => simp [pm_len] at hln; subst hln; exact pm_ii_ok h (fun x y ls rest k => lv_isub hx hb hd k)
  case imul => simp [pm_len] at hln; subst hln; exact pm_ii_ok h (fun x y ls rest k => lv_imul hx hb hd k)
  case iand => simp [pm_len] at hln; subst hln; exact pm_ii_ok h (fun x y ls rest k => lv_iand hx hb hd k)
  case ior => simp [pm_len] at hln; subst hln; exact pm_ii_ok h (fun x y ls rest k => lv_ior hx hb hd k)
  case ixor => simp [pm_len] at hln; subst hln; exact pm_ii_ok h (fun x y ls rest k => lv_ixor hx hb hd k)
  case ishl => simp [pm_len] at hln; subst hln; exact pm_ii_ok h (fun x y ls rest k => lv_ishl hx hb hd k)
  case ishr => simp [pm_len] at hln; subst hln; exact pm_ii_ok h (fun x y ls rest k => lv_ishr hx hb hd k)
  case iushr => simp [pm_len] at hln; subst hln; exact pm_ii_ok h (fun x y ls rest k => lv_iushr hx hb hd rfl k)
  case idiv => simp [pm_len] at hln; subst hln; exact pm_iz_ok h (fun x y ls rest hy k => lv_idiv hx hb hd hy k)
  case irem => simp [pm_len] at hln; subst hln; exact pm_iz_ok h (fun x y ls rest hy k => lv_irem hx hb hd hy k)
  case ineg => simp [pm_len] at hln; subst hln; exact pm_i1_ok h (fun x ls rest k => lv_ineg hx hb hd k)
  case i2b => simp [pm_len] at hln; subst hln; exact pm_i1_ok h (fun x ls rest k => lv_i2b hx hb hd rfl k)
  case i2s => simp [pm_len] at hln; subst hln; exact pm_i1_ok h (fun x ls rest k => lv_i2s hx hb hd rfl k)
  case i2l => simp [pm_len] at hln; subst hln; exact pm_i2l_ok hx hb hd h
  case l2i => simp [pm_len] at hln; subst hln; exact pm_l2i_ok hx hb hd h
  case ladd => simp [pm_len] at hln; subst hln; exact pm_ll_ok h (fun x y ls rest k => lv_ladd hx hb hd k)
  case lsub => simp [pm_len] at hln; subst hln; exact pm_ll_ok h (fun x y ls rest k => lv_lsub hx hb hd k)
  case lmul => simp [pm_len] at hln; subst hln; exact pm_ll_ok h (fun x y ls rest k => lv_lmul hx hb hd k)
  case land => simp [pm_len] at hln; subst hln; exact pm_ll_ok h (fun x y ls rest k => lv_land hx hb hd k)
  case lor => simp [pm_len] at hln; subst hln; exact pm_ll_ok h (fun x y ls rest k => lv_lor hx hb hd k)
  case lxor => simp [pm_len] at hln; subst hln; exact pm_ll_ok h (fun x y ls rest k => lv_lxor hx hb hd k)
  case ldiv => simp [pm_len] at hln; subst hln; exact pm_lz_ok h (fun x y ls rest hy k => lv_ldiv hx hb hd hy k)
  case lneg => simp [pm_len] at hln; subst hln; exact pm_l1_ok h (fun x ls rest k => lv_lneg hx hb hd k)
  case lshl => simp [pm_len] at hln; subst hln; exact pm_li_ok h (fun x y ls rest k => lv_lshl hx hb hd rfl k)
  case lshr => simp [pm_len] at hln; subst hln; exact pm_li_ok h (fun x y ls rest k => lv_lshr hx hb hd rfl k)
  case lushr => simp [pm_len] at hln; subst hln; exact pm_li_ok h (fun x y ls rest k => lv_lushr hx hb hd rfl k)
  case lcmp => simp [pm_len] at hln; subst hln; exact pm_lcmp_ok hx hb hd h
  case dup => simp [pm_len] at hln; subst hln; exact pm_dup_ok hx hb hd h
  case pop => simp [pm_len] at hln; subst hln; exact pm_pop_ok hx hb hd h
  case dup2 => simp [pm_len] at hln; subst hln; exact pm_dup2_ok hx hb hd h
  case ifCond cnd off => simp [pm_len] at hln; subst hln; exact pm_if_ok hx hb hd (hbr cnd off (Or.inl rfl)) h
  case if_icmp cnd off => simp [pm_len] at hln; subst hln; exact pm_icmp_ok hx hb hd (hbr cnd off (Or.inr rfl)) h
  case goto off =>
    simp [pm_len] at hln; subst hln; cases h
    intro ls pc' hl hn k
    exact lv_goto hx hb hd hn (k ls hl)
  case tableswitch dflt lo hi offs => exact pm_tsw_ok hx hb hd h
  case lookupswitch dflt ps => exact pm_lsw_ok hx hb hd h
  all_goals (cases h)
end PL2
