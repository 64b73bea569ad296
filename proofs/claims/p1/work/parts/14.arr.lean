section PH2
variable {p : Program} {l : Launch} {e : Env} {R : Room} {s : State} {m : MethodId} {args : Array Value} {below : List Frame} {meth : Method} {c : Code} {H : Heap} {locs : List Loc} {cells slots : Nat} {Q : State → Prop}
variable {cc : ByteArray} {pc b0 : Nat} {ext : Nat → Nat} {ls : Array Slot} {D : va_G} {cl : List vw_C} {dA : Nat → ClassId} {H0 : Heap} {G : pH} {tys : List (ClassId × FieldType)} {Ts : List Cond}
theorem pm_ald_ok {t : Nat} (ht : t < 6) (hK : va_K D cl (pm_tys dA) s) (hR : pm_R D cl dA b0 ext H0 G H) {st st' : List Value} (h : pm_ald t G st = some st')
    (row : ∀ (a : Addr) (cell : Cell) (j : Int32) (v : Value) (rest : List Value), H[a]? = some cell → s.isArrayOf cell (pm_ty t) → cell.vm ≠ .unknown → ¬ (j < 0 ∨ cell.slots.size ≤ j.toNatClampNeg) → cell.slots[j.toNatClampNeg]? = some v → W p l e R s m args below meth c H locs cells slots Q (F0 m (pc + 1) ls (v :: rest)) → W p l e R s m args below meth c H locs cells slots Q (F0 m pc ls (.int j :: .ref a :: rest)))
    (k : W p l e R s m args below meth c H locs cells slots Q (F0 m (pc + 1) ls (pm_S b0 ext st'))) : W p l e R s m args below meth c H locs cells slots Q (F0 m pc ls (pm_S b0 ext st)) := by
  unfold pm_ald at h
  split at h
  · next i a r =>
    split at h
    · next o ho =>
      split at h
      · next hc =>
        cases h
        obtain ⟨rfl, hi⟩ := hc
        obtain ⟨h3, h4⟩ := pm_in_ok hi
        have h1 : H[b0 + a]? = some (arrV (dA o.1) o.2.1 (fun j => pm_tr b0 ext (o.2.2 j))) := hR.2.2 a _ ho
        have h2 := (hK.2 o.1 _ (pm_tys_at dA ht)).1
        exact row _ _ i _ _ h1 (h2 _ _) (fun q => by cases q) (by rw [arrV_size]; exact h3) (by rw [arrV_read _ _ h4]) k
      · cases h
    · cases h
  · cases h
theorem pm_iald_ok (hx : p.tables.exec = Jvm.exec) (hb : c.code = cc) {X : pX} (hK : va_K D cl (pm_tys dA) s) (hX : ∀ i a, X i = some a → ext i < b0 ∧ pm_X (ext i) a.1 a.2 s H0) (hR : pm_R D cl dA b0 ext H0 G H) {st st' : List Value} (h : pm_iald X G st = some st') (hd : decode cc pc = .ok (.iaload, 1))
    (k : W p l e R s m args below meth c H locs cells slots Q (F0 m (pc + 1) ls (pm_S b0 ext st'))) : W p l e R s m args below meth c H locs cells slots Q (F0 m pc ls (pm_S b0 ext st)) := by
  unfold pm_iald at h
  split at h
  · next i x r =>
    split at h
    · next a ha =>
      split at h
      · next hi =>
        cases h
        obtain ⟨hlt, scr, q1, q2, q3, q4, q5, q6⟩ := hX x a ha
        obtain ⟨h3, h4⟩ := pm_in_ok hi
        exact W.iald (v := .int (a.2 i.toNatClampNeg)) hx hb (by rw [hR.2.1 _ hlt]; exact q1) q2 q3 (fun z => h3 (z.elim Or.inl (fun w => Or.inr (Nat.le_trans q4 w)))) (q6 _ h4) rfl rfl hd k
      · cases h
    · cases h
  · exact pm_ald_ok (t := 0) (by omega) hK hR h (fun a cell j v rest h1 h2 h3 h4 h5 k => W.iald hx hb h1 h2 h3 h4 h5 rfl rfl hd k) k
theorem pm_lald_ok (hx : p.tables.exec = Jvm.exec) (hb : c.code = cc) (hK : va_K D cl (pm_tys dA) s) (hR : pm_R D cl dA b0 ext H0 G H) {st st' : List Value} (h : pm_ald 1 G st = some st') (hd : decode cc pc = .ok (.laload, 1))
    (k : W p l e R s m args below meth c H locs cells slots Q (F0 m (pc + 1) ls (pm_S b0 ext st'))) : W p l e R s m args below meth c H locs cells slots Q (F0 m pc ls (pm_S b0 ext st)) :=
  pm_ald_ok (t := 1) (by omega) hK hR h (fun a cell j v rest h1 h2 h3 h4 h5 k => W.lald hx hb h1 h2 h3 h4 h5 rfl rfl hd k) k
theorem pm_zald_ok (hx : p.tables.exec = Jvm.exec) (hb : c.code = cc) (hK : va_K D cl (pm_tys dA) s) (hR : pm_R D cl dA b0 ext H0 G H) {st st' : List Value} (h : pm_ald 2 G st = some st') (hd : decode cc pc = .ok (.baload, 1))
    (k : W p l e R s m args below meth c H locs cells slots Q (F0 m (pc + 1) ls (pm_S b0 ext st'))) : W p l e R s m args below meth c H locs cells slots Q (F0 m pc ls (pm_S b0 ext st)) :=
  pm_ald_ok (t := 2) (by omega) hK hR h (fun a cell j v rest h1 h2 h3 h4 h5 k => W.zald hx hb h1 h2 h3 h4 h5 rfl rfl hd k) k
theorem pm_aald_ok (hx : p.tables.exec = Jvm.exec) (hb : c.code = cc) (hK : va_K D cl (pm_tys dA) s) (hR : pm_R D cl dA b0 ext H0 G H) {st st' : List Value} (h : pm_aald G st = some st') (hd : decode cc pc = .ok (.aaload, 1))
    (k : W p l e R s m args below meth c H locs cells slots Q (F0 m (pc + 1) ls (pm_S b0 ext st'))) : W p l e R s m args below meth c H locs cells slots Q (F0 m pc ls (pm_S b0 ext st)) := by
  unfold pm_aald at h
  split at h
  · next i a r =>
    split at h
    · next o ho =>
      split at h
      · next hc =>
        cases h
        obtain ⟨⟨ht3, ht6⟩, hi⟩ := hc
        obtain ⟨h3, h4⟩ := pm_in_ok hi
        have h1 : H[b0 + a]? = some (arrV (dA o.1) o.2.1 (fun j => pm_tr b0 ext (o.2.2 j))) := hR.2.2 a _ ho
        have h2 := (hK.2 o.1 _ (pm_tys_at dA ht6)).1
        have h9 : (pm_ty o.1).isReference = true := by
          obtain ⟨t, n, f⟩ := o
          match t, ht3 with
          | 3, _ => rfl
          | 4, _ => rfl
          | t + 5, _ => rfl
        exact W.aald (ty := pm_ty o.1) hx hb h1 (h2 _ _) h9 (fun q => by cases q) (by rw [arrV_size]; exact h3) (by rw [arrV_read _ _ h4]) rfl rfl hd k
      · cases h
    · cases h
  · cases h
theorem pm_upd_tr (b0 : Nat) (ext : Nat → Nat) (f : Nat → Value) (k : Nat) (v : Value) : updV (fun j => pm_tr b0 ext (f j)) k (pm_tr b0 ext v) = fun j => pm_tr b0 ext (pm_upd f k v j) := by
  funext j
  by_cases hj : j = k
  · subst hj; simp [updV, pm_upd]
  · simp [updV, pm_upd, hj]
theorem pm_ast_ok {t : Nat} (ht : t < 6) (hK : va_K D cl (pm_tys dA) s) (hR : pm_R D cl dA b0 ext H0 G H) (hB : pm_B b0 locs) {k : Nat} {i : Int32} {v : Value} {r r' : List Value} {G' : pH} {st0 : List Value} (h : pm_ast t G k i v r = some (r', G'))
    (row : ∀ (cell : Cell), H[b0 + k]? = some cell → s.isArrayOf cell (pm_ty t) → cell.vm ≠ .unknown → ¬ (i < 0 ∨ cell.slots.size ≤ i.toNatClampNeg) → (∀ H' : Heap, H'[b0 + k]? = some (cell.setSlot i.toNatClampNeg (pm_tr b0 ext v)) → H'.size = H.size → (∀ q, q ≠ b0 + k → H'[q]? = H[q]?) → W p l e R s m args below meth c H' (locs ++ [⟨b0 + k, i.toNatClampNeg⟩]) cells slots Q (F0 m (pc + 1) ls (pm_S b0 ext r))) → W p l e R s m args below meth c H locs cells slots Q (F0 m pc ls st0))
    (kk : ∀ (H1 : Heap) (locs1 : List Loc), pm_R D cl dA b0 ext H0 G' H1 → pm_B b0 locs1 → W p l e R s m args below meth c H1 locs1 cells slots Q (F0 m (pc + 1) ls (pm_S b0 ext r'))) : W p l e R s m args below meth c H locs cells slots Q (F0 m pc ls st0) := by
  unfold pm_ast at h
  split at h
  · next o ho =>
    split at h
    · next hc =>
      cases h
      obtain ⟨rfl, hi⟩ := hc
      obtain ⟨h3, h4⟩ := pm_in_ok hi
      have h1 : H[b0 + k]? = some (arrV (dA o.1) o.2.1 (fun j => pm_tr b0 ext (o.2.2 j))) := hR.2.2 k _ ho
      have h2 := (hK.2 o.1 _ (pm_tys_at dA ht)).1
      refine row _ h1 (h2 _ _) (fun q => by cases q) (by rw [arrV_size]; exact h3) (fun H' e1 e2 e3 => ?_)
      refine kk H' _ (hR.set ho e2 e3 ?_) hB.add
      show H'[b0 + k]? = some (arrV _ _ _)
      rw [e1, arrV_store, pm_upd_tr]
    · cases h
  · cases h
theorem pm_iast_ok (hx : p.tables.exec = Jvm.exec) (hb : c.code = cc) (hK : va_K D cl (pm_tys dA) s) (hR : pm_R D cl dA b0 ext H0 G H) (hB : pm_B b0 locs) {st st' : List Value} {G' : pH} (h : pm_iast G st = some (st', G')) (hd : decode cc pc = .ok (.iastore, 1))
    (kk : ∀ (H1 : Heap) (locs1 : List Loc), pm_R D cl dA b0 ext H0 G' H1 → pm_B b0 locs1 → W p l e R s m args below meth c H1 locs1 cells slots Q (F0 m (pc + 1) ls (pm_S b0 ext st'))) : W p l e R s m args below meth c H locs cells slots Q (F0 m pc ls (pm_S b0 ext st)) := by
  unfold pm_iast at h
  split at h
  · exact pm_ast_ok (by omega) hK hR hB h (fun cell h1 h2 h3 h4 k => W.iast hx hb h1 h2 h3 h4 rfl rfl hd k) kk
  · cases h
theorem pm_last_ok (hx : p.tables.exec = Jvm.exec) (hb : c.code = cc) (hK : va_K D cl (pm_tys dA) s) (hR : pm_R D cl dA b0 ext H0 G H) (hB : pm_B b0 locs) {st st' : List Value} {G' : pH} (h : pm_last G st = some (st', G')) (hd : decode cc pc = .ok (.lastore, 1))
    (kk : ∀ (H1 : Heap) (locs1 : List Loc), pm_R D cl dA b0 ext H0 G' H1 → pm_B b0 locs1 → W p l e R s m args below meth c H1 locs1 cells slots Q (F0 m (pc + 1) ls (pm_S b0 ext st'))) : W p l e R s m args below meth c H locs cells slots Q (F0 m pc ls (pm_S b0 ext st)) := by
  unfold pm_last at h
  split at h
  · exact pm_ast_ok (by omega) hK hR hB h (fun cell h1 h2 h3 h4 k => W.last hx hb h1 h2 h3 h4 rfl rfl hd k) kk
  · cases h
theorem pm_zast_ok (hx : p.tables.exec = Jvm.exec) (hb : c.code = cc) (hK : va_K D cl (pm_tys dA) s) (hR : pm_R D cl dA b0 ext H0 G H) (hB : pm_B b0 locs) {st st' : List Value} {G' : pH} (h : pm_zast G st = some (st', G')) (hd : decode cc pc = .ok (.bastore, 1))
    (kk : ∀ (H1 : Heap) (locs1 : List Loc), pm_R D cl dA b0 ext H0 G' H1 → pm_B b0 locs1 → W p l e R s m args below meth c H1 locs1 cells slots Q (F0 m (pc + 1) ls (pm_S b0 ext st'))) : W p l e R s m args below meth c H locs cells slots Q (F0 m pc ls (pm_S b0 ext st)) := by
  unfold pm_zast at h
  split at h
  · exact pm_ast_ok (by omega) hK hR hB h (fun cell h1 h2 h3 h4 k => W.zast hx hb h1 h2 h3 h4 rfl rfl hd k) kk
  · cases h
theorem pm_fit_ok (b0 : Nat) (ext : Nat → Nat) {ty : FieldType} {v : Value} (h : pm_fit ty v = true) : narrow ty (pm_tr b0 ext v) = pm_tr b0 ext v ∧ fits ty (pm_tr b0 ext v) = true := by
  unfold pm_fit at h
  split at h
  · exact ⟨rfl, rfl⟩
  · exact ⟨rfl, rfl⟩
  · next x =>
    simp only [Bool.or_eq_true, beq_iff_eq] at h
    rcases h with rfl | rfl
    · exact ⟨(show narrow .boolean (.int 0) = .int 0 by decide), (show fits .boolean (.int 0) = true by decide)⟩
    · exact ⟨(show narrow .boolean (.int 1) = .int 1 by decide), (show fits .boolean (.int 1) = true by decide)⟩
  · exact ⟨rfl, rfl⟩
  · exact ⟨rfl, rfl⟩
  · cases h
theorem pm_putf_ok (hx : p.tables.exec = Jvm.exec) (hb : c.code = cc) {own : String} {idx ci j N : Nat} {C : String} {T : u_T} (hts : ∀ w ∈ Ts, w.before args s = true) (hown : s.vm.findClass own = some m.cls) (hK : va_K D cl tys s) (hc : cl[ci]? = some (C, T, N)) (hin : ∀ w ∈ u_ws C T N, w ∈ Ts) (hj : j < N) (ty0 : Nat → FieldType) (hty : ∀ k, k < N → parseFieldDescriptor (T k).2.2.1 = some (ty0 k)) (hnm : ∀ a, a < N → ∀ b, b < N → a ≠ b → (T a).2.1 ≠ (T b).2.1)
    (hlink : (Cond.fieldLink own idx (T j).1 (T j).2.1 (T j).2.2.1).before args s = true) (hfin : (T j).2.2.2 = false ∨ ((T j).2.2.2 = true ∧ meth.name = "<init>" ∧ (T j).1 = own)) (hR : pm_R D cl dA b0 ext H0 G H) (hB : pm_B b0 locs) {st st' : List Value} {G' : pH} (h : pm_putf ci j (ty0 j) G st = some (st', G')) (hd : decode cc pc = .ok (.putfield idx, 3))
    (kk : ∀ (H1 : Heap) (locs1 : List Loc), pm_R D cl dA b0 ext H0 G' H1 → pm_B b0 locs1 → W p l e R s m args below meth c H1 locs1 cells slots Q (F0 m (pc + 3) ls (pm_S b0 ext st'))) : W p l e R s m args below meth c H locs cells slots Q (F0 m pc ls (pm_S b0 ext st)) := by
  unfold pm_putf at h
  split at h
  · next v a r =>
    split at h
    · next o ho =>
      split at h
      · next hq =>
        cases h
        obtain ⟨rfl, hl, hf⟩ := hq
        obtain ⟨hn, hft⟩ := pm_fit_ok b0 ext hf
        have hap := va_apart (own := own) hts hin ty0 hty hnm hK hc
        obtain ⟨r0, h1, cell, q1, q2, q3, q4⟩ := (show va_at D cl (b0 + a, .inr (o.1, o.2.map (pm_tr b0 ext))) H from hR.2.2 a _ ho)
        have hr : r0 = (C, T, N) := Option.some.inj (h1.symm.trans hc)
        subst hr
        obtain ⟨hS, hfc, kC, hkC, hkind⟩ := hK.1 o.1 _ hc
        obtain ⟨cf, kf, fi, f, hi, hsl⟩ := hS j hj
        have hst := (u_facts hfc hkC (u_lays hts hin hj) hi).1
        have hll : j < (o.2.map (pm_tr b0 ext)).length := by rw [List.length_map]; exact hl
        have fin : ∀ (H' : Heap), H'[b0 + a]? = some (cell.setSlot ((D.2 o.1) j) (pm_tr b0 ext v)) → H'.size = H.size → (∀ q, q ≠ b0 + a → H'[q]? = H[q]?) → pm_R D cl dA b0 ext H0 (G.set a (some (.inr (o.1, o.2.set j v)))) H' := by
          intro H' e1 e2 e3
          refine hR.set ho e2 e3 ?_
          show va_at D cl (b0 + a, .inr (o.1, (o.2.set j v).map (pm_tr b0 ext))) H'
          rw [List.map_set]
          exact ⟨_, hc, t_OB.to (V := updV (vp_V (o.2.map (pm_tr b0 ext))) j (pm_tr b0 ext v)) ⟨_, e1, q2, q3, t_set q4 hap hj _⟩ (fun z _ => vp_updV_set hll _ z)⟩
        rcases hfin with hfin | ⟨hfin, hin2, hdecl⟩
        · have hlay := hts _ (hin _ (u_in_lay hj))
          unfold u_lay at hlay
          rw [if_neg (by rw [hfin]; decide)] at hlay
          have h6 := u_store hfc hkC hkind hlay hi (hty j hj) hn hft
          refine W.putK hx hb (f := f) ⟨hown, hlink, ⟨_, _, _, hi⟩, hst⟩ (by rw [q2]; exact h6) q1 q3 (by rw [hsl]; exact k2_hasslot (q4 j hj)) rfl rfl hd fun H' e1 e2 e3 => ?_
          rw [hsl] at e1
          exact kk H' _ (fin H' e1 e2 e3) hB.add
        · have hlay := hts _ (hin _ (u_in_lay hj))
          unfold u_lay at hlay
          rw [if_pos hfin] at hlay
          have hcf : m.cls = cf := by
            obtain ⟨_, _, c', _, _, _, -, -, hf', -, -, -, hown2, -⟩ := Cond.laysFinal_spec hlay
            have e1 : c' = cf := by have := hi.symm.trans hf'; simp at this; exact this.1.symm
            rw [hdecl] at hown2
            rw [← e1]; exact Option.some.inj (hown.symm.trans hown2)
          have h6 := u_fits hfc hkC hkind (Or.inr hlay) hi (hty j hj) hn hft
          refine W.putFinK hx hb hown hlink hi hst hcf hin2 (by rw [q2]; exact h6) q1 q3 (by rw [hsl]; exact k2_hasslot (q4 j hj)) rfl rfl hd fun H' e1 e2 e3 => ?_
          rw [hsl] at e1
          exact kk H' _ (fin H' e1 e2 e3) hB.add
      · cases h
    · cases h
  · cases h
end PH2
