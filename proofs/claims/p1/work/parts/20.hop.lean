/-! ===== one step is right ===== -/
theorem pm_iald_len {X : pX} {G : pH} {st st' : List Value} (_ : pm_iald X G st = some st') : True := trivial
theorem pm_ast_len {t : Nat} {G : pH} {k : Nat} {i : Int32} {v : Value} {r : List Value} {q : List Value × pH} (h : pm_ast t G k i v r = some q) : q.2.length = G.length := by
  unfold pm_ast at h
  split at h
  · split at h
    · cases h; simp
    · cases h
  · cases h
theorem pm_putf_len {ci j : Nat} {ty : FieldType} {G : pH} {st : List Value} {q : List Value × pH} (h : pm_putf ci j ty G st = some q) : q.2.length = G.length := by
  unfold pm_putf at h
  split at h
  · split at h
    · split at h
      · cases h; simp
      · cases h
    · cases h
  · cases h
theorem pm_iast_len {G : pH} {st : List Value} {q : List Value × pH} (h : pm_iast G st = some q) : q.2.length = G.length := by
  unfold pm_iast at h
  split at h
  · exact pm_ast_len h
  · cases h
theorem pm_last_len {G : pH} {st : List Value} {q : List Value × pH} (h : pm_last G st = some q) : q.2.length = G.length := by
  unfold pm_last at h
  split at h
  · exact pm_ast_len h
  · cases h
theorem pm_zast_len {G : pH} {st : List Value} {q : List Value × pH} (h : pm_zast G st = some q) : q.2.length = G.length := by
  unfold pm_zast at h
  split at h
  · exact pm_ast_len h
  · cases h
theorem pm_aast_len {ci : Nat} {G : pH} {st : List Value} {q : List Value × pH} (h : pm_aast ci G st = some q) : q.2.length = G.length := by
  unfold pm_aast at h
  split at h
  · split at h
    · split at h
      · exact pm_ast_len h
      · cases h
    · cases h
  · cases h
theorem pm_newa_len {at' : ArrayType} {G : pH} {sl : Nat} {st : List Value} {q : List Value × pH × Nat} (h : pm_newa at' G sl st = some q) : q.2.1.length = G.length + 1 ∧ sl ≤ q.2.2 := by
  unfold pm_newa at h
  split at h
  · split at h
    · split at h
      · cases h; simp
      · cases h
    · cases h
  · cases h
theorem pm_anew_len {G : pH} {sl : Nat} {st : List Value} {q : List Value × pH × Nat} (h : pm_anew G sl st = some q) : q.2.1.length = G.length + 1 ∧ sl ≤ q.2.2 := by
  unfold pm_anew at h
  split at h
  · split at h
    · cases h; simp
    · cases h
  · cases h
theorem pm_mna_len {t : Nat} {G : pH} {sl : Nat} {st : List Value} {q : List Value × pH × Nat} (h : pm_mna t G sl st = some q) : G.length ≤ q.2.1.length ∧ sl ≤ q.2.2 := by
  unfold pm_mna at h
  split at h
  · split at h
    · cases h
      simp only [List.length_append, List.length_singleton, List.length_replicate]
      omega
    · cases h
  · cases h
theorem pm_cpy_len {G : pH} {st : List Value} {q : List Value × pH} (h : pm_cpy G st = some q) : q.2.length = G.length := by
  unfold pm_cpy at h
  split at h
  · split at h
    · split at h
      · cases h; simp
      · cases h
    · cases h
  · cases h
theorem pm_cpy_tr (b0 : Nat) (ext : Nat → Nat) (f g : Nat → Value) (sp dp n : Nat) : (fun j => pm_tr b0 ext (va_cpy f g sp dp n j)) = va_cpy (fun j => pm_tr b0 ext (f j)) (fun j => pm_tr b0 ext (g j)) sp dp n := by
  funext j
  unfold va_cpy
  split <;> rfl
section PCPY
variable {p : Program} {l : Launch} {e : Env} {R : Room} {s : State} {m : MethodId} {args : Array Value} {below : List Frame} {meth : Method} {c : Code} {H : Heap} {locs : List Loc} {cells slots : Nat} {Q : State → Prop}
variable {cc : ByteArray} {pc b0 : Nat} {ext : Nat → Nat} {ls : Array Slot} {D : va_G} {cl : List vw_C} {dA : Nat → ClassId} {H0 : Heap} {G : pH}
theorem pm_cpy_ok (hexec : p.tables.exec = Jvm.exec) (hb : c.code = cc) (hml : c.maxLocals = ls.size) {own : String} {index : Nat} (hown : s.vm.findClass own = some m.cls) (hlink : (Cond.methodLink own index arraycopyName).before args s = true) (hnat : (Cond.native arraycopyName).before args s = true) (hstat : (Cond.static arraycopyName).before args s = true) (hini : (Cond.initialized "java/lang/System").before args s = true)
    (hframes : 1 ≤ R.frames) (hlocals : 84 ≤ R.locals) (hK : va_K D cl (pm_tys dA) s) (hR : pm_R D cl dA b0 ext H0 G H) (hB : pm_B b0 locs) {st st' : List Value} {G' : pH} (h : pm_cpy G st = some (st', G')) (hdg : decode cc pc = .ok (.invokestatic index, 3))
    (kk : ∀ (H1 : Heap) (locs1 : List Loc), pm_R D cl dA b0 ext H0 G' H1 → pm_B b0 locs1 → W p l e R s m args below meth c H1 locs1 cells slots Q (F0 m (pc + 3) ls (pm_S b0 ext st'))) : W p l e R s m args below meth c H locs cells slots Q (F0 m pc ls (pm_S b0 ext st)) := by
  unfold pm_cpy at h
  split at h
  · next n dp a sp b r =>
    split at h
    · next d d0 hda hdb =>
      split at h
      · next hq =>
        cases h
        obtain ⟨⟨ht, ht2⟩, ⟨h1, h2, h3⟩, ⟨h4, h5⟩, hfit, hsum⟩ := hq
        have nn : ∀ z : Int32, ¬ z < 0 → z.toInt = (z.toNatClampNeg : Int) := by
          intro z hz
          have hz0 : (0 : Int) ≤ z.toInt := by
            have := Int32.not_lt.mp hz
            simpa using Int32.le_iff_toInt_le.mp this
          show z.toInt = ((z.toInt.toNat : Nat) : Int)
          omega
        have hsum' : ((pm_S b0 ext st').map (fun v => v.category)).sum ≤ 8 := by
          have e9 : (pm_S b0 ext st').map (fun v => v.category) = st'.map (fun v => v.category) := by
            unfold pm_S
            rw [List.map_map]
            exact List.map_congr_left (fun v _ => pm_cat' b0 ext v)
          rw [e9]; exact hsum
        have hnf : nativeFrameWords "java/lang/System" "arraycopy" 5 ≤ 60 := by decide
        obtain ⟨t0, n1, g⟩ := d
        obtain ⟨t1, n0, f⟩ := d0
        dsimp only at ht ht2 h4 h5 hfit
        subst ht
        have hc1 : H[b0 + a]? = some (arrV (dA t0) n1 (fun j => pm_tr b0 ext (g j))) := hR.2.2 a _ hda
        have hc0 : H[b0 + b]? = some (arrV (dA t0) n0 (fun j => pm_tr b0 ext (f j))) := hR.2.2 b _ hdb
        obtain ⟨-, k0, hk0, cm0, hkk0⟩ := (hK.2 t0 _ (pm_tys_at dA (by omega))).1 n0 (fun j => pm_tr b0 ext (f j))
        obtain ⟨-, k1, hk1, cm1, hkk1⟩ := (hK.2 t0 _ (pm_tys_at dA (by omega))).1 n1 (fun j => pm_tr b0 ext (g j))
        have hprim : refKind (pm_ty t0) = false := by
          match t0, ht2 with
          | 0, _ => rfl
          | 1, _ => rfl
        intro T hT X
        obtain ⟨vm', X', step⟩ := X.arraycopy hexec hown hlink hnat hstat hini (src := b0 + b) (dst := b0 + a) (cs := arrV (dA t0) n0 (fun j => pm_tr b0 ext (f j))) (cd := arrV (dA t0) n1 (fun j => pm_tr b0 ext (g j))) (srcPos := sp) (destPos := dp) (n := n) (by rw [hT]; exact hc0) (by rw [hT]; exact hc1)
          (fun _ h => by cases h) (fun _ h => by cases h) (fun h => by cases h) (fun h => by cases h) hk0 hk1 hkk0 hkk1 (by simp [hprim]) h1 h2 h3
          (by rw [nn sp h1, nn n h3]; rw [arrV_size]; omega)
          (by rw [nn dp h2, nn n h3]; rw [arrV_size]; omega)
          (fun vm₁ _ i hi => by
            have e : (arrV (dA t0) n0 (fun j => pm_tr b0 ext (f j))).slots.getD (sp.toNatClampNeg + i) .null = pm_tr b0 ext (f (sp.toNatClampNeg + i)) := by
              rw [Array.getD_eq_getD_getElem?, arrV_read _ _ (by omega)]
              rfl
            have hfi := List.all_eq_true.mp hfit i (List.mem_range.mpr hi)
            have hfo := pm_fit_ok b0 ext hfi
            refine ⟨?_, ?_⟩
            · rw [e]
              exact hfo.2
            · rw [e]
              revert hfi
              match t0, ht2 with
              | 0, _ => cases f (sp.toNatClampNeg + i) <;> intro hfi <;> first | (exact trivial) | (cases hfi)
              | 1, _ => cases f (sp.toNatClampNeg + i) <;> intro hfi <;> first | (exact trivial) | (cases hfi))
          (g := F0 m pc ls (pm_S b0 ext (.int n :: .int dp :: .ref a :: .int sp :: .ref b :: st'))) rfl (by rw [hml]) (rest := pm_S b0 ext st') rfl (by rw [hb]; exact hdg) hframes (by show 2 * 0 + _ + _ ≤ _; omega)
        have e1 : copied (arrV (dA t0) n0 (fun j => pm_tr b0 ext (f j))) (arrV (dA t0) n1 (fun j => pm_tr b0 ext (g j))) sp dp n = arrV (dA t0) n1 (fun j => pm_tr b0 ext (va_cpy f g sp.toNatClampNeg dp.toNatClampNeg n.toNatClampNeg j)) := by
          rw [pm_cpy_tr]
          exact va_copied (fun z => z) (dA t0) (dA t0) (fun j => pm_tr b0 ext (f j)) (fun j => pm_tr b0 ext (g j)) h4
        rw [e1] at X' step
        have hl : b0 + a < H.size := (Array.getElem?_eq_some_iff.mp hc1).1
        have hheap : ((T.setVm vm').setCell (b0 + a) (arrV (dA t0) n1 (fun j => pm_tr b0 ext (va_cpy f g sp.toNatClampNeg dp.toNatClampNeg n.toNatClampNeg j)))).heap = H.setIfInBounds (b0 + a) (arrV (dA t0) n1 (fun j => pm_tr b0 ext (va_cpy f g sp.toNatClampNeg dp.toNatClampNeg n.toNatClampNeg j))) := by rw [← hT]; rfl
        have oq : ∀ q : Nat, q ≠ b0 + a → (H.setIfInBounds (b0 + a) (arrV (dA t0) n1 (fun j => pm_tr b0 ext (va_cpy f g sp.toNatClampNeg dp.toNatClampNeg n.toNatClampNeg j))))[q]? = H[q]? := fun q hq => by simp [Array.getElem?_setIfInBounds, Ne.symm hq]
        obtain ⟨t, a1, b1⟩ := kk _ _ (hR.set hda (by simp) oq (show (H.setIfInBounds (b0 + a) _)[b0 + a]? = some _ by simp [Array.getElem?_setIfInBounds, hl])) (fun q hq => by
            rcases List.mem_append.mp hq with h | h
            · exact hB q h
            · obtain ⟨z, -, hz⟩ := List.mem_map.mp h
              rw [← hz]
              exact Nat.le_add_right _ _) _ hheap X'
        exact ⟨t, step t a1, b1⟩
      · cases h
    · cases h
  · cases h
end PCPY
section PHOP
variable {p : Program} {l : Launch} {e : Env} {R : Room} {s s0 : State} {m : MethodId} {args : Array Value} {below : List Frame} {meth : Method} {c : Code} {H : Heap} {locs : List Loc} {cells slots : Nat} {Q : State → Prop}
variable {cc : ByteArray} {pc nL b0 : Nat} {ext : Nat → Nat} {ls : Array Slot} {D : va_G} {cl : List vw_C} {dA : Nat → ClassId} {G G' : pH} {Ts Nw : List Cond} {own mname : String} {X : pX} {F : Nat → Nat → FieldType} {dfl : Nat → Nat × List Value} {stat : Nat → Option (String × String × String)} {Mt : List pM}
theorem pm_zero {a b n : Nat} (h : a = b) : n + (a - b) = n := by omega
theorem pm_hop_ok (S : CallFix p m c cc nL s args Ts own) (hfr : 1 ≤ R.frames) (hlo : 84 ≤ R.locals) (hlsz : ls.size = nL) (hSt : pm_St Ts Nw D cl dA b0 ext X stat s0.heap s) (hCl : pm_Cl Ts cl F dfl) (hmn : meth.name = mname) {ins : Instr} {len r1 r2 : Nat} {r3 : Int} (hop : pm_opok Ts Nw Mt cl stat own mname cc (pc, ins, len, r1, r2, r3)) {st st' : List Value} {sl sl' : Nat} (h : pm_hop X F dfl ins r1 r2 r3 st G sl = some (st', G', sl')) (hR : pm_R D cl dA b0 ext s0.heap G H) (hB : pm_B b0 locs) (hcells : cells + (G'.length - G.length) ≤ R.cells) (hslots : slots + (sl' - sl) ≤ R.slots)
    (kk : ∀ (H1 : Heap) (locs1 : List Loc), pm_R D cl dA b0 ext s0.heap G' H1 → pm_B b0 locs1 → W p l e R s m args below meth c H1 locs1 (cells + (G'.length - G.length)) (slots + (sl' - sl)) Q (F0 m (pc + len) ls (pm_S b0 ext st'))) : (G.length ≤ G'.length ∧ sl ≤ sl') ∧ W p l e R s m args below meth c H locs cells slots Q (F0 m pc ls (pm_S b0 ext st)) := by
  obtain ⟨hx, hb, hml, hown, hts⟩ := id S
  obtain ⟨hK, hX, hZ, hNw, hAO⟩ := hSt
  obtain ⟨hd, hln, hop⟩ := hop
  cases ins
  case getfield idx =>
    simp only [pm_len, beq_iff_eq] at hln; subst hln
    simp only [pm_hop] at h
    split at h
    · next q hq =>
      cases h
      obtain ⟨⟨C, T, N⟩, hc, hj, hl⟩ := hop
      obtain ⟨c1, c2, c3, -⟩ := hCl r1 _ hc
      rw [Nat.sub_self, Nat.sub_self] at kk
      exact ⟨⟨Nat.le_refl _, Nat.le_refl _⟩, pm_getf_ok hx hb hts hown hK hc c1 hj (Or.inl (hts _ hl)) hR hq hd (kk H locs hR hB)⟩
    · cases h
  case putfield idx =>
    simp only [pm_len, beq_iff_eq] at hln; subst hln
    simp only [pm_hop] at h
    split at h
    · next q hq =>
      cases h
      obtain ⟨⟨C, T, N⟩, hc, hj, hl, hfin⟩ := hop
      obtain ⟨c1, c2, c3, -⟩ := hCl r1 _ hc
      have hln := pm_putf_len hq
      rw [pm_zero hln, pm_zero rfl] at kk
      refine ⟨⟨Nat.le_of_eq hln.symm, Nat.le_refl _⟩, pm_putf_ok hx hb hts hown hK hc c1 hj (F r1) c2 c3 (hts _ hl) ?_ hR hB hq hd kk⟩
      rcases hfin with h1 | ⟨h1, h2, h3⟩
      · exact Or.inl h1
      · exact Or.inr ⟨h1, hmn.trans h2, h3⟩
    · cases h
  case arraylength =>
    simp only [pm_len, beq_iff_eq] at hln; subst hln
    simp only [pm_hop] at h
    split at h
    · next q hq =>
      cases h
      rw [Nat.sub_self, Nat.sub_self] at kk
      exact ⟨⟨Nat.le_refl _, Nat.le_refl _⟩, pm_alen_ok hx hb hK hX hR hq hd (kk H locs hR hB)⟩
    · cases h
  case iaload =>
    simp only [pm_len, beq_iff_eq] at hln; subst hln
    simp only [pm_hop] at h
    split at h
    · next q hq =>
      cases h
      rw [Nat.sub_self, Nat.sub_self] at kk
      exact ⟨⟨Nat.le_refl _, Nat.le_refl _⟩, pm_iald_ok hx hb hK hX hR hq hd (kk H locs hR hB)⟩
    · cases h
  case laload =>
    simp only [pm_len, beq_iff_eq] at hln; subst hln
    simp only [pm_hop] at h
    split at h
    · next q hq =>
      cases h
      rw [Nat.sub_self, Nat.sub_self] at kk
      exact ⟨⟨Nat.le_refl _, Nat.le_refl _⟩, pm_lald_ok hx hb hK hR hq hd (kk H locs hR hB)⟩
    · cases h
  case baload =>
    simp only [pm_len, beq_iff_eq] at hln; subst hln
    simp only [pm_hop] at h
    split at h
    · next q hq =>
      cases h
      rw [Nat.sub_self, Nat.sub_self] at kk
      exact ⟨⟨Nat.le_refl _, Nat.le_refl _⟩, pm_zald_ok hx hb hK hR hq hd (kk H locs hR hB)⟩
    · cases h
  case aaload =>
    simp only [pm_len, beq_iff_eq] at hln; subst hln
    simp only [pm_hop] at h
    split at h
    · next q hq =>
      cases h
      rw [Nat.sub_self, Nat.sub_self] at kk
      exact ⟨⟨Nat.le_refl _, Nat.le_refl _⟩, pm_aald_ok hx hb hK hR hq hd (kk H locs hR hB)⟩
    · cases h
  case iastore =>
    simp only [pm_len, beq_iff_eq] at hln; subst hln
    simp only [pm_hop] at h
    split at h
    · next q hq =>
      cases h
      have hln := pm_iast_len hq
      rw [pm_zero hln, pm_zero rfl] at kk
      exact ⟨⟨Nat.le_of_eq hln.symm, Nat.le_refl _⟩, pm_iast_ok hx hb hK hR hB hq hd kk⟩
    · cases h
  case lastore =>
    simp only [pm_len, beq_iff_eq] at hln; subst hln
    simp only [pm_hop] at h
    split at h
    · next q hq =>
      cases h
      have hln := pm_last_len hq
      rw [pm_zero hln, pm_zero rfl] at kk
      exact ⟨⟨Nat.le_of_eq hln.symm, Nat.le_refl _⟩, pm_last_ok hx hb hK hR hB hq hd kk⟩
    · cases h
  case bastore =>
    simp only [pm_len, beq_iff_eq] at hln; subst hln
    simp only [pm_hop] at h
    split at h
    · next q hq =>
      cases h
      have hln := pm_zast_len hq
      rw [pm_zero hln, pm_zero rfl] at kk
      exact ⟨⟨Nat.le_of_eq hln.symm, Nat.le_refl _⟩, pm_zast_ok hx hb hK hR hB hq hd kk⟩
    · cases h
  case aastore =>
    simp only [pm_len, beq_iff_eq] at hln; subst hln
    simp only [pm_hop] at h
    split at h
    · next q hq =>
      cases h
      obtain ⟨⟨C, T, N⟩, hc, hC⟩ := hop
      dsimp only at hC
      subst hC
      have hln := pm_aast_len hq
      rw [pm_zero hln, pm_zero rfl] at kk
      exact ⟨⟨Nat.le_of_eq hln.symm, Nat.le_refl _⟩, pm_aast_ok hx hb hK hc hR hB hq hd kk⟩
    · cases h
  case new idx =>
    simp only [pm_len, beq_iff_eq] at hln; subst hln
    simp only [pm_hop] at h
    split at h
    · next h0 =>
      obtain ⟨⟨C, T, N⟩, hc, k1, k2, k3⟩ := hop h0
      obtain ⟨c1, c2, c3, c4, c5, c6⟩ := hCl r1 _ hc
      dsimp only at c1 c2 c3 c4 c5 k1 k2 k3
      have hq := Option.some.inj h
      cases hq
      have e1 : (G ++ [some (.inr (r1, (dfl r1).2))] : pH).length - G.length = 1 := by simp
      have e2 : sl + (dfl r1).1 - sl = N := by rw [c4]; omega
      rw [e1, e2] at kk
      rw [e1] at hcells
      rw [e2] at hslots
      refine ⟨⟨by simp, by omega⟩, pm_new_ok hx hb hts c1 (F r1) c2 hown (hts _ k1) (hts _ k2) (hts _ k3) hK hc c5 c6 hR (show pm_new r1 N (dfl r1).2 G sl st = _ from rfl) hcells hslots hd (fun H1 h1 => kk H1 locs h1 hB)⟩
    · cases h
  case newarray a =>
    simp only [pm_len, beq_iff_eq] at hln; subst hln
    simp only [pm_hop] at h
    have hlen := pm_newa_len h
    dsimp only at hlen
    have e1 : G'.length - G.length = 1 := by omega
    rw [e1] at kk hcells
    exact ⟨⟨by omega, hlen.2⟩, pm_newa_ok hx hb hK (hts _ hop) hR h hcells hslots hd (fun H1 h1 => kk H1 locs h1 hB)⟩
  case anewarray idx =>
    simp only [pm_len, beq_iff_eq] at hln; subst hln
    simp only [pm_hop] at h
    have hlen := pm_anew_len h
    dsimp only at hlen
    have e1 : G'.length - G.length = 1 := by omega
    rw [e1] at kk hcells
    exact ⟨⟨by omega, hlen.2⟩, pm_anew_ok hx hb hown (hts _ hop) (hAO _ (Or.inr (Or.inr rfl))) hK hR h hcells hslots hd (fun H1 h1 => kk H1 locs h1 hB)⟩
  case multianewarray idx dims =>
    simp only [pm_len, beq_iff_eq] at hln; subst hln
    simp only [pm_hop] at h
    have hlen := pm_mna_len h
    dsimp only at hlen
    obtain ⟨rfl, h2, h3, h4⟩ := hop
    have hov : (Cond.arrayOver (.array (pm_ty r1))).before args s = true := by
      match r1, h2 with
      | 0, _ => exact hAO _ (Or.inl rfl)
      | 1, _ => exact hAO _ (Or.inr (Or.inl rfl))
    exact ⟨hlen, pm_mna_ok hx hb hown h2 (hts _ h3) hov (hts _ h4) hK hR h hcells hslots hd (fun H1 h1 => kk H1 locs h1 hB)⟩
  case invokestatic idx =>
    simp only [pm_len, beq_iff_eq] at hln; subst hln
    simp only [pm_hop] at h
    split at h
    · next h7 =>
      split at h
      · next q hq =>
        cases h
        obtain ⟨k1, k2, k3, k4⟩ := hop.1 h7
        have hln := pm_cpy_len hq
        rw [pm_zero hln, pm_zero rfl] at kk
        exact ⟨⟨Nat.le_of_eq hln.symm, Nat.le_refl _⟩, pm_cpy_ok hx hb (hml.trans hlsz.symm) hown (hts _ k1) (hts _ k2) (hts _ k3) (hts _ k4) hfr hlo hK hR hB hq hd kk⟩
      · cases h
    · cases h
  case getstatic idx =>
    simp only [pm_len, beq_iff_eq] at hln; subst hln
    simp only [pm_hop] at h
    cases h
    obtain ⟨q, hq, hl⟩ := hop
    rw [Nat.sub_self, Nat.sub_self] at kk
    refine ⟨⟨Nat.le_refl _, Nat.le_refl _⟩, pm_gets_ok (C := q.1) (n := q.2.1) (d := q.2.2) hx hb (hZ _ _ hq) hR hown ?_ hd (kk H locs hR hB)⟩
    rcases hl with hl | ⟨host, hl⟩
    · exact Or.inl (hts _ hl)
    · exact Or.inr ⟨host, va_Nw.use rfl (hNw _ hl)⟩
  case ldc idx =>
    simp only [pm_len, beq_iff_eq] at hln; subst hln
    simp only [pm_hop] at h
    cases h
    rw [Nat.sub_self, Nat.sub_self] at kk
    exact ⟨⟨Nat.le_refl _, Nat.le_refl _⟩, lv_ldc hx hb hown (hts _ hop) hd (kk H locs hR hB)⟩
  case ldc_w idx =>
    simp only [pm_len, beq_iff_eq] at hln; subst hln
    simp only [pm_hop] at h
    cases h
    rw [Nat.sub_self, Nat.sub_self] at kk
    exact ⟨⟨Nat.le_refl _, Nat.le_refl _⟩, lv_ldcw hx hb hown (hts _ hop) hd (kk H locs hR hB)⟩
  case ldc2_w idx =>
    simp only [pm_len, beq_iff_eq] at hln; subst hln
    simp only [pm_hop] at h
    cases h
    rw [Nat.sub_self, Nat.sub_self] at kk
    exact ⟨⟨Nat.le_refl _, Nat.le_refl _⟩, lv_ldc2 hx hb hown (hts _ hop) hd (kk H locs hR hB)⟩
  all_goals (cases h)
end PHOP
