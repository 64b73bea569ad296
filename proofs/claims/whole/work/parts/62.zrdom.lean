/-! ===== where nothing is made, no more cells become known ===== -/
noncomputable def kd (G G' : sH) : Prop := (∀ k, hget G k = none → hget G' k = none) ∧ ∀ H : TT (Option sE) 9, cln 9 H G.1 → cln 9 H G'.1
theorem kd_rfl (G : sH) : kd G G := ⟨fun _ h => h, fun _ h => h⟩
theorem hset_cln {H : TT (Option sE) 9} {G : sH} {k : Nat} {e : Option sE} (h : cln 9 H G.1) : cln 9 H (hset G k e).1 := by
  rw [hset_def]
  split
  · exact cln_set 9 H G.1 k h
  · exact h
theorem kd_set {G : sH} {k : Nat} {e : Option sE} {e0 : sE} (h : hget G k = some e0) : kd G (hset G k e) := ⟨fun j hj => by
  rw [hset_get]
  split
  · next hc => rw [← hc.1, h] at hj; cases hj
  · exact hj, fun _ => hset_cln⟩
section DOM
variable {K : sK} {F : sFs} {Ft : Nat → Nat → FieldType} {dfl : Nat → Nat × List Value} {Mt : List pM} {hl : Nat → Option (pHd × Nat)}
theorem sast_dom {t : Nat} {G G' : sH} {sl sl' k : Nat} {i v : sT} {r st' : List sT} (h : sast_ K F t G sl k i v r = some (.inl (st', G', sl'))) : kd G G' := by
  unfold sast_ at h
  split at h
  · next a ha =>
    split at h
    · split at h
      · cases h; exact kd_rfl _
      · split at h
        · cases h
        · cases h; exact kd_set ha
    · cases h
  · cases h
theorem sald_dom {t0 t1 : Nat} {G G' : sH} {sl sl' : Nat} {st st' : List sT} (h : sald_ K F t0 t1 G sl st = some (.inl (st', G', sl'))) : kd G G' := by
  unfold sald_ at h
  split at h
  · split at h
    · split at h
      · split at h
        · cases h; exact kd_rfl _
        · cases h
      · cases h
    · cases h
  · cases h
theorem shop_dom (hx : K.2.2.2 = false) {ins : Instr} {r1 r2 : Nat} {r3 : Int} {st st' : List sT} {G G' : sH} {sl sl' : Nat} (h : shop K F Ft dfl ins r1 r2 r3 st G sl = some (.inl (st', G', sl'))) : kd G G' := by
  cases ins <;> simp only [shop] at h
  case getfield =>
    unfold sgetf at h
    split at h
    · split at h
      · split at h
        · split at h
          · cases h; exact kd_rfl _
          · cases h
        · cases h
      · cases h
    · cases h
  case putfield =>
    unfold sputf at h
    split at h
    · split at h
      · next o ho =>
        split at h
        · split at h
          · cases h; exact kd_set ho
          · cases h
        · cases h
      · cases h
    · cases h
  case arraylength =>
    unfold salen at h
    split at h
    · split at h
      · split at h
        · cases h; exact kd_rfl _
        · cases h
      · cases h
    · split at h
      · cases h; exact kd_rfl _
      · split at h
        · cases h; exact kd_rfl _
        · cases h
    · cases h
  case iaload =>
    unfold siald at h
    split at h
    · split at h
      · split at h
        · split at h
          · cases h; exact kd_rfl _
          · cases h; exact kd_rfl _
        · cases h
      · split at h
        · split at h
          · cases h; exact kd_rfl _
          · cases h
          · cases h
        · cases h
    · exact sald_dom h
  case invokestatic =>
    split at h
    · unfold scpy at h
      split at h
      · split at h
        · split at h
          · split at h
            · next d e hd he =>
              split at h
              · split at h
                · split at h
                  · cases h; exact kd_set hd
                  · cases h
                · cases h
              · cases h
            · cases h
          · cases h
        · cases h
      · cases h
    · cases h
  case laload => exact sald_dom h
  case baload => exact sald_dom h
  case aaload => exact sald_dom h
  case iastore =>
    unfold siast at h
    split at h
    · split at h
      · exact sast_dom h
      · cases h
    · cases h
  case lastore =>
    unfold siast at h
    split at h
    · split at h
      · exact sast_dom h
      · cases h
    · cases h
  case bastore =>
    unfold szast at h
    split at h
    · split at h
      · exact sast_dom h
      · cases h
    · cases h
  case aastore =>
    unfold saast at h
    split at h
    · split at h
      · split at h
        · exact sast_dom h
        · cases h
      · cases h
    · cases h
  case new =>
    split at h
    · next hc => rw [hx] at hc; cases hc.2.2
    · cases h
  case newarray =>
    split at h
    · split at h
      · next hc => rw [hx] at hc; cases hc.2
      · cases h
    · cases h
  case anewarray =>
    split at h
    · next hc => rw [hx] at hc; cases hc
    · cases h
  case multianewarray =>
    split at h
    · next hc => rw [hx] at hc; cases hc
    · cases h
  case getstatic => cases h; exact kd_rfl _
  case ldc => cases h; exact kd_rfl _
  case ldc_w => cases h; exact kd_rfl _
  case ldc2_w => cases h; exact kd_rfl _
  all_goals (cases h)
theorem wake_dom {fs : List sF} {v : Option sT} {d : Nat} {G : sH} {sl : Nat} {s' : sS} (h : swake fs v d G sl = some s') : s'.2.2.2.1 = G := by
  unfold swake at h
  split at h
  · cases h; rfl
  · cases h
theorem unw_dom {E : Nat} {G : sH} {sl : Nat} {s' : sS} : ∀ (fs : List sF) (d : Nat), sunw E G sl fs d = some s' → s'.2.2.2.1 = G
  | [], _, h => by cases h
  | f :: fs, d, h => by
    unfold sunw at h
    split at h
    · split at h
      · exact unw_dom fs (d + 1) h
      · cases h
    · split at h
      · split at h
        · exact wake_dom h
        · cases h
      · cases h
theorem scall_dom {k' : Nat} {hs' : pHd} {y : Nat} {as rest : List sT} {f : sF} {cur' : List pOp} {kw : Nat} {fs : List sF} {d : Nat} {G : sH} {sl : Nat} {s' : sS} (h : scall Mt k' hs' y as rest f cur' kw fs d G sl = some s') : s'.2.2.2.1 = G := by
  obtain ⟨M, o, t, d1, -, -, -, -, -, rfl⟩ := scall_inv h
  rfl
theorem step_dom (hx : K.2.2.2 = false) {f : sF} {fs : List sF} {d : Nat} {G : sH} {sl : Nat} {s' : sS} (h : sstep K F Ft dfl Mt hl f fs d G sl = some (.inl s')) : kd G s'.2.2.2.1 := by
  obtain ⟨k, nL, ret, hs, full, cur, lv, st⟩ := f
  unfold sstep at h
  dsimp only at h
  split at h
  · cases h
  · next pc ins len r1 r2 r3 tail =>
    split at h
    · split at h
      · cases h
      · split at h
        · split at h
          · split at h
            · split at h
              · obtain ⟨s1, hs1, e1⟩ := Option.map_eq_some_iff.mp h
                cases e1
                rw [wake_dom hs1]; exact kd_rfl _
              · cases h
            · cases h
          · obtain ⟨s1, hs1, e1⟩ := Option.map_eq_some_iff.mp h
            cases e1
            rw [wake_dom hs1]; exact kd_rfl _
        · cases h
    · split at h
      · split at h
        · obtain ⟨s1, hs1, e1⟩ := Option.map_eq_some_iff.mp h
          cases e1
          rw [scall_dom hs1]; exact kd_rfl _
        · cases h
      · split at h
        · split at h
          · cases h; exact kd_rfl _
          · cases h
        · cases h
        · split at h
          · next hsh =>
            split at h
            · cases h; exact shop_dom hx hsh
            · cases h
          · cases h
          · split at h
            · split at h
              · cases h
              · split at h
                · obtain ⟨s1, hs1, e1⟩ := Option.map_eq_some_iff.mp h
                  cases e1
                  rw [scall_dom hs1]; exact kd_rfl _
                · cases h
            · split at h
              · split at h
                · split at h
                  · split at h
                    · split at h
                      · cases h; exact kd_rfl _
                      · cases h
                    · cases h
                  · cases h
                · cases h
              · split at h
                · obtain ⟨s1, hs1, e1⟩ := Option.map_eq_some_iff.mp h
                  cases e1
                  rw [unw_dom fs _ hs1]
                  exact ⟨fun j hj => hj, fun _ hh => hh⟩
                · cases h
              · cases h
theorem fill_dom {yf y : Nat} {as : List sT} {G G' : sH} (h : sfill yf y as G = some G') : kd G G' := by
  unfold sfill at h
  split at h
  · split at h
    · split at h
      · next a ha =>
        split at h
        · cases h; exact kd_set ha
        · cases h
      · cases h
    · cases h
  · cases h
theorem stepF_dom (hx : K.2.2.2 = false) {ys : Nat × Nat × Nat} {f : sF} {fs : List sF} {d : Nat} {G : sH} {sl : Nat} {s' : sS} (h : sstepF ys K F Ft dfl Mt hl f fs d G sl = some (.inl s')) : kd G s'.2.2.2.1 := by
  obtain ⟨k, nL, ret, hs, full, cur, lv, st⟩ := f
  unfold sstepF at h
  dsimp only at h
  split at h
  · split at h
    · split at h
      · split at h
        · next G' hf => cases h; exact fill_dom hf
        · split at h
          · cases h; exact kd_rfl _
          · exact step_dom hx h
      · cases h
    · exact step_dom hx h
  · exact step_dom hx h
theorem stepG_dom (hx : K.2.2.2 = false) {ys : Nat × Nat × Nat} {f : sF} {fs : List sF} {d : Nat} {G : sH} {sl : Nat} {s' : sS} (h : sstepG ys K F Ft dfl Mt hl f fs d G sl = some (.inl s')) : kd G s'.2.2.2.1 := by
  obtain ⟨k, nL, ret, hs, full, cur, lv, st⟩ := f
  cases cur with
  | nil => cases h
  | cons o tail =>
    obtain ⟨pc, ins, len, r1, r2, r3⟩ := o
    unfold sstepG at h
    dsimp only at h
    split at h
    · next hi => exact step_dom hx (sstepQ_eq (Mt := Mt) (hl := hl) hi h)
    · exact stepF_dom hx h
/-- the known cells are among those of H, and are H's but where it says so -/
noncomputable def kdom (H G : sH) : Prop := (∀ k, hget H k = none → hget G k = none) ∧ cln 9 H.1 G.1
theorem kdom_kd {H G G' : sH} (h : kd G G') (hd : kdom H G) : kdom H G' := ⟨fun k hk => h.1 k (hd.1 k hk), h.2 _ hd.2⟩
theorem kdom_foot (Z : sH) (l : List Nat) : kdom (foot Z l) (foot Z l) := ⟨fun _ hk => hk, cln_rfl _ _⟩
theorem hupd_cln {F : sFs} {σ : sM} {Z G : sH} {H : TT (Option sE) 9} (h : cln 9 H G.1) : ∀ m : List Nat, cln 9 H (hupd F σ Z G m).1
  | [] => h
  | _ :: m => hset_cln (hupd_cln h m)
theorem kdom_upd {σ : sM} {Z G H : sH} {m : List Nat} {F0 : sFs} (h : kdom H G) (hm : fpok K F σ Z G m = true) {σ2 : sM} : kdom H (hupd F0 σ2 Z G m) := ⟨fun k hk => by
  rw [hupd_get]
  split
  · next hc =>
    exfalso
    have h1 := List.all_eq_true.mp hm k hc.1
    rw [h.1 k hk] at h1
    split at h1
    · cases h1
    · cases h1
  · exact h.1 k hk, hupd_cln h.2 m⟩
end DOM
