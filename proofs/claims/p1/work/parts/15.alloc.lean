/-! ===== cells that are made; constants; static tables ===== -/
def pm_new (ci N : Nat) (fs : List Value) (G : pH) (sl : Nat) (st : List Value) : List Value × pH × Nat := (.ref G.length :: st, G ++ [some (.inr (ci, fs))], sl + N)
def pm_atype (at' : ArrayType) : Option (Nat × Value) := match at' with
  | .int => some (0, .int 0)
  | .long => some (1, .long 0)
  | .boolean => some (2, .int 0)
  | _ => none
def pm_newa (at' : ArrayType) (G : pH) (sl : Nat) (st : List Value) : Option (List Value × pH × Nat) := match st with
  | .int n :: r => match pm_atype at' with
    | some q => if pm_in n 67000 = true then some (.ref G.length :: r, G ++ [some (.inl (q.1, n.toNatClampNeg, fun _ => q.2))], sl + n.toNatClampNeg) else none
    | none => none
  | _ => none
def pm_anew (G : pH) (sl : Nat) (st : List Value) : Option (List Value × pH × Nat) := match st with
  | .int n :: r => if pm_in n 67000 = true then some (.ref G.length :: r, G ++ [some (.inl (5, n.toNatClampNeg, fun _ => .null))], sl + n.toNatClampNeg) else none
  | _ => none
def pm_aast (ci : Nat) (G : pH) (st : List Value) : Option (List Value × pH) := match st with
  | .ref v :: .int i :: .ref k :: r => match G[v]? with
    | some (some (.inr o)) => if o.1 = ci then pm_ast 5 G k i (.ref v) r else none
    | _ => none
  | _ => none
section PA
variable {p : Program} {l : Launch} {e : Env} {R : Room} {s : State} {m : MethodId} {args : Array Value} {below : List Frame} {meth : Method} {c : Code} {H : Heap} {locs : List Loc} {cells slots : Nat} {Q : State → Prop}
variable {cc : ByteArray} {pc b0 : Nat} {ext : Nat → Nat} {ls : Array Slot} {D : va_G} {cl : List vw_C} {dA : Nat → ClassId} {H0 : Heap} {G : pH} {tys : List (ClassId × FieldType)} {Ts : List Cond}
theorem pm_new_ok (hx : p.tables.exec = Jvm.exec) (hb : c.code = cc) {own C : String} {T : u_T} {N ci index : Nat} (hts : ∀ w ∈ Ts, w.before args s = true) (hin : ∀ w ∈ u_ws C T N, w ∈ Ts) (ty : Nat → FieldType) (hty : ∀ k, k < N → parseFieldDescriptor (T k).2.2.1 = some (ty k)) (hown : s.vm.findClass own = some m.cls) (hcl : (Cond.classLink own index C).before args s = true) (hinst : (Cond.instantiable C N).before args s = true) (hini : (Cond.initialized C).before args s = true)
    (hK : va_K D cl tys s) (hc : cl[ci]? = some (C, T, N)) {fs : List Value} (hfs : ∀ j, j < N → defaultValue (ty j) = vp_V fs j) (htr : ∀ (b : Nat) (x : Nat → Nat), fs.map (pm_tr b x) = fs) (hR : pm_R D cl dA b0 ext H0 G H) {sl : Nat} {st st' : List Value} {G' : pH} {sl' : Nat} (h : pm_new ci N fs G sl st = (st', G', sl')) (hcells : cells + 1 ≤ R.cells) (hslots : slots + N ≤ R.slots) (hdg : decode cc pc = .ok (.new index, 3))
    (kk : ∀ H1 : Heap, pm_R D cl dA b0 ext H0 G' H1 → W p l e R s m args below meth c H1 locs (cells + 1) (slots + N) Q (F0 m (pc + 3) ls (pm_S b0 ext st'))) : W p l e R s m args below meth c H locs cells slots Q (F0 m pc ls (pm_S b0 ext st)) := by
  cases h
  have hKn := hK.1 ci _ hc
  refine W.newcK hx hb hown hcl hinst hini rfl hdg hcells hslots hKn.2.1 (h := b0 + G.length) hR.1 fun H1 kC hkC e1 z1 o1 => ?_
  refine kk H1 (hR.push (by rw [z1, hR.1]) (fun q hq => o1 q (by rw [← hR.1]; exact hq)) (fun y hy => ?_))
  cases hy
  show va_at D cl (b0 + G.length, .inr (ci, fs.map (pm_tr b0 ext))) H1
  rw [htr]
  exact ⟨_, hc, (u_born ty hts hin hKn hkC e1 hty).to hfs⟩
theorem pm_newa_ok (hx : p.tables.exec = Jvm.exec) (hb : c.code = cc) {at' : ArrayType} (hK : va_K D cl (pm_tys dA) s) (harr : (Cond.arrayClass (newarray.typeOf at')).before args s = true) (hR : pm_R D cl dA b0 ext H0 G H) {sl : Nat} {st st' : List Value} {G' : pH} {sl' : Nat} (h : pm_newa at' G sl st = some (st', G', sl')) (hcells : cells + 1 ≤ R.cells) (hslots : slots + (sl' - sl) ≤ R.slots) (hdg : decode cc pc = .ok (.newarray at', 2))
    (kk : ∀ H1 : Heap, pm_R D cl dA b0 ext H0 G' H1 → W p l e R s m args below meth c H1 locs (cells + 1) (slots + (sl' - sl)) Q (F0 m (pc + 2) ls (pm_S b0 ext st'))) : W p l e R s m args below meth c H locs cells slots Q (F0 m pc ls (pm_S b0 ext st)) := by
  unfold pm_newa at h
  split at h
  · next n r =>
    split at h
    · next q hq =>
      split at h
      · next hn =>
        cases h
        obtain ⟨h3, h4⟩ := pm_in_ok hn
        rw [Nat.add_sub_cancel_left] at hslots kk
        have key : ∀ (t : Nat) (v : Value), t < 3 → newarray.typeOf at' = pm_ty t → defaultValue (newarray.typeOf at') = v → pm_tr b0 ext v = v → q = (t, v) → W p l e R s m args below meth c H locs cells slots Q (F0 m pc ls (pm_S b0 ext (.int n :: r))) := by
          intro t v ht e1 e2 e3 e4
          subst e4
          refine va_newaK hx hb harr (g := F0 m pc ls (pm_S b0 ext (.int n :: r))) rfl hdg rfl (fun z => h3 (Or.inl z)) rfl ?_ hcells hslots (h := b0 + G.length) hR.1 (fun H1 cA f1 z1 o1 f2 f3 => ?_)
          · rw [e1]
            match t, ht with
            | 0, _ => show _ * 4 ≤ _; omega
            | 1, _ => show _ * 8 ≤ _; omega
            | 2, _ => show _ * 1 ≤ _; omega
          · have hcA : dA t = cA := by
              have h9 := (hK.2 t _ (pm_tys_at dA (by omega))).2
              have h8 : s.vm.findClass ("[" ++ (pm_ty t).toString) = some (dA t) := by
                match t, ht, h9 with
                | 0, _, h9 => exact h9
                | 1, _, h9 => exact h9
                | 2, _, h9 => exact h9
              rw [← e1] at h8
              exact Option.some.inj (h8.symm.trans f3)
            refine kk H1 (hR.push (by rw [z1, hR.1]) (fun q hq => o1 q (by rw [← hR.1]; exact hq)) (fun y hy => ?_))
            cases hy
            show H1[b0 + G.length]? = some (arrV (dA t) n.toNatClampNeg (fun _ => pm_tr b0 ext v))
            rw [f1, hcA, e2, e3]
        cases at' <;> simp only [pm_atype] at hq
        case int => exact key 0 (.int 0) (by omega) rfl rfl rfl (Option.some.inj hq).symm
        case long => exact key 1 (.long 0) (by omega) rfl rfl rfl (Option.some.inj hq).symm
        case boolean => exact key 2 (.int 0) (by omega) rfl rfl rfl (Option.some.inj hq).symm
        all_goals (cases hq)
      · cases h
    · cases h
  · cases h
theorem pm_anew_ok (hx : p.tables.exec = Jvm.exec) (hb : c.code = cc) {own : String} {index : Nat} (hown : s.vm.findClass own = some m.cls) (hclink : (Cond.classLink own index "ServoNet$Drive").before args s = true) (hover : (Cond.arrayOver (.object "ServoNet$Drive")).before args s = true) (hK : va_K D cl (pm_tys dA) s) (hR : pm_R D cl dA b0 ext H0 G H) {sl : Nat} {st st' : List Value} {G' : pH} {sl' : Nat} (h : pm_anew G sl st = some (st', G', sl')) (hcells : cells + 1 ≤ R.cells) (hslots : slots + (sl' - sl) ≤ R.slots) (hdg : decode cc pc = .ok (.anewarray index, 3))
    (kk : ∀ H1 : Heap, pm_R D cl dA b0 ext H0 G' H1 → W p l e R s m args below meth c H1 locs (cells + 1) (slots + (sl' - sl)) Q (F0 m (pc + 3) ls (pm_S b0 ext st'))) : W p l e R s m args below meth c H locs cells slots Q (F0 m pc ls (pm_S b0 ext st)) := by
  unfold pm_anew at h
  split at h
  · next n r =>
    split at h
    · next hn =>
      cases h
      obtain ⟨h3, h4⟩ := pm_in_ok hn
      rw [Nat.add_sub_cancel_left] at hslots kk
      refine W.anew hx hb hown hclink hover (g := F0 m pc ls (pm_S b0 ext (.int n :: r))) rfl hdg rfl (fun z => h3 (Or.inl z)) (by omega) hcells hslots fun cA kA comp f1 f2 f3 f4 => ?_
      obtain ⟨kA', comp', g1, g2, g3, g4⟩ := (hK.2 5 _ (pm_tys_at dA (by omega))).2
      have hcA : cA = dA 5 := Option.some.inj (f1.symm.trans g4)
      have hsz : H.size = b0 + G.length := hR.1
      rw [hsz]
      refine kk _ (hR.push (by rw [Array.size_push]) (fun q hq => by rw [Array.getElem?_push, if_neg (Nat.ne_of_lt hq)]) (fun y hy => ?_))
      cases hy
      show (H.push _)[b0 + G.length]? = some (arrV (dA 5) n.toNatClampNeg (fun _ => pm_tr b0 ext .null))
      rw [← hsz, Array.getElem?_push_size, hcA, arrV_new]
      rfl
    · cases h
  · cases h
theorem pm_aast_ok (hx : p.tables.exec = Jvm.exec) (hb : c.code = cc) (hK : va_K D cl (pm_tys dA) s) {ci N : Nat} {T : u_T} (hc : cl[ci]? = some ("ServoNet$Drive", T, N)) (hR : pm_R D cl dA b0 ext H0 G H) (hB : pm_B b0 locs) {st st' : List Value} {G' : pH} (h : pm_aast ci G st = some (st', G')) (hd : decode cc pc = .ok (.aastore, 1))
    (kk : ∀ (H1 : Heap) (locs1 : List Loc), pm_R D cl dA b0 ext H0 G' H1 → pm_B b0 locs1 → W p l e R s m args below meth c H1 locs1 cells slots Q (F0 m (pc + 1) ls (pm_S b0 ext st'))) : W p l e R s m args below meth c H locs cells slots Q (F0 m pc ls (pm_S b0 ext st)) := by
  unfold pm_aast at h
  split at h
  · next v i k r =>
    split at h
    · next o ho =>
      split at h
      · next hci =>
        subst hci
        obtain ⟨r0, h1, cellV, g1, g2, g3, -⟩ := (show va_at D cl (b0 + v, .inr (o.1, o.2.map (pm_tr b0 ext))) H from hR.2.2 v _ ho)
        have hcls := (hK.1 o.1 _ hc).2
        obtain ⟨kA, comp, k1, k2, k3, -⟩ := (hK.2 5 _ (pm_tys_at dA (by omega))).2
        have hcomp : comp = D.1 o.1 := Option.some.inj (k3.symm.trans hcls.1)
        subst hcomp
        obtain ⟨kC, hkC, -⟩ := hcls.2
        unfold pm_ast at h
        split at h
        · next a ha =>
          split at h
          · next hq =>
            cases h
            obtain ⟨h5, hi⟩ := hq
            obtain ⟨h3, h4⟩ := pm_in_ok hi
            have e1 : H[b0 + k]? = some (arrV (dA 5) a.2.1 (fun j => pm_tr b0 ext (a.2.2 j))) := by
              have := hR.2.2 k _ ha
              rw [← h5]
              exact this
            refine W.aast hx hb e1 (fun q h => by cases h) (fun h => by cases h) k1 k2 rfl hkC ⟨fun z => h3 (Or.inl z), by rw [arrV_size]; exact h4⟩ g1 (fun q h => by rw [g3] at h; cases h) (by rw [g2]; exact hkC) (by rw [g2]; exact va_assign hcls) rfl rfl hd fun H' e2 z oq => ?_
            refine kk H' _ (hR.set ha z oq ?_) hB.add
            show H'[b0 + k]? = some (arrV (dA 5) _ _)
            rw [e2, arrV_store]
            exact congrArg (fun f => some (arrV (dA 5) a.2.1 f)) (pm_upd_tr b0 ext a.2.2 i.toNatClampNeg (.ref v))
          · cases h
        · cases h
      · cases h
    · cases h
  · cases h
/-- a static table -/
theorem pm_gets_ok (hx : p.tables.exec = Jvm.exec) (hb : c.code = cc) {C n d own : String} {i index : Nat} (hZ : va_Z C n d (.ref (ext i)) (fun q => b0 ≤ q) s H0) (hR : pm_R D cl dA b0 ext H0 G H) (hown : s.vm.findClass own = some m.cls) (hlink : (Cond.fieldLink own index C n d).before args s = true ∨ ∃ host, (Cond.fieldLinkNest own index C n d host).before args s = true) {st : List Value} (hdg : decode cc pc = .ok (.getstatic index, 3))
    (kk : W p l e R s m args below meth c H locs cells slots Q (F0 m (pc + 3) ls (pm_S b0 ext (.retAddr i :: st)))) : W p l e R s m args below meth c H locs cells slots Q (F0 m pc ls (pm_S b0 ext st)) := by
  obtain ⟨cf, kf, fi, f, a, cell, h1, h2, h3, h4, h5, h6, h7, h8⟩ := hZ
  have h9 : H[a]? = some cell := by rw [hR.2.1 a (Nat.not_le.mp h8)]; exact h5
  rcases hlink with hl | ⟨host, hl⟩
  · exact W.gets hx hb hown hl h1 h2 h3 h4 h9 (fun e => by rw [e] at h6; cases h6) h7 rfl hdg kk
  · exact va_WgetsN hx hb hown hl h1 h2 h3 h4 h9 (fun e => by rw [e] at h6; cases h6) h7 rfl hdg kk
end PA
