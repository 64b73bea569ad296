/-! ===== new T[n][k] ===== -/
theorem pm_outer (c : ClassId) (N h0 : Nat) : ∀ i : Nat, Jvm.Free.Multi.outerC c N h0 i = arrV c N (fun j => va_rf (if j < i then some (h0 + 1 + j) else none))
  | 0 => by
    show ({ cls := c, slots := Array.replicate N .null, vm := .none } : Cell) = _
    rw [arrV_new]
    congr 1
  | i + 1 => by
    show (Jvm.Free.Multi.outerC c N h0 i).setSlot i (.ref (h0 + 1 + i)) = _
    rw [pm_outer c N h0 i, arrV_store]
    congr 1
    funext j
    by_cases hj : j = i
    · subst hj
      simp [updV, va_rf]
    · have : (j < i + 1) = (j < i) := by apply propext; omega
      simp only [updV, hj, if_false, this]
theorem pm_rep {α : Type} {n j : Nat} {x y : α} (h : (List.replicate n x)[j]? = some y) : j < n ∧ y = x := by
  have h1 := (List.getElem?_eq_some_iff.mp h).1
  rw [List.length_replicate] at h1
  rw [List.getElem?_replicate_of_lt h1] at h
  exact ⟨h1, (Option.some.inj h).symm⟩
theorem pm_mna_R {D : va_G} {cl : List vw_C} {dA : Nat → ClassId} {b0 : Nat} {ext : Nat → Nat} {H0 H H1 : Heap} {G : pH} {t N K : Nat} {v : Value} (hv : pm_tr b0 ext (if t = 0 then .int 0 else .long 0) = v) (hR : pm_R D cl dA b0 ext H0 G H) (f1 : H1.size = H.size + 1 + N) (f2 : H1[H.size]? = some (arrV (dA (t + 3)) N (fun j => va_rf (if j < N then some (H.size + 1 + j) else none))))
    (hold : ∀ x : Nat, x < H.size → H1[x]? = H[x]?) (hrow : ∀ j : Nat, j < N → H1[H.size + 1 + j]? = some (arrV (dA t) K (fun _ => v))) :
    pm_R D cl dA b0 ext H0 ((G ++ [some (.inl (t + 3, N, fun i => if i < N then .ref (G.length + 1 + i) else .null))]) ++ List.replicate N (some (.inl (t, K, fun _ => if t = 0 then .int 0 else .long 0)))) H1 := by
  have hsz : H.size = b0 + G.length := hR.1
  refine ⟨?_, fun q hq => (hold q (by omega)).trans (hR.2.1 q hq), fun j y hy => ?_⟩
  · simp only [List.length_append, List.length_singleton, List.length_replicate]
    omega
  · by_cases h1 : j < G.length + 1
    · rw [List.getElem?_append_left (by simpa using h1)] at hy
      by_cases h2 : j < G.length
      · rw [List.getElem?_append_left h2] at hy
        exact (hR.2.2 j y hy).kept (hold _ (by omega))
      · rw [List.getElem?_append_right (by omega)] at hy
        have h4 : j = G.length := by omega
        subst h4
        rw [Nat.sub_self] at hy
        cases hy
        show H1[b0 + G.length]? = some (arrV (dA (t + 3)) N (fun i => pm_tr b0 ext (if i < N then .ref (G.length + 1 + i) else .null)))
        rw [← hsz, f2]
        refine congrArg some (congrArg (arrV (dA (t + 3)) N) (funext fun i => ?_))
        by_cases hi : i < N
        · rw [if_pos hi, if_pos hi]
          have e : (H.size + 1 + i : Nat) = b0 + (G.length + 1 + i) := by omega
          exact congrArg Value.ref e
        · rw [if_neg hi, if_neg hi]
          rfl
    · have h5 : (G ++ [some (.inl (t + 3, N, fun i => if i < N then Value.ref (G.length + 1 + i) else .null))] : pH).length = G.length + 1 := by simp
      rw [List.getElem?_append_right (by rw [h5]; omega), h5] at hy
      obtain ⟨h2, h3⟩ := pm_rep hy
      have h3 := Option.some.inj h3
      subst h3
      have h4 : b0 + j = H.size + 1 + (j - (G.length + 1)) := by omega
      show H1[b0 + j]? = some (arrV (dA t) K (fun _ => pm_tr b0 ext (if t = 0 then .int 0 else .long 0)))
      rw [h4, hrow _ h2, hv]
theorem pm_two {D : va_G} {cl : List vw_C} (dA : Nat → ClassId) {s : State} (hK : va_K D cl (pm_tys dA) s) : ∀ {t : Nat}, t < 2 → s.vm.findClass ("[" ++ (FieldType.array (pm_ty t)).toString) = some (dA (t + 3)) ∧ s.vm.findClass (FieldType.array (pm_ty t)).toString = some (dA t) ∧ fits (pm_ty t) (defaultValue (pm_ty t)) = true ∧ (defaultValue (pm_ty t)).isDefault = true ∧ componentBytes (pm_ty t) ≤ 8
  | 0, _ => ⟨(hK.2 3 _ (pm_tys_at dA (by omega))).2, (hK.2 0 _ (pm_tys_at dA (by omega))).2, rfl, rfl, Nat.le_of_ble_eq_true rfl⟩
  | 1, _ => ⟨(hK.2 4 _ (pm_tys_at dA (by omega))).2, (hK.2 1 _ (pm_tys_at dA (by omega))).2, rfl, rfl, Nat.le_of_ble_eq_true rfl⟩
section PMNA
variable {p : Program} {l : Launch} {e : Env} {R : Room} {s : State} {m : MethodId} {args : Array Value} {below : List Frame} {meth : Method} {c : Code} {H : Heap} {locs : List Loc} {cells slots : Nat} {Q : State → Prop}
variable {cc : ByteArray} {pc b0 : Nat} {ext : Nat → Nat} {ls : Array Slot} {D : va_G} {cl : List vw_C} {dA : Nat → ClassId} {H0 : Heap} {G : pH}
theorem pm_mna_ok (hx : p.tables.exec = Jvm.exec) (hb : c.code = cc) {own : String} {idx t : Nat} (hown : s.vm.findClass own = some m.cls) (ht : t < 2) (hclink : (Cond.classLink own idx ("[" ++ (FieldType.array (pm_ty t)).toString)).before args s = true) (hover : (Cond.arrayOver (.array (pm_ty t))).before args s = true) (harr : (Cond.arrayClass (pm_ty t)).before args s = true) (hK : va_K D cl (pm_tys dA) s) (hR : pm_R D cl dA b0 ext H0 G H) {sl : Nat} {st st' : List Value} {G' : pH} {sl' : Nat} (h : pm_mna t G sl st = some (st', G', sl')) (hcells : cells + (G'.length - G.length) ≤ R.cells) (hslots : slots + (sl' - sl) ≤ R.slots) (hdg : decode cc pc = .ok (.multianewarray idx 2, 4))
    (kk : ∀ H1 : Heap, pm_R D cl dA b0 ext H0 G' H1 → W p l e R s m args below meth c H1 locs (cells + (G'.length - G.length)) (slots + (sl' - sl)) Q (F0 m (pc + 4) ls (pm_S b0 ext st'))) : W p l e R s m args below meth c H locs cells slots Q (F0 m pc ls (pm_S b0 ext st)) := by
  unfold pm_mna at h
  split at h
  · next k n r =>
    split at h
    · next hq =>
      cases h
      obtain ⟨-, hn, hk⟩ := hq
      obtain ⟨n3, n4⟩ := pm_in_ok hn
      obtain ⟨k3, k4⟩ := pm_in_ok hk
      generalize hN : n.toNatClampNeg = N at *
      generalize hKk : k.toNatClampNeg = K at *
      have eL : ((G ++ [some (.inl (t + 3, N, fun i => if i < N then Value.ref (G.length + 1 + i) else .null))]) ++ List.replicate N (some (.inl (t, K, fun _ => if t = 0 then Value.int 0 else .long 0))) : pH).length - G.length = 1 + N := by
        simp only [List.length_append, List.length_singleton, List.length_replicate]
        omega
      have eS : sl + N + N * K - sl = N + N * K := by omega
      rw [eL] at hcells kk
      rw [eS] at hslots kk
      intro T hT Xs
      obtain ⟨-, -, hdf, hdd, hcb⟩ := pm_two dA hK ht
      have hkb : K * componentBytes (pm_ty t) ≤ 536870912 := Nat.le_trans (Nat.mul_le_mul (Nat.le_of_lt k4) hcb) (by decide)
      obtain ⟨vm₁, cA, comp, -, fA, fC, hO, -, X', step⟩ := Xs.multianewarray2F hx hown hclink hover harr (g := F0 m pc ls (.int k :: .int n :: pm_S b0 ext r)) rfl (by rw [hb]; exact hdg) rfl (fun z => n3 (Or.inl z)) (fun z => k3 (Or.inl z)) (by rw [hN]; omega) (by rw [hKk]; exact hkb) (by rw [hKk]; omega) hdf hdd (by rw [hN]; exact hcells) (by rw [hN, hKk]; exact hslots)
      rw [hN, hKk] at X' step
      obtain ⟨r1, r2, -, -, -⟩ := pm_two dA hK ht
      have g1 : dA (t + 3) = cA := Option.some.inj (r1.symm.trans fA)
      have g2 : dA t = comp := Option.some.inj (r2.symm.trans fC)
      have hTh : (T.setVm vm₁).heap = H := hT
      generalize hF : Jvm.Free.Multi.fill (T.setVm vm₁) cA comp N K (defaultValue (pm_ty t)) N = Fl at X' step
      obtain ⟨f1, f2, -, -⟩ := Jvm.Free.Multi.fill_facts (T.setVm vm₁) cA comp N K (defaultValue (pm_ty t)) N
      rw [hF, hTh] at f1 f2
      have hold : ∀ x : Nat, x < H.size → Fl.heap[x]? = H[x]? := fun x hx => by
        have := Jvm.Free.Multi.fill_old (T.setVm vm₁) cA comp N K (defaultValue (pm_ty t)) (a := x) (by rw [hTh]; exact hx) N
        rw [hF, hTh] at this
        exact this
      have hrow : ∀ j : Nat, j < N → Fl.heap[H.size + 1 + j]? = some (Jvm.Free.Multi.innerC comp K (defaultValue (pm_ty t))) := fun j hj => by
        have := Jvm.Free.Multi.fill_inner (T.setVm vm₁) cA comp N K (defaultValue (pm_ty t)) N j hj
        rw [hF, hTh] at this
        exact this
      have hsz : H.size = b0 + G.length := hR.1
      have hv : ∀ (u : Nat) (_ : u < 2), pm_tr b0 ext (if u = 0 then .int 0 else .long 0) = defaultValue (pm_ty u)
        | 0, _ => rfl
        | 1, _ => rfl
      have hRn := pm_mna_R (t := t) (N := N) (K := K) (hv t ht) hR f1 (by rw [f2, pm_outer, g1]) hold (fun j hj => by rw [hrow j hj, g2]; exact congrArg some (arrV_new comp K _))
      have c1 : cells + 1 + N = cells + (1 + N) := by omega
      have c2 : slots + N + N * K = slots + (N + N * K) := by omega
      rw [c1, c2] at X'
      obtain ⟨t2, a1, b1⟩ := kk Fl.heap hRn Fl rfl X'
      refine ⟨t2, step t2 ?_, b1⟩
      have e7 : pm_S b0 ext (.ref G.length :: r) = .ref T.heap.size :: pm_S b0 ext r := by
        rw [hT, hsz]; rfl
      rw [e7] at a1
      exact a1
    · cases h
  · cases h
end PMNA
