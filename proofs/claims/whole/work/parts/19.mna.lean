section PMNA
variable {p : Program} {l : Launch} {e : Env} {R : Room} {s : State} {m : MethodId} {args : Array Value} {below : List Frame} {meth : Method} {c : Code} {H : Heap} {locs : List Loc} {cells slots : Nat} {Q : State → Prop}
variable {cc : ByteArray} {pc b0 : Nat} {ext : Nat → Nat} {ls : Array Slot} {D : va_G} {cl : List vw_C} {dA : Nat → ClassId} {H0 : Heap} {G : pH}
theorem pm_mna_ok (hx : p.tables.exec = Jvm.exec) (hb : c.code = cc) {own : String} {idx t : Nat} (hown : s.vm.findClass own = some m.cls) (ht : t < 2) (hclink : (Cond.classLink own idx ("[" ++ (FieldType.array (pm_ty t)).toString)).before args s = true) (hover : (Cond.arrayOver (.array (pm_ty t))).before args s = true) (harr : (Cond.arrayClass (pm_ty t)).before args s = true) (hK : va_K D cl (pm_tys dA) s) (hR : pm_R D cl dA b0 ext H0 G H) {sl : Nat} {st st' : List Value} {G' : pH} {sl' : Nat} (h : pm_mna t G sl st = some (st', G', sl')) (hcells : cells + (G'.length - G.length) ≤ R.cells) (hslots : slots + (sl' - sl) ≤ R.slots) (hdg : decode cc pc = .ok (.multianewarray idx 2, 4))
    (kk : ∀ H1 : Heap, pm_R D cl dA b0 ext H0 G' H1 → W p l e R s m args below meth c H1 locs (cells + (G'.length - G.length)) (slots + (sl' - sl)) Q (F0 m (pc + 4) ls (pm_S b0 ext st'))) : W p l e R s m args below meth c H locs cells slots Q (F0 m pc ls (pm_S b0 ext st)) := by
  sorry
end PMNA
