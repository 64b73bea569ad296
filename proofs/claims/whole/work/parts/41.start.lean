/-! ===== what the Statement gives of the start, at every state that the run warms ===== -/
def strp : List (Nat × Nat × Nat × Nat × String) := [(56, 4, 98, 921, "ticks are 0 to 200"), (350, 8, 54, 943, "no such drive"), (103, 8, 73, 961, "an ID is 0 to 2047, a length 0 to 8"), (352, 8, 86, 1002, "no such station"), (119, 8, 87, 1024, "disturbances are 0 to 1000"), (126, 8, 97, 1058, "increments are -1000000 to 1000000"), (139, 8, 109, 1101, "inputs are 0 to 65535"), (367, 8, 123, 1132, "no such entry"), (369, 8, 133, 1156, "the drive has no power"), (354, 8, 163, 1190, "no such what"), (356, 8, 193, 1215, "no such bank or byte"), (358, 8, 204, 1249, "a byte is 0 to 255"), (362, 8, 216, 1282, "a job runs"), (264, 8, 217, 1308, "the buffer is full"), (360, 8, 235, 1343, "an index is 0 to 65535, a sub 0 to 255"), (276, 8, 236, 1399, "a talk goes on"), (292, 9, 21, 1432, "a watch is 0 to 1000"), (297, 9, 33, 1472, "bytes are 1, 2 or 4"), (305, 9, 34, 1512, "no setting can be added now"), (328, 9, 60, 1561, "no such frame")]
def fl : List Cond := flatC (Jvm.Cond.and given_1 narrow_1)
theorem fl_in {A : Array Value} {s : State} (h : (Jvm.Cond.and given_1 narrow_1).before A s = true) {k : Nat} {w : Cond} (e : fl[k]? = some w) : w.before A s = true := flat_of_before _ h w (List.mem_of_getElem? e)
theorem ck_in {k i : Nat} {w : Cond} (h : decide ((chn k)[i]? = some w) = true) : w ∈ lw_tbl := chn_in (List.mem_of_getElem? (of_decide_eq_true h))
theorem fl_BOOK : ((fl.drop 9).take 780) = (List.range 780).map (fun j => Cond.eq (.elem (.static "ServoNet" "BOOK" "[I") (.int (Int32.ofNat j))) (.int (pt_BOOK.getD j 0))) := by decide +kernel
theorem fl_NAME : ((fl.drop 812).take 10) = (List.range 10).map (fun j => Cond.eq (.elem (.static "ServoNet" "NAME" "[I") (.int (Int32.ofNat j))) (.int (pt_NAME.getD j 0))) := by decide +kernel
theorem fl_WIDTHS : ((fl.drop 792).take 6) = (List.range 6).map (fun j => Cond.eq (.elem (.static "ServoNet" "WIDTHS" "[I") (.int (Int32.ofNat j))) (.int (pt_WIDTHS.getD j 0))) := by decide +kernel
theorem fl_CHOICES : ((fl.drop 825).take 48) = (List.range 48).map (fun j => Cond.eq (.elem (.static "ServoNet" "CHOICES" "[I") (.int (Int32.ofNat j))) (.int (pt_CHOICES.getD j 0))) := by decide +kernel
theorem fl_STATUS_BASES : ((fl.drop 801).take 8) = (List.range 8).map (fun j => Cond.eq (.elem (.static "ServoNet$Modes" "STATUS_BASES" "[I") (.int (Int32.ofNat j))) (.int (pt_STATUS_BASES.getD j 0))) := by decide +kernel
theorem fl_el {A : Array Value} {s : State} (h : (Jvm.Cond.and given_1 narrow_1).before A s = true) {k N : Nat} {g : Nat → Cond} (e : ((fl.drop k).take N) = (List.range N).map g) : ∀ j, j < N → (g j).before A s = true := by
  intro j hj
  have h1 : ((fl.drop k).take N)[j]? = some (g j) := by rw [e, List.getElem?_map, List.getElem?_range hj]; rfl
  rw [List.getElem?_take_of_lt hj, List.getElem?_drop] at h1
  exact fl_in h h1
theorem st_tab {A : Array Value} {s : State} {C n : String} {N : Nat} {f : Nat → Int32} (hN : N < 2 ^ 31) (h1 : (Cond.arrayOf (.static C n "[I") .int).before A s = true) (h2 : (Cond.eq (.length (.static C n "[I")) (.int (Int32.ofNat N))).before A s = true) (h3 : ∀ j, j < N → (Cond.eq (.elem (.static C n "[I") (.int (Int32.ofNat j))) (.int (f j))).before A s = true) (hl : (Cond.laysStatic C n "[I").before A s = true) (hi : (Cond.initialized C).before A s = true) :
    ∃ t : Nat, t < s.heap.size ∧ pm_X t N f s s.heap ∧ va_Z C n "[I" (.ref t) (fun z => s.heap.size ≤ z) s s.heap := by
  obtain ⟨t, ht, hT⟩ := va_Tof (f := fun j => .int (f j)) (A := fun z => s.heap.size ≤ z) hN h1 (va_eqt h2) (fun j hj => va_eqt (h3 j hj)) (fun a ha => Nat.not_le.mpr ha)
  refine ⟨t, ?_, pm_X.ofT hT, va_Zref hl hi ht (fun a ha => Nat.not_le.mpr ha)⟩
  obtain ⟨cell, h4, -⟩ := hT
  exact (Array.getElem?_eq_some_iff.mp h4).1
theorem st_BOOK {A : Array Value} {s : State} (hts : ∀ w ∈ lw_tbl, w.before A s = true) (h : (Jvm.Cond.and given_1 narrow_1).before A s = true) : ∃ t : Nat, t < s.heap.size ∧ pm_X t 780 (fun j => pt_BOOK.getD j 0) s s.heap ∧ va_Z "ServoNet" "BOOK" "[I" (.ref t) (fun z => s.heap.size ≤ z) s s.heap :=
  st_tab (by decide) (fl_in h (k := 7) (by decide +kernel)) (fl_in h (k := 8) (by decide +kernel)) (fl_el h fl_BOOK) (hts _ (ck_in (k := 5) (i := 40) (by decide +kernel))) (hts _ (ck_in (k := 1) (i := 1) (by decide +kernel)))
theorem st_NAME {A : Array Value} {s : State} (hts : ∀ w ∈ lw_tbl, w.before A s = true) (h : (Jvm.Cond.and given_1 narrow_1).before A s = true) : ∃ t : Nat, t < s.heap.size ∧ pm_X t 10 (fun j => pt_NAME.getD j 0) s s.heap ∧ va_Z "ServoNet" "NAME" "[I" (.ref t) (fun z => s.heap.size ≤ z) s s.heap :=
  st_tab (by decide) (fl_in h (k := 810) (by decide +kernel)) (fl_in h (k := 811) (by decide +kernel)) (fl_el h fl_NAME) (hts _ (ck_in (k := 5) (i := 135) (by decide +kernel))) (hts _ (ck_in (k := 1) (i := 1) (by decide +kernel)))
theorem st_WIDTHS {A : Array Value} {s : State} (hts : ∀ w ∈ lw_tbl, w.before A s = true) (h : (Jvm.Cond.and given_1 narrow_1).before A s = true) : ∃ t : Nat, t < s.heap.size ∧ pm_X t 6 (fun j => pt_WIDTHS.getD j 0) s s.heap ∧ va_Z "ServoNet" "WIDTHS" "[I" (.ref t) (fun z => s.heap.size ≤ z) s s.heap :=
  st_tab (by decide) (fl_in h (k := 790) (by decide +kernel)) (fl_in h (k := 791) (by decide +kernel)) (fl_el h fl_WIDTHS) (hts _ (ck_in (k := 5) (i := 56) (by decide +kernel))) (hts _ (ck_in (k := 1) (i := 1) (by decide +kernel)))
theorem st_CHOICES {A : Array Value} {s : State} (hts : ∀ w ∈ lw_tbl, w.before A s = true) (h : (Jvm.Cond.and given_1 narrow_1).before A s = true) : ∃ t : Nat, t < s.heap.size ∧ pm_X t 48 (fun j => pt_CHOICES.getD j 0) s s.heap ∧ va_Z "ServoNet" "CHOICES" "[I" (.ref t) (fun z => s.heap.size ≤ z) s s.heap :=
  st_tab (by decide) (fl_in h (k := 823) (by decide +kernel)) (fl_in h (k := 824) (by decide +kernel)) (fl_el h fl_CHOICES) (hts _ (ck_in (k := 5) (i := 191) (by decide +kernel))) (hts _ (ck_in (k := 1) (i := 1) (by decide +kernel)))
theorem st_STATUS_BASES {A : Array Value} {s : State} (hts : ∀ w ∈ lw_tbl, w.before A s = true) (h : (Jvm.Cond.and given_1 narrow_1).before A s = true) : ∃ t : Nat, t < s.heap.size ∧ pm_X t 8 (fun j => pt_STATUS_BASES.getD j 0) s s.heap ∧ va_Z "ServoNet$Modes" "STATUS_BASES" "[I" (.ref t) (fun z => s.heap.size ≤ z) s s.heap :=
  st_tab (by decide) (fl_in h (k := 799) (by decide +kernel)) (fl_in h (k := 800) (by decide +kernel)) (fl_el h fl_STATUS_BASES) (hts _ (ck_in (k := 5) (i := 103) (by decide +kernel))) (hts _ (ck_in (k := 1) (i := 7) (by decide +kernel)))
def ckJ (ci : Nat) : Bool := match pcl[ci]? with
  | some v => pw (cin ci).1 (cin ci).2.1 (Cond.instantiable v.1 v.2.2)
  | none => false
theorem ok_J : (List.range 14).all ckJ = true := by decide +kernel
theorem st_cls {A : Array Value} {s : State} (hts : ∀ w ∈ lw_tbl, w.before A s = true) : ∃ D : va_G, ∀ (c : Nat) (q : vw_C), pcl[c]? = some q → u_Kn s q.1 q.2.1 q.2.2 (D.1 c) (D.2 c) := by
  have h : ∀ c : Nat, ∃ z : ClassId × (Nat → Nat), ∀ q : vw_C, pcl[c]? = some q → u_Kn s q.1 q.2.1 q.2.2 z.1 z.2 := by
    intro c
    cases hq : pcl[c]? with
    | none => exact ⟨(0, fun _ => 0), fun q h => by cases h⟩
    | some q =>
      have h1 := List.all_eq_true.mp ok_J c (List.mem_range.mpr (pcl_lt hq))
      unfold ckJ at h1
      rw [hq] at h1
      obtain ⟨c1, -⟩ := hCl_ok c q hq
      obtain ⟨cC, iS, h2⟩ := u_known (ws := pTs) (N := q.2.2) (fun w hw => hts w (pTs_sub hw)) c1 (hts _ (pTs_sub (pw_in h1)))
      exact ⟨(cC, iS), fun q' h => by cases h; exact h2⟩
  exact ⟨(fun c => (Classical.choose (h c)).1, fun c => (Classical.choose (h c)).2), fun c q hq => Classical.choose_spec (h c) q hq⟩
theorem ao_spec {A : Array Value} {s : State} {t : FieldType} (h : (Cond.arrayOver (.array t)).before A s = true) :
    ∃ comp c k, s.vm.findClass (FieldType.array t).toString = some comp ∧ (s.vm.classes.findIdx? fun (x : Class) => match x.kind with | .array component _ => component == comp | _ => false) = some c ∧ s.vm.classes[c]? = some k ∧ k.kind = .array comp (.array t) ∧ s.vm.findClass ("[" ++ (FieldType.array t).toString) = some c := by
  simp only [Cond.before, Cond.holds, Cond.value, beq_iff_eq] at h
  cases hc : s.vm.findClass (FieldType.array t).toString with
  | none => simp [hc] at h
  | some comp =>
    simp only [hc, Option.bind_some, Option.bind_eq_some_iff, Option.map_eq_some_iff] at h
    obtain ⟨c, hi, k, hk, hb⟩ := h
    obtain ⟨hlt, hp, -⟩ := Array.findIdx?_eq_some_iff_getElem.mp hi
    have hkk : s.vm.classes[c] = k := (Array.getElem?_eq_some_iff.mp hk).2
    rw [hkk] at hp
    cases hkind : k.kind with
    | array component ty =>
      rw [hkind] at hb hp
      simp at hb hp
      exact ⟨comp, c, k, rfl, hi, hk, by rw [hkind, hp, hb.1], hb.2⟩
    | _ => rw [hkind] at hb; simp at hb
theorem ao_moved {t : FieldType} {u U : State} (hvm : u.vm.Alike U.vm) (h : va_Nw (.arrayOver (.array t)) u) : va_Nw (.arrayOver (.array t)) U := by
  obtain ⟨comp, c, k, h1, h2, h3, h4, h5⟩ := ao_spec h
  obtain ⟨k', hk', he⟩ := hvm.2.2 _ _ h3
  have hi : (U.vm.classes.findIdx? fun (x : Class) => match x.kind with | .array component _ => component == comp | _ => false) = some c := by
    rw [hvm.findIdx?_eqK _ (fun _ => rfl)]
    exact h2
  have hkind : k'.kind = .array comp (.array t) := by rw [he]; exact h4
  have f1 : U.vm.findClass (FieldType.array t).toString = some comp := by rw [hvm.findClass]; exact h1
  have f2 : U.vm.findClass ("[" ++ (FieldType.array t).toString) = some c := by rw [hvm.findClass]; exact h5
  unfold va_Nw Cond.before Cond.holds
  simp only [Cond.value]
  rw [f1, Option.bind_some]
  refine (congrArg (fun o : Option Nat => (o.bind (fun c => (U.vm.classes[c]?).map fun (k : Class) => match k.kind with | .array _ ty => decide (ty = FieldType.array t) && decide (U.vm.findClass ("[" ++ (FieldType.array t).toString) = some c) | _ => false) == some true)) hi).trans ?_
  simp [hk', hkind, f2]
theorem st_arr {A : Array Value} {s : State} (hts : ∀ w ∈ lw_tbl, w.before A s = true) : ∃ dA : Nat → ClassId, ∀ (k : Nat) (q : ClassId × FieldType), (pm_tys dA)[k]? = some q → ArrOfT s q.1 q.2 ∧ va_RA s q.1 q.2 := by
  have prim : ∀ ty : FieldType, (Cond.arrayClass ty).before A s = true → ∃ c : ClassId, ArrOfT s c ty ∧ s.vm.findClass ("[" ++ ty.toString) = some c := fun ty h => by
    obtain ⟨c, k, comp, h1, h2, h3⟩ := Cond.arrayClass_spec h
    exact ⟨c, fun n z => ⟨fun k h => (by cases h), k, h2, comp, h3⟩, h1⟩
  obtain ⟨c0, a0, b0⟩ := prim .int (hts _ (pTs_sub ok_A0))
  obtain ⟨c1, a1, b1⟩ := prim .long (hts _ (pTs_sub ok_A1))
  obtain ⟨c2, a2, b2⟩ := prim .boolean (hts _ (pTs_sub ok_A2))
  obtain ⟨p3, c3, k3, -, -, e3, f3, g3⟩ := ao_spec (hts (Cond.arrayOver (.array .int)) (ck_in (k := 1) (i := 47) (by decide +kernel)))
  obtain ⟨p4, c4, k4, -, -, e4, f4, g4⟩ := ao_spec (hts (Cond.arrayOver (.array .long)) (ck_in (k := 1) (i := 49) (by decide +kernel)))
  obtain ⟨p5, c5, k5, d5, -, e5, f5, g5⟩ := Cond.arrayOver_spec (hts (Cond.arrayOver (.object "ServoNet$Drive")) (ck_in (k := 1) (i := 33) (by decide +kernel)))
  refine ⟨fun k => match k with
    | 0 => c0
    | 1 => c1
    | 2 => c2
    | 3 => c3
    | 4 => c4
    | _ => c5, fun k q hq => ?_⟩
  have hk : k < 6 := by
    have := (List.getElem?_eq_some_iff.mp hq).1
    simpa [pm_tys] using this
  rw [pm_tys_at _ hk] at hq
  cases hq
  match k, hk with
  | 0, _ => exact ⟨a0, b0⟩
  | 1, _ => exact ⟨a1, b1⟩
  | 2, _ => exact ⟨a2, b2⟩
  | 3, _ => exact ⟨fun n z => ⟨fun k h => (by cases h), k3, e3, _, f3⟩, g3⟩
  | 4, _ => exact ⟨fun n z => ⟨fun k h => (by cases h), k4, e4, _, f4⟩, g4⟩
  | 5, _ => exact ⟨fun n z => ⟨fun k h => (by cases h), k5, e5, _, f5⟩, k5, p5, e5, f5, d5, g5⟩
theorem st_nw {A : Array Value} {s s' : State} (hts : ∀ w ∈ lw_tbl, w.before A s = true) (hW : s.WarmedH s'.vm) : ∀ w ∈ pNw, va_Nw w s' := by
  intro w hw
  obtain ⟨h1, h2⟩ := List.mem_filter.mp hw
  have h3 := hts w h1
  cases w <;> first | (cases h2; done) | exact va_Nw.warmM hW (va_Nw.of rfl h3) | exact va_Nw.warmF hW (va_Nw.of rfl h3)
theorem st_ao {A : Array Value} {s s' : State} (hts : ∀ w ∈ lw_tbl, w.before A s = true) (hvm : s.vm.Alike s'.vm) : ∀ ty : FieldType, ty = .array .int ∨ ty = .array .long ∨ ty = .object "ServoNet$Drive" → va_Nw (.arrayOver ty) s' := by
  intro ty h
  rcases h with rfl | rfl | rfl
  · exact ao_moved hvm (hts (Cond.arrayOver (.array .int)) (ck_in (k := 1) (i := 47) (by decide +kernel)))
  · exact ao_moved hvm (hts (Cond.arrayOver (.array .long)) (ck_in (k := 1) (i := 49) (by decide +kernel)))
  · exact va_AO.moved hvm (va_AO.of (hts (Cond.arrayOver (.object "ServoNet$Drive")) (ck_in (k := 1) (i := 33) (by decide +kernel))))
def ckR (q : Nat × Nat × Nat × Nat × String) : Bool := decide ((chn q.2.1)[q.2.2.1]? = some (.stringRef "ServoNet" q.1 q.2.2.2.2)) && decide (fl[q.2.2.2.1]? = some (.exactly (.string "ServoNet" q.1) "java/lang/String"))
theorem ok_Rs : strp.all ckR = true := by decide +kernel
theorem ok_Rl : strl.all (fun i => strp.any (fun q => q.1 == i)) = true := by decide +kernel
theorem st_str {A : Array Value} {s s' : State} (hts : ∀ w ∈ lw_tbl, w.before A s = true) (h : (Jvm.Cond.and given_1 narrow_1).before A s = true) (hA : A.size = 1) (hW : s.WarmedH s'.vm) : ∀ q ∈ strs.1, ∃ (text : String) (sa : Nat), vk_R q.1 q.2 text sa s' := by
  intro q hq
  obtain ⟨i, hi, rfl⟩ := List.mem_map.mp hq
  obtain ⟨z, hz, he⟩ := an (List.all_eq_true.mp ok_Rl i hi)
  have he : z.1 = i := by simpa using he
  have h2 := List.all_eq_true.mp ok_Rs z hz
  simp only [ckR, Bool.and_eq_true, decide_eq_true_eq] at h2
  have h3 := hts _ (chn_in (List.mem_of_getElem? h2.1))
  obtain ⟨a, c, cell, k, h4, -⟩ := Cond.exactly_spec (fl_in h h2.2)
  rw [he] at h3 h4
  exact ⟨z.2.2.2.2, a, vk_R.warm hW (vk_R.of h3 h4)⟩
theorem st_nc {A : Array Value} {s : State} (h : (Jvm.Cond.and given_1 narrow_1).before A s = true) : ∀ E E' : Nat, E < 3 → E' < 3 → E' ≠ E → va_Nc (pm_en E) (pm_en E') s := by
  intro E E' h1 h2 h3
  have c01 := va_Nc.of (fl_in h (k := 888) (w := .not (.castable (pm_en 1) (pm_en 0))) (by decide +kernel))
  have c02 := va_Nc.of (fl_in h (k := 887) (w := .not (.castable (pm_en 2) (pm_en 0))) (by decide +kernel))
  have c20 := va_Nc.of (fl_in h (k := 903) (w := .not (.castable (pm_en 0) (pm_en 2))) (by decide +kernel))
  have c21 := va_Nc.of (fl_in h (k := 904) (w := .not (.castable (pm_en 1) (pm_en 2))) (by decide +kernel))
  have c10 := va_Nc.of (fl_in h (k := 919) (w := .not (.castable (pm_en 0) (pm_en 1))) (by decide +kernel))
  have c12 := va_Nc.of (fl_in h (k := 920) (w := .not (.castable (pm_en 2) (pm_en 1))) (by decide +kernel))
  rcases (show E = 0 ∨ E = 1 ∨ E = 2 by omega) with rfl | rfl | rfl <;> rcases (show E' = 0 ∨ E' = 1 ∨ E' = 2 by omega) with rfl | rfl | rfl <;> first | exact absurd rfl h3 | assumption
theorem ok_hct : (List.range 3).all (fun E => inT (Cond.classLink "ServoNetLaw" (hct E) (pm_en E)) && decide (hct E ≠ 0)) = true := by decide +kernel
theorem pTx_cast : (List.range 3).all (fun E => inX (.castable (pm_en E) (pm_en E))) = true := by decide +kernel
theorem st_ca {A : Array Value} {s s' : State} (hts : ∀ w ∈ lw_tbl, w.before A s = true) (h : (Jvm.Cond.and given_1 narrow_1).before A s = true) (hW : s.WarmedH s'.vm) : pm_Ca pTs hct "ServoNetLaw" s' := by
  intro E hE
  have h1 := List.all_eq_true.mp ok_hct E (List.mem_range.mpr hE)
  simp only [Bool.and_eq_true, decide_eq_true_eq] at h1
  exact ⟨h1.2, inT_ok h1.1, fun B => (pTx_warm hts hW _ (inX_ok (List.all_eq_true.mp pTx_cast E (List.mem_range.mpr hE)))).2, fun E' hE' hne => (st_nc h E E' hE hE' hne).moved hW.alike⟩
theorem st_th {A : Array Value} {s s' : State} (hts : ∀ w ∈ lw_tbl, w.before A s = true) (h : (Jvm.Cond.and given_1 narrow_1).before A s = true) (hA : A.size = 1) (hW : s.WarmedH s'.vm) : pm_Th s.heap.size strs s.heap s' := by
  refine ⟨vx_Zq.moved hW.alike (vx_Zqof (A := fun z => s.heap.size ≤ z) (hts _ (ck_in (k := 4) (i := 84) (by decide +kernel))) (hts _ (ck_in (k := 1) (i := 17) (by decide +kernel))) (fl_in h (k := 4) (by decide +kernel)) (fun a ha => Nat.not_le.mpr ha)), vx_Zq.moved hW.alike (vx_Zqof (A := fun z => s.heap.size ≤ z) (hts _ (ck_in (k := 4) (i := 86) (by decide +kernel))) (hts _ (ck_in (k := 1) (i := 17) (by decide +kernel))) (fl_in h (k := 5) (by decide +kernel)) (fun a ha => Nat.not_le.mpr ha)), st_str hts h hA hW, fun w hw => ?_⟩
  exact ⟨(pTx_warm (A := A) hts hW w hw).1, fun B => (pTx_warm (A := B) hts hW w hw).2⟩
/-- all that the machine wants of the start -/
theorem st_all {b L : Nat} {xs : Nat → Int32} {s : State} (hts : ∀ w ∈ lw_tbl, w.before #[Value.ref b] s = true) (h : (Jvm.Cond.and given_1 narrow_1).before #[Value.ref b] s = true) (hX : va_X b L xs s s.heap) (hbl : b < s.heap.size) : ∃ (D : va_G) (dA : Nat → ClassId) (ext : Nat → Nat), ext 0 = b ∧ ∀ s' : State, s.WarmedH s'.vm → pm_St pTs pNw D pcl dA s.heap.size ext (pXs L xs) pstat s.heap s' ∧ pm_Th s.heap.size strs s.heap s' ∧ pm_Ca pTs hct "ServoNetLaw" s' := by
  obtain ⟨D, hD⟩ := st_cls hts
  obtain ⟨dA, hdA⟩ := st_arr hts
  obtain ⟨t1, l1, x1, z1⟩ := st_BOOK hts h
  obtain ⟨t2, l2, x2, z2⟩ := st_NAME hts h
  obtain ⟨t3, l3, x3, z3⟩ := st_WIDTHS hts h
  obtain ⟨t4, l4, x4, z4⟩ := st_CHOICES hts h
  obtain ⟨t5, l5, x5, z5⟩ := st_STATUS_BASES hts h
  refine ⟨D, dA, fun i => match i with
    | 0 => b
    | 1 => t1
    | 2 => t2
    | 3 => t3
    | 4 => t4
    | _ => t5, rfl, fun s' hW => ⟨⟨va_K.moved hW.alike ⟨hD, hdA⟩, fun i a hi => ?_, fun i q hi => ?_, st_nw hts hW, st_ao hts hW.alike⟩, st_th hts h rfl hW, st_ca hts h hW⟩⟩
  · match i, hi with
    | 0, hi => cases hi; exact ⟨hbl, pm_X.moved hW.alike (pm_X.ofX hX)⟩
    | 1, hi => cases hi; exact ⟨l1, pm_X.moved hW.alike x1⟩
    | 2, hi => cases hi; exact ⟨l2, pm_X.moved hW.alike x2⟩
    | 3, hi => cases hi; exact ⟨l3, pm_X.moved hW.alike x3⟩
    | 4, hi => cases hi; exact ⟨l4, pm_X.moved hW.alike x4⟩
    | 5, hi => cases hi; exact ⟨l5, pm_X.moved hW.alike x5⟩
    | i + 6, hi => cases hi
  · match i, hi with
    | 0, hi => cases hi
    | 1, hi => cases hi; exact va_Z.moved hW.alike z1
    | 2, hi => cases hi; exact va_Z.moved hW.alike z2
    | 3, hi => cases hi; exact va_Z.moved hW.alike z3
    | 4, hi => cases hi; exact va_Z.moved hW.alike z4
    | 5, hi => cases hi; exact va_Z.moved hW.alike z5
    | i + 6, hi => cases hi
