set_option maxRecDepth 20000
theorem rs_a {a b : Nat} {f g : Nat → Int64} {ρ : sR} (h : ¬ a = b) : (rsA b g (rsA a f ρ)).2.2.2.1 a = f := (if_neg h).trans (if_pos rfl)
theorem rs_b {a b : Nat} {f g : Nat → Int64} {ρ : sR} : (rsA b g (rsA a f ρ)).2.2.2.1 b = g := if_pos rfl
theorem rs_alk {a b b' : Nat} {f g : Nat → Int64} {V : Nat → Bool} {ρ : sR} : alk V (fun i => i == a || (i == b || i == b')) (rsA b g (rsA a f ρ)) ρ := ⟨fun i _ => ⟨rfl, rfl⟩, fun x hx => by
  simp only [Bool.or_eq_false_iff, beq_eq_false_iff_ne, ne_eq] at hx
  exact ⟨rfl, (if_neg hx.2.1).trans (if_neg hx.1)⟩⟩
theorem sprd_at {b j : Nat} {ρ : sR} {p : Nat × Nat} : ∀ ps : List (Nat × Nat), ps.find? (fun q => q.1 == j) = some p → sprd b ps ρ j = ρ.2.1 p.2
  | [], h => by cases h
  | q :: r, h => by
    show (if q.1 = j then ρ.2.1 q.2 else sprd b r ρ j) = _
    by_cases e : q.1 = j
    · rw [List.find?_cons_of_pos (by simpa using e)] at h
      rw [if_pos e, Option.some.inj h]
    · rw [List.find?_cons_of_neg (by simpa using e)] at h
      rw [if_neg e]
      exact sprd_at r h
theorem sprd_no {b j : Nat} {ρ : sR} {q : Nat × Nat} {r : List (Nat × Nat)} (h : ¬ q.1 = j) : sprd b (q :: r) ρ j = sprd b r ρ j := if_neg h
theorem sprd_ev {b : Nat} {ρ : sR} : ∀ ps : List (Nat × Nat), (∀ p ∈ ps, ∀ v : Int64, evk p.1 v.toInt = true) → ∀ j : Nat, evk j (ρ.2.2.2.1 b j).toInt = true → evk j (sprd b ps ρ j).toInt = true
  | [], _, _, h => h
  | q :: r, hf, j, h => by
    show evk j (if q.1 = j then ρ.2.1 q.2 else sprd b r ρ j).toInt = true
    by_cases e : q.1 = j
    · rw [if_pos e, ← e]; exact hf q List.mem_cons_self _
    · rw [if_neg e]; exact sprd_ev r (fun p hp => hf p (List.mem_cons_of_mem _ hp)) j h
theorem free_k : ps_e.tail.all (fun p => decide (evt[p.1]? = some (-9223372036854775808, 9223372036854775807, 0))) = true := by decide +kernel
theorem free_v {p : Nat × Nat} (hp : p ∈ ps_e.tail) (v : Int64) : evk p.1 v.toInt = true := by
  have h := of_decide_eq_true (List.all_eq_true.mp free_k p hp)
  have l1 := Int64.le_toInt v
  have l2 := Int64.toInt_lt v
  have m : Int64.minValue.toInt = -9223372036854775808 := by decide +kernel
  exact ev_inn h (by omega) (by omega) rfl
noncomputable def pf_bn0 : sFs := [((0, .arg 21728, .int 0), true), ((0, .arg 1702, .int 0), true), ((0, .arg 3360, .int 0), true), ((0, .arg 1350, .int 0), true), ((0, .arg 1826, .int 0), true), ((0, .op2 .iand (.op2 .iushr (.arg 2848) (.int 4)) (.int 1), .arg 60578), true), ((0, .arg 2784, .int 127), true), ((0, .arg 20064, .int 127), true), ((0, .arg 2688, .int 0), true), ((0, .arg 6722, .int 0), true), ((0, .arg 9314, .int 0), true), ((0, .arg 6466, .int 0), true), ((0, .arg 6498, .int 0), true), ((0, .arg 6850, .int 0), true), ((0, .arg 6882, .int 0), true), ((0, .arg 6914, .int 0), true), ((0, .arg 6946, .int 0), true), ((0, .arg 7362, .int 0), true), ((0, .arg 7394, .int 0), true), ((0, .arg 7426, .int 0), true), ((0, .arg 7458, .int 0), true), ((0, .arg 7874, .int 0), true), ((0, .arg 7906, .int 0), true), ((0, .arg 7938, .int 0), true), ((0, .arg 7970, .int 0), true), ((0, .arg 21216, .int 0), true), ((0, .arg 21248, .int 0), true), ((0, .arg 21280, .int 0), true), ((0, .arg 21312, .int 0), true), ((0, .op2 .iand (.arg 2848) (.int 65295), .int 65295), true)]
noncomputable def c_bn0v : sC := (c_bn0g.1, c_bn0g.2.1, c_bn0g.2.2.1, [((101, .elem (.arg 1761) (.int 0), .int 0), true), ((6, .arg 6625, .arg 60129), true), ((6, .arg 7041, .arg 60065), true), ((6, .arg 7073, .arg 60097), true), ((100, .elem (.arg 2944) (.int 0), .arg 1318), true), ((104, .add (.arg 60129) (.add (.arg 60065) (.elem (.arg 2944) (.int 0))), .arg 1318), true), ((0, .op2 .iand (.op2 .iushr (.arg 2848) (.int 4)) (.int 1), .arg 60578), true)], (c_bn0g.2.2.2.2.1.1 ++ ps_e.map Prod.snd, c_bn0g.2.2.2.2.1.2 ++ [1761]), (none, none), ((101, .elem (.arg 1761) (.int 0), .int 0), true) :: ((6, .arg 6625, .arg 60129), true) :: ((6, .arg 7041, .arg 60065), true) :: ((6, .arg 7073, .arg 60097), true) :: pf_bn0, (i_gi, c_bn0g.2.2.2.2.2.2.2.2))
theorem c_bn0v_f : cfine zWBv 65536 c_bn0v = true := by decide +kernel
theorem s_bn0v {X : pX} : SREL X pF pdfl mt_all kR zWBv c_bn0v := SREL_spread (a := 64321) (b := 64353) (b' := 1761) (k := 43) (km := 229) (D := 1308) (n := 160) (c := 8673) (ps := ps_e) s_bn0 kR_0 kR_x (by decide) (by decide) (by decide +kernel) (by decide +kernel) (by decide) (by decide) (by decide) (by decide) (by decide) (by decide) (by decide) (by decide) (by decide) rfl rfl (by decide) (by decide) (by decide) (by decide +kernel) (by decide +kernel) (by decide +kernel) (by decide +kernel) (by decide +kernel) (by decide +kernel) (by decide +kernel) (by decide +kernel) (by decide +kernel) (by decide) rfl rfl rfl rfl rfl (by decide +kernel) (by decide +kernel) (by decide +kernel)
  (fun i hi => ⟨fun h => hi (List.mem_append_left _ h), List.any_eq_false.mpr (fun p hp q => hi (List.mem_append_right _ (List.mem_map.mpr ⟨p, hp, beq_iff_eq.mp q⟩)))⟩)
  (fun x hx => ⟨fun h => hx (List.mem_append_left _ h), fun e => hx (by rw [e]; exact List.mem_append_left _ (by decide +kernel)), fun e => hx (by rw [e]; exact List.mem_append_left _ (by decide +kernel)), fun e => hx (by rw [e]; exact List.mem_append_right _ List.mem_cons_self)⟩)
  (fun ρ kk ff ii => by
    have hN : evall (ρ.2.2.2.1 1761) = true := ff.2 ((101, .elem (.arg 1761) (.int 0), .int 0), true) (List.mem_cons_self)
    have hN2 : ∀ j : Nat, j < 156 → evk j (ρ.2.2.2.1 1761 j).toInt = true := fun j hj => by
      unfold evall at hN
      rw [Bool.and_eq_true, List.all_eq_true] at hN
      exact hN.1 j (List.mem_range.mpr hj)
    have e4 : ρ.2.1 7041 = ρ.2.1 60065 := of_decide_eq_true (ff.2 ((6, .arg 7041, .arg 60065), true) (List.mem_cons_of_mem _ (List.mem_cons_of_mem _ (List.mem_cons_self))))
    have e3 : ρ.2.1 7073 = ρ.2.1 60097 := of_decide_eq_true (ff.2 ((6, .arg 7073, .arg 60097), true) (List.mem_cons_of_mem _ (List.mem_cons_of_mem _ (List.mem_cons_of_mem _ (List.mem_cons_self)))))
    have va := rs_a (a := 64321) (b := 64353) (f := sprd 1761 ps_e ρ) (g := sprd 1761 ps_e.tail ρ) (ρ := ρ) (by decide)
    have vb := rs_b (a := 64321) (b := 64353) (f := sprd 1761 ps_e ρ) (g := sprd 1761 ps_e.tail ρ) (ρ := ρ)
    have x9 : sc X (rsA 64353 (sprd 1761 ps_e.tail ρ) (rsA 64321 (sprd 1761 ps_e ρ) ρ)) (159, .add (.elem (.arg 64321) (.int 0)) (.elem (.arg 64353) (.int 0)), .int 110) = true := k159.mpr (fun j hj h1 => by
      rw [va, vb]
      exact sprd_no (q := (1, 6625)) (r := ps_e.tail) (by show ¬ 1 = j; omega))
    have x5 : sc X (rsA 64353 (sprd 1761 ps_e.tail ρ) (rsA 64321 (sprd 1761 ps_e ρ) ρ)) (155, .elem (.arg 64353) (.int 0), .int 110) = true := k155h.mpr (fun j hj h1 => by
      rw [vb]
      exact sprd_ev ps_e.tail (fun p hp v => free_v hp v) j (hN2 j hj))
    have z4 : sc X (rsA 64353 (sprd 1761 ps_e.tail ρ) (rsA 64321 (sprd 1761 ps_e ρ) ρ)) (6, .elem (.arg 64353) (.int 114), .arg 60065) = true := decide_eq_true (show (rsA 64353 (sprd 1761 ps_e.tail ρ) (rsA 64321 (sprd 1761 ps_e ρ) ρ)).2.2.2.1 64353 114 = ρ.2.1 60065 by
      rw [vb, sprd_at (p := (114, 7041)) ps_e.tail (by decide +kernel)]
      exact e4)
    have z3 : sc X (rsA 64353 (sprd 1761 ps_e.tail ρ) (rsA 64321 (sprd 1761 ps_e ρ) ρ)) (6, .elem (.arg 64353) (.int 123), .arg 60097) = true := decide_eq_true (show (rsA 64353 (sprd 1761 ps_e.tail ρ) (rsA 64321 (sprd 1761 ps_e ρ) ρ)).2.2.2.1 64353 123 = ρ.2.1 60097 by
      rw [vb, sprd_at (p := (123, 7073)) ps_e.tail (by decide +kernel)]
      exact e3)
    have hr : fall X (rsA 64353 (sprd 1761 ps_e.tail ρ) (rsA 64321 (sprd 1761 ps_e ρ) ρ)) [((100, .elem (.arg 2944) (.int 0), .arg 1318), true), ((104, .add (.arg 60129) (.add (.arg 60065) (.elem (.arg 2944) (.int 0))), .arg 1318), true), ((0, .op2 .iand (.op2 .iushr (.arg 2848) (.int 4)) (.int 1), .arg 60578), true)] := nod_fall (rs_alk (b' := 1761) (V := fun _ => false)) (by decide +kernel) (fcn (ff.2 _ (List.mem_cons_of_mem _ (List.mem_cons_of_mem _ (List.mem_cons_of_mem _ (List.mem_cons_of_mem _ (List.mem_cons_self)))))) (fcn (ff.2 _ (List.mem_cons_of_mem _ (List.mem_cons_of_mem _ (List.mem_cons_of_mem _ (List.mem_cons_of_mem _ (List.mem_cons_of_mem _ (List.mem_cons_self))))))) (fcn (ff.2 _ (List.mem_cons_of_mem _ (List.mem_cons_of_mem _ (List.mem_cons_of_mem _ (List.mem_cons_of_mem _ (List.mem_cons_of_mem _ (List.mem_cons_of_mem _ (List.mem_cons_self)))))))) (fun f hf => by cases hf))))
    exact ⟨⟨rsA_vok (rsA_vok ff.1 (by decide +kernel)) (by decide +kernel), fcn x9 (fcn x5 (fcn z4 (fcn z3 hr)))⟩, gi_rsA ii⟩)
  (fun ρ2 f2 i2 => by
    have h6 : sc X ρ2 (156, .add (.elem (.arg 64321) (.int 0)) (.elem (.arg 64353) (.int 0)), .int 0) = true := f2.2 _ (List.mem_cons_self)
    have h1 : sc X ρ2 (101, .elem (.arg 64353) (.int 0), .int 0) = true := f2.2 _ (List.mem_cons_of_mem _ (List.mem_cons_self))
    have z1 : ρ2.2.2.2.1 64321 1 = ρ2.2.1 60129 := of_decide_eq_true (f2.2 ((6, .elem (.arg 64321) (.int 1), .arg 60129), true) (List.mem_cons_of_mem _ (List.mem_cons_of_mem _ (List.mem_cons_self))))
    have z2 : ρ2.2.2.2.1 64353 114 = ρ2.2.1 60065 := of_decide_eq_true (f2.2 ((6, .elem (.arg 64353) (.int 114), .arg 60065), true) (List.mem_cons_of_mem _ (List.mem_cons_of_mem _ (List.mem_cons_of_mem _ (List.mem_cons_self)))))
    have z3 : ρ2.2.2.2.1 64353 123 = ρ2.2.1 60097 := of_decide_eq_true (f2.2 ((6, .elem (.arg 64353) (.int 123), .arg 60097), true) (List.mem_cons_of_mem _ (List.mem_cons_of_mem _ (List.mem_cons_of_mem _ (List.mem_cons_of_mem _ (List.mem_cons_self))))))
    have hr : fall X ρ2 pf_bn0 := fun f hf => f2.2 f (List.mem_cons_of_mem _ (List.mem_cons_of_mem _ (List.mem_cons_of_mem _ (List.mem_cons_of_mem _ (List.mem_cons_of_mem _ hf)))))
    have y1 : sc X (spU 64321 64353 1761 ps_e ρ2) (101, .elem (.arg 1761) (.int 0), .int 0) = true := by
      show evall ((spU 64321 64353 1761 ps_e ρ2).2.2.2.1 1761) = true
      rw [spU_b]
      exact h1
    have lg : ∀ i : Nat, ps_e.any (fun p => p.2 == i) = false → (spU 64321 64353 1761 ps_e ρ2).2.1 i = ρ2.2.1 i := fun i hi => spU_no hi
    have e1 : (spU 64321 64353 1761 ps_e ρ2).2.1 6625 = (spU 64321 64353 1761 ps_e ρ2).2.1 60129 := ((spU_in (p := (1, 6625)) (by decide +kernel)).trans z1).trans (lg 60129 (by decide +kernel)).symm
    have e2 : (spU 64321 64353 1761 ps_e ρ2).2.1 7041 = (spU 64321 64353 1761 ps_e ρ2).2.1 60065 := ((spU_in (p := (114, 7041)) (by decide +kernel)).trans z2).trans (lg 60065 (by decide +kernel)).symm
    have e3 : (spU 64321 64353 1761 ps_e ρ2).2.1 7073 = (spU 64321 64353 1761 ps_e ρ2).2.1 60097 := ((spU_in (p := (123, 7073)) (by decide +kernel)).trans z3).trans (lg 60097 (by decide +kernel)).symm
    exact ⟨k156.mp h6, ⟨spU_vok f2.1 (by decide +kernel) (by decide +kernel), fcn y1 (fcn (decide_eq_true e1) (fcn (decide_eq_true e2) (fcn (decide_eq_true e3) (nod_fall spU_alk (by decide +kernel) hr))))⟩, nod_iok spU_alk (by decide +kernel) i2⟩)
