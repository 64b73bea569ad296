/-! ===== the size of a number: Math.abs and size ===== -/
noncomputable def c_absq : sC := ((425, 226, 2), ([.arg 60001], [.arg 60033]), ([], []), [((6, .arg 60033, .op1 .lneg (.arg 60001)), true)], ([60065], []), (some (.arg 60065), some (.arg 60065)), [], ([([((8, .arg 60001, .long 0), true), ((8, .arg 60033, .long 0), true)], (6, .op1 .lneg (.arg 60001), .op1 .lneg (.arg 60033)), true), ([((8, .arg 60001, .long 0), false), ((8, .arg 60033, .long 0), false)], (6, .arg 60001, .arg 60033), true), ([((8, .arg 60001, .long 0), false), ((8, .arg 60033, .long 0), true)], (6, .arg 60001, .op1 .lneg (.arg 60033)), true), ([((8, .arg 60001, .long 0), true), ((8, .arg 60033, .long 0), false)], (6, .op1 .lneg (.arg 60001), .arg 60033), true)], []))
theorem c_absq_f : cfine zWP 65536 c_absq = true := by decide +kernel
theorem e_absq : frun kR [] (cpl1 zWP c_absq []) (cpl2 zWP c_absq []) (cleaf kR zWP c_absq []) 3000 65536 (isatP (c_absq.2.2.2.1) c_absq.2.2.2.2.2.2.2.1) c_absq.2.2.2.2.2.2.2.1 (sin0 mt_all c_absq.1.1 1 c_absq.2.1.1 (foot zWP c_absq.2.2.1.1)) (sin0 mt_all c_absq.1.2.1 1 c_absq.2.1.2 (foot zWP c_absq.2.2.1.2)) = true := by decide +kernel
theorem s_absq {X : pX} : SREL X pF pdfl mt_all kR zWP c_absq := SREL_QC kR_x kR_0 (Cs := []) (fun C hC => by cases hC) (d := 1) rfl c_absq_f (Q := []) (fun ρ0 hv q hq => by cases hq) (QC_run 3000 e_absq)
theorem abs_two {x y : Int64} (h : y = -x) : (x < 0 → y < 0 → -x = -y) ∧ (¬ x < 0 → ¬ y < 0 → x = y) := by
  subst h
  by_cases hm : x.toInt = -9223372036854775808
  · have : x = Int64.minValue := Int64.toInt_inj.mp (by rw [hm]; decide)
    subst this
    exact ⟨fun _ _ => by decide, fun h _ => absurd (by decide) h⟩
  · have h1 := Int64.le_toInt x
    have e := l_neg (x := x) (by have : (-9223372036854775808 : Int) ≤ x.toInt := h1; omega)
    constructor
    · intro a b
      have a := Int64.lt_iff_toInt_lt.mp a
      have b := Int64.lt_iff_toInt_lt.mp b
      rw [e] at b
      have z : (0 : Int64).toInt = 0 := rfl
      omega
    · intro a b
      have a := Int64.le_iff_toInt_le.mp (Int64.not_lt.mp a)
      have b := Int64.le_iff_toInt_le.mp (Int64.not_lt.mp b)
      have z : (0 : Int64).toInt = 0 := rfl
      apply Int64.toInt_inj.mp
      rw [e] at b ⊢
      omega
noncomputable def c_abs0 : sC := (c_absq.1, c_absq.2.1, c_absq.2.2.1, c_absq.2.2.2.1, c_absq.2.2.2.2.1, c_absq.2.2.2.2.2.1, c_absq.2.2.2.2.2.2.1, ([], c_absq.2.2.2.2.2.2.2.2))
theorem s_abs0 {X : pX} : SREL X pF pdfl mt_all kR zWP c_abs0 := SREL_pre s_absq (fun ρ hF _ => by
  have h0 : ρ.2.1 60033 = -ρ.2.1 60001 := of_decide_eq_true (hF.2 ((6, .arg 60033, .op1 .lneg (.arg 60001)), true) List.mem_cons_self)
  obtain ⟨q1, q2⟩ := abs_two h0
  intro c hc
  have hc : c ∈ c_absq.2.2.2.2.2.2.2.1 := hc
  simp only [c_absq, List.mem_cons, List.not_mem_nil, or_false] at hc
  rcases hc with rfl | rfl | rfl | rfl
  · intro hg
    exact decide_eq_true (q1 (of_decide_eq_true (hg ((8, .arg 60001, .long 0), true) List.mem_cons_self)) (of_decide_eq_true (hg ((8, .arg 60033, .long 0), true) (List.mem_cons_of_mem _ List.mem_cons_self))))
  · intro hg
    exact decide_eq_true (q2 (of_decide_eq_false (hg ((8, .arg 60001, .long 0), false) List.mem_cons_self)) (of_decide_eq_false (hg ((8, .arg 60033, .long 0), false) (List.mem_cons_of_mem _ List.mem_cons_self))))
  · exact fun _ => decide_eq_true (show ρ.2.1 60001 = -ρ.2.1 60033 by rw [h0, Int64.neg_neg])
  · exact fun _ => decide_eq_true (show -ρ.2.1 60001 = ρ.2.1 60033 from h0.symm))
noncomputable def c_abs1 : sC := ((425, 226, 2), ([.arg 60001], [.arg 60033]), ([], []), [((6, .arg 60033, .arg 60001), true)], ([60065], []), (some (.arg 60065), some (.arg 60065)), [], ([], []))
theorem c_abs1_f : cfine zWP 65536 c_abs1 = true := by decide +kernel
theorem e_abs1 : frun kR [] (cpl1 zWP c_abs1 []) (cpl2 zWP c_abs1 []) (cleaf kR zWP c_abs1 []) 3000 65536 (isatP (c_abs1.2.2.2.1) c_abs1.2.2.2.2.2.2.2.1) c_abs1.2.2.2.2.2.2.2.1 (sin0 mt_all c_abs1.1.1 1 c_abs1.2.1.1 (foot zWP c_abs1.2.2.1.1)) (sin0 mt_all c_abs1.1.2.1 1 c_abs1.2.1.2 (foot zWP c_abs1.2.2.1.2)) = true := by decide +kernel
theorem s_abs1 {X : pX} : SREL X pF pdfl mt_all kR zWP c_abs1 := SREL_QC kR_x kR_0 (Cs := []) (fun C hC => by cases hC) (d := 1) rfl c_abs1_f (Q := []) (fun ρ0 hv q hq => by cases hq) (QC_run 3000 e_abs1)
