/-! ===== the tick: numbers kept beside what is let go ===== -/
section GHS
variable {X : pX}
noncomputable def rgs (ps : List (Nat × Nat)) (ρ : sR) : sR := (fun i => match ps.find? (fun p => p.2 == i) with | some p => ρ.1 p.1 | none => ρ.1 i, ρ.2)
theorem rgs_no {ps : List (Nat × Nat)} {ρ : sR} {i : Nat} (h : ∀ p ∈ ps, p.2 ≠ i) : (rgs ps ρ).1 i = ρ.1 i := by
  show (match ps.find? (fun p => p.2 == i) with | some p => ρ.1 p.1 | none => ρ.1 i) = ρ.1 i
  cases e : ps.find? (fun p => p.2 == i) with
  | none => rfl
  | some p =>
    have b : (p.2 == i) = true := List.find?_some (p := fun x : Nat × Nat => x.2 == i) e
    exact absurd (beq_iff_eq.mp b) (h p (List.mem_of_find?_eq_some e))
theorem rgs_agr {n : Nat} {ps : List (Nat × Nat)} (h : ps.all (fun p => Nat.ble n p.2) = true) {ρ : sR} : agr n (rgs ps ρ) ρ := ⟨fun i hi => ⟨rgs_no (fun p hp e => by
  have b := Nat.le_of_ble_eq_true (List.all_eq_true.mp h p hp)
  omega), rfl⟩, fun _ _ => ⟨rfl, rfl⟩⟩
theorem rgs_vok {ps : List (Nat × Nat)} {ρ : sR} (hn : ps.all (fun p => (vrng p.2).isNone) = true) (hv : vok X ρ) : vok X (rgs ps ρ) := by
  constructor
  · intro i r hr
    have hne : ∀ p ∈ ps, p.2 ≠ i := fun p hp e => by
      have b := List.all_eq_true.mp hn p hp
      rw [e, hr] at b
      cases b
    have e : sn X (rgs ps ρ) (.arg i) = sn X ρ (.arg i) := by
      show (if i % 2 = 1 then (ρ.2.1 i).toInt else ((rgs ps ρ).1 i).toInt) = if i % 2 = 1 then (ρ.2.1 i).toInt else (ρ.1 i).toInt
      rw [rgs_no hne]
    rw [e]
    exact hv.1 i r hr
  · intro a t r hr
    have e : sn X (rgs ps ρ) (.elem (.arg a) t) = sn X ρ (.elem (.arg a) (.int (sd X (rgs ps ρ) t).1)) := rfl
    rw [e]
    exact hv.2 a _ r hr
noncomputable def ps_gi : List (Nat × Nat) := [(1728, 63488), (1760, 63520), (1792, 63552), (1824, 63584), (19904, 63616), (19936, 63648), (19968, 63680), (20000, 63712), (1410, 63744), (1442, 63776), (1474, 63808), (1506, 63840)]
theorem ps_a : ps_gi.all (fun p => Nat.ble 63488 p.2) = true := by decide +kernel
theorem ps_v : ps_gi.all (fun p => (vrng p.2).isNone) = true := by decide +kernel
noncomputable def f_inf0 : sFs := [((2, .arg 19904, .int 0), false), ((2, .int 8, .arg 19904), false), ((2, .arg 1728, .int 0), false), ((2, .int 8, .arg 1728), false), ((2, .arg 1728, .arg 19904), false), ((106, .add (.sub (.arg 1728) (.arg 19904)) (.add (.elem (.arg 1568) (.int 0)) (.elem (.arg 19744) (.int 0))), .arg 19904), true), ((107, .add (.sub (.arg 1728) (.arg 19904)) (.add (.elem (.arg 1441) (.int 0)) (.elem (.arg 5153) (.int 0))), .arg 19904), true)]
theorem inf_0 {ρ ρ' : sR} (e1 : ρ'.1 19904 = ρ.1 19904) (e2 : ρ'.1 1728 = ρ.1 1728) (a1 : ρ'.2.2.1 1568 = ρ.2.2.1 1568) (a2 : ρ'.2.2.1 19744 = ρ.2.2.1 19744) (a3 : ρ'.2.2.2.1 1441 = ρ.2.2.2.1 1441) (a4 : ρ'.2.2.2.1 5153 = ρ.2.2.2.1 5153) (h : fall X ρ f_inf0) : fall X ρ' f_inf0 := by
  have x0 : sc X ρ' (2, .arg 19904, .int 0) = false := by
    have q : sc X ρ (2, .arg 19904, .int 0) = false := h _ (List.mem_cons_self)
    show decide (ρ'.1 19904 < 0) = false
    rw [e1]
    exact q
  have x1 : sc X ρ' (2, .int 8, .arg 19904) = false := by
    have q : sc X ρ (2, .int 8, .arg 19904) = false := h _ (List.mem_cons_of_mem _ (List.mem_cons_self))
    show decide ((8 : Int32) < ρ'.1 19904) = false
    rw [e1]
    exact q
  have x2 : sc X ρ' (2, .arg 1728, .int 0) = false := by
    have q : sc X ρ (2, .arg 1728, .int 0) = false := h _ (List.mem_cons_of_mem _ (List.mem_cons_of_mem _ (List.mem_cons_self)))
    show decide (ρ'.1 1728 < 0) = false
    rw [e2]
    exact q
  have x3 : sc X ρ' (2, .int 8, .arg 1728) = false := by
    have q : sc X ρ (2, .int 8, .arg 1728) = false := h _ (List.mem_cons_of_mem _ (List.mem_cons_of_mem _ (List.mem_cons_of_mem _ (List.mem_cons_self))))
    show decide ((8 : Int32) < ρ'.1 1728) = false
    rw [e2]
    exact q
  have x4 : sc X ρ' (2, .arg 1728, .arg 19904) = false := by
    have q : sc X ρ (2, .arg 1728, .arg 19904) = false := h _ (List.mem_cons_of_mem _ (List.mem_cons_of_mem _ (List.mem_cons_of_mem _ (List.mem_cons_of_mem _ (List.mem_cons_self)))))
    show decide (ρ'.1 1728 < ρ'.1 19904) = false
    rw [e2, e1]
    exact q
  have x5 : sc X ρ' (106, .add (.sub (.arg 1728) (.arg 19904)) (.add (.elem (.arg 1568) (.int 0)) (.elem (.arg 19744) (.int 0))), .arg 19904) = true := by
    have q : sc X ρ (106, .add (.sub (.arg 1728) (.arg 19904)) (.add (.elem (.arg 1568) (.int 0)) (.elem (.arg 19744) (.int 0))), .arg 19904) = true := h _ (List.mem_cons_of_mem _ (List.mem_cons_of_mem _ (List.mem_cons_of_mem _ (List.mem_cons_of_mem _ (List.mem_cons_of_mem _ (List.mem_cons_self))))))
    show (List.range (ρ'.1 19904).toInt.toNat).all (fun j => decide (ρ'.2.2.1 1568 ((ρ'.1 1728 - ρ'.1 19904).toInt.toNat + j) = ρ'.2.2.1 19744 j)) = true
    rw [e1, e2, a1, a2]
    exact q
  have x6 : sc X ρ' (107, .add (.sub (.arg 1728) (.arg 19904)) (.add (.elem (.arg 1441) (.int 0)) (.elem (.arg 5153) (.int 0))), .arg 19904) = true := by
    have q : sc X ρ (107, .add (.sub (.arg 1728) (.arg 19904)) (.add (.elem (.arg 1441) (.int 0)) (.elem (.arg 5153) (.int 0))), .arg 19904) = true := h _ (List.mem_cons_of_mem _ (List.mem_cons_of_mem _ (List.mem_cons_of_mem _ (List.mem_cons_of_mem _ (List.mem_cons_of_mem _ (List.mem_cons_of_mem _ (List.mem_cons_self)))))))
    show (List.range (ρ'.1 19904).toInt.toNat).all (fun j => decide (ρ'.2.2.2.1 1441 ((ρ'.1 1728 - ρ'.1 19904).toInt.toNat + j) = ρ'.2.2.2.1 5153 j)) = true
    rw [e1, e2, a3, a4]
    exact q
  exact fcn x0 (fcn x1 (fcn x2 (fcn x3 (fcn x4 (fcn x5 (fcn x6 (fun f hf => by cases hf)))))))
noncomputable def f_inf1 : sFs := [((2, .arg 19936, .int 0), false), ((2, .int 8, .arg 19936), false), ((2, .arg 1760, .int 0), false), ((2, .int 8, .arg 1760), false), ((2, .arg 1760, .arg 19936), false), ((106, .add (.sub (.arg 1760) (.arg 19936)) (.add (.elem (.arg 1600) (.int 0)) (.elem (.arg 19776) (.int 0))), .arg 19936), true), ((107, .add (.sub (.arg 1760) (.arg 19936)) (.add (.elem (.arg 1473) (.int 0)) (.elem (.arg 5185) (.int 0))), .arg 19936), true)]
theorem inf_1 {ρ ρ' : sR} (e1 : ρ'.1 19936 = ρ.1 19936) (e2 : ρ'.1 1760 = ρ.1 1760) (a1 : ρ'.2.2.1 1600 = ρ.2.2.1 1600) (a2 : ρ'.2.2.1 19776 = ρ.2.2.1 19776) (a3 : ρ'.2.2.2.1 1473 = ρ.2.2.2.1 1473) (a4 : ρ'.2.2.2.1 5185 = ρ.2.2.2.1 5185) (h : fall X ρ f_inf1) : fall X ρ' f_inf1 := by
  have x0 : sc X ρ' (2, .arg 19936, .int 0) = false := by
    have q : sc X ρ (2, .arg 19936, .int 0) = false := h _ (List.mem_cons_self)
    show decide (ρ'.1 19936 < 0) = false
    rw [e1]
    exact q
  have x1 : sc X ρ' (2, .int 8, .arg 19936) = false := by
    have q : sc X ρ (2, .int 8, .arg 19936) = false := h _ (List.mem_cons_of_mem _ (List.mem_cons_self))
    show decide ((8 : Int32) < ρ'.1 19936) = false
    rw [e1]
    exact q
  have x2 : sc X ρ' (2, .arg 1760, .int 0) = false := by
    have q : sc X ρ (2, .arg 1760, .int 0) = false := h _ (List.mem_cons_of_mem _ (List.mem_cons_of_mem _ (List.mem_cons_self)))
    show decide (ρ'.1 1760 < 0) = false
    rw [e2]
    exact q
  have x3 : sc X ρ' (2, .int 8, .arg 1760) = false := by
    have q : sc X ρ (2, .int 8, .arg 1760) = false := h _ (List.mem_cons_of_mem _ (List.mem_cons_of_mem _ (List.mem_cons_of_mem _ (List.mem_cons_self))))
    show decide ((8 : Int32) < ρ'.1 1760) = false
    rw [e2]
    exact q
  have x4 : sc X ρ' (2, .arg 1760, .arg 19936) = false := by
    have q : sc X ρ (2, .arg 1760, .arg 19936) = false := h _ (List.mem_cons_of_mem _ (List.mem_cons_of_mem _ (List.mem_cons_of_mem _ (List.mem_cons_of_mem _ (List.mem_cons_self)))))
    show decide (ρ'.1 1760 < ρ'.1 19936) = false
    rw [e2, e1]
    exact q
  have x5 : sc X ρ' (106, .add (.sub (.arg 1760) (.arg 19936)) (.add (.elem (.arg 1600) (.int 0)) (.elem (.arg 19776) (.int 0))), .arg 19936) = true := by
    have q : sc X ρ (106, .add (.sub (.arg 1760) (.arg 19936)) (.add (.elem (.arg 1600) (.int 0)) (.elem (.arg 19776) (.int 0))), .arg 19936) = true := h _ (List.mem_cons_of_mem _ (List.mem_cons_of_mem _ (List.mem_cons_of_mem _ (List.mem_cons_of_mem _ (List.mem_cons_of_mem _ (List.mem_cons_self))))))
    show (List.range (ρ'.1 19936).toInt.toNat).all (fun j => decide (ρ'.2.2.1 1600 ((ρ'.1 1760 - ρ'.1 19936).toInt.toNat + j) = ρ'.2.2.1 19776 j)) = true
    rw [e1, e2, a1, a2]
    exact q
  have x6 : sc X ρ' (107, .add (.sub (.arg 1760) (.arg 19936)) (.add (.elem (.arg 1473) (.int 0)) (.elem (.arg 5185) (.int 0))), .arg 19936) = true := by
    have q : sc X ρ (107, .add (.sub (.arg 1760) (.arg 19936)) (.add (.elem (.arg 1473) (.int 0)) (.elem (.arg 5185) (.int 0))), .arg 19936) = true := h _ (List.mem_cons_of_mem _ (List.mem_cons_of_mem _ (List.mem_cons_of_mem _ (List.mem_cons_of_mem _ (List.mem_cons_of_mem _ (List.mem_cons_of_mem _ (List.mem_cons_self)))))))
    show (List.range (ρ'.1 19936).toInt.toNat).all (fun j => decide (ρ'.2.2.2.1 1473 ((ρ'.1 1760 - ρ'.1 19936).toInt.toNat + j) = ρ'.2.2.2.1 5185 j)) = true
    rw [e1, e2, a3, a4]
    exact q
  exact fcn x0 (fcn x1 (fcn x2 (fcn x3 (fcn x4 (fcn x5 (fcn x6 (fun f hf => by cases hf)))))))
noncomputable def f_inf2 : sFs := [((2, .arg 19968, .int 0), false), ((2, .int 8, .arg 19968), false), ((2, .arg 1792, .int 0), false), ((2, .int 8, .arg 1792), false), ((2, .arg 1792, .arg 19968), false), ((106, .add (.sub (.arg 1792) (.arg 19968)) (.add (.elem (.arg 1632) (.int 0)) (.elem (.arg 19808) (.int 0))), .arg 19968), true), ((107, .add (.sub (.arg 1792) (.arg 19968)) (.add (.elem (.arg 1505) (.int 0)) (.elem (.arg 5217) (.int 0))), .arg 19968), true)]
theorem inf_2 {ρ ρ' : sR} (e1 : ρ'.1 19968 = ρ.1 19968) (e2 : ρ'.1 1792 = ρ.1 1792) (a1 : ρ'.2.2.1 1632 = ρ.2.2.1 1632) (a2 : ρ'.2.2.1 19808 = ρ.2.2.1 19808) (a3 : ρ'.2.2.2.1 1505 = ρ.2.2.2.1 1505) (a4 : ρ'.2.2.2.1 5217 = ρ.2.2.2.1 5217) (h : fall X ρ f_inf2) : fall X ρ' f_inf2 := by
  have x0 : sc X ρ' (2, .arg 19968, .int 0) = false := by
    have q : sc X ρ (2, .arg 19968, .int 0) = false := h _ (List.mem_cons_self)
    show decide (ρ'.1 19968 < 0) = false
    rw [e1]
    exact q
  have x1 : sc X ρ' (2, .int 8, .arg 19968) = false := by
    have q : sc X ρ (2, .int 8, .arg 19968) = false := h _ (List.mem_cons_of_mem _ (List.mem_cons_self))
    show decide ((8 : Int32) < ρ'.1 19968) = false
    rw [e1]
    exact q
  have x2 : sc X ρ' (2, .arg 1792, .int 0) = false := by
    have q : sc X ρ (2, .arg 1792, .int 0) = false := h _ (List.mem_cons_of_mem _ (List.mem_cons_of_mem _ (List.mem_cons_self)))
    show decide (ρ'.1 1792 < 0) = false
    rw [e2]
    exact q
  have x3 : sc X ρ' (2, .int 8, .arg 1792) = false := by
    have q : sc X ρ (2, .int 8, .arg 1792) = false := h _ (List.mem_cons_of_mem _ (List.mem_cons_of_mem _ (List.mem_cons_of_mem _ (List.mem_cons_self))))
    show decide ((8 : Int32) < ρ'.1 1792) = false
    rw [e2]
    exact q
  have x4 : sc X ρ' (2, .arg 1792, .arg 19968) = false := by
    have q : sc X ρ (2, .arg 1792, .arg 19968) = false := h _ (List.mem_cons_of_mem _ (List.mem_cons_of_mem _ (List.mem_cons_of_mem _ (List.mem_cons_of_mem _ (List.mem_cons_self)))))
    show decide (ρ'.1 1792 < ρ'.1 19968) = false
    rw [e2, e1]
    exact q
  have x5 : sc X ρ' (106, .add (.sub (.arg 1792) (.arg 19968)) (.add (.elem (.arg 1632) (.int 0)) (.elem (.arg 19808) (.int 0))), .arg 19968) = true := by
    have q : sc X ρ (106, .add (.sub (.arg 1792) (.arg 19968)) (.add (.elem (.arg 1632) (.int 0)) (.elem (.arg 19808) (.int 0))), .arg 19968) = true := h _ (List.mem_cons_of_mem _ (List.mem_cons_of_mem _ (List.mem_cons_of_mem _ (List.mem_cons_of_mem _ (List.mem_cons_of_mem _ (List.mem_cons_self))))))
    show (List.range (ρ'.1 19968).toInt.toNat).all (fun j => decide (ρ'.2.2.1 1632 ((ρ'.1 1792 - ρ'.1 19968).toInt.toNat + j) = ρ'.2.2.1 19808 j)) = true
    rw [e1, e2, a1, a2]
    exact q
  have x6 : sc X ρ' (107, .add (.sub (.arg 1792) (.arg 19968)) (.add (.elem (.arg 1505) (.int 0)) (.elem (.arg 5217) (.int 0))), .arg 19968) = true := by
    have q : sc X ρ (107, .add (.sub (.arg 1792) (.arg 19968)) (.add (.elem (.arg 1505) (.int 0)) (.elem (.arg 5217) (.int 0))), .arg 19968) = true := h _ (List.mem_cons_of_mem _ (List.mem_cons_of_mem _ (List.mem_cons_of_mem _ (List.mem_cons_of_mem _ (List.mem_cons_of_mem _ (List.mem_cons_of_mem _ (List.mem_cons_self)))))))
    show (List.range (ρ'.1 19968).toInt.toNat).all (fun j => decide (ρ'.2.2.2.1 1505 ((ρ'.1 1792 - ρ'.1 19968).toInt.toNat + j) = ρ'.2.2.2.1 5217 j)) = true
    rw [e1, e2, a3, a4]
    exact q
  exact fcn x0 (fcn x1 (fcn x2 (fcn x3 (fcn x4 (fcn x5 (fcn x6 (fun f hf => by cases hf)))))))
noncomputable def f_inf3 : sFs := [((2, .arg 20000, .int 0), false), ((2, .int 8, .arg 20000), false), ((2, .arg 1824, .int 0), false), ((2, .int 8, .arg 1824), false), ((2, .arg 1824, .arg 20000), false), ((106, .add (.sub (.arg 1824) (.arg 20000)) (.add (.elem (.arg 1664) (.int 0)) (.elem (.arg 19840) (.int 0))), .arg 20000), true), ((107, .add (.sub (.arg 1824) (.arg 20000)) (.add (.elem (.arg 1537) (.int 0)) (.elem (.arg 5249) (.int 0))), .arg 20000), true)]
theorem inf_3 {ρ ρ' : sR} (e1 : ρ'.1 20000 = ρ.1 20000) (e2 : ρ'.1 1824 = ρ.1 1824) (a1 : ρ'.2.2.1 1664 = ρ.2.2.1 1664) (a2 : ρ'.2.2.1 19840 = ρ.2.2.1 19840) (a3 : ρ'.2.2.2.1 1537 = ρ.2.2.2.1 1537) (a4 : ρ'.2.2.2.1 5249 = ρ.2.2.2.1 5249) (h : fall X ρ f_inf3) : fall X ρ' f_inf3 := by
  have x0 : sc X ρ' (2, .arg 20000, .int 0) = false := by
    have q : sc X ρ (2, .arg 20000, .int 0) = false := h _ (List.mem_cons_self)
    show decide (ρ'.1 20000 < 0) = false
    rw [e1]
    exact q
  have x1 : sc X ρ' (2, .int 8, .arg 20000) = false := by
    have q : sc X ρ (2, .int 8, .arg 20000) = false := h _ (List.mem_cons_of_mem _ (List.mem_cons_self))
    show decide ((8 : Int32) < ρ'.1 20000) = false
    rw [e1]
    exact q
  have x2 : sc X ρ' (2, .arg 1824, .int 0) = false := by
    have q : sc X ρ (2, .arg 1824, .int 0) = false := h _ (List.mem_cons_of_mem _ (List.mem_cons_of_mem _ (List.mem_cons_self)))
    show decide (ρ'.1 1824 < 0) = false
    rw [e2]
    exact q
  have x3 : sc X ρ' (2, .int 8, .arg 1824) = false := by
    have q : sc X ρ (2, .int 8, .arg 1824) = false := h _ (List.mem_cons_of_mem _ (List.mem_cons_of_mem _ (List.mem_cons_of_mem _ (List.mem_cons_self))))
    show decide ((8 : Int32) < ρ'.1 1824) = false
    rw [e2]
    exact q
  have x4 : sc X ρ' (2, .arg 1824, .arg 20000) = false := by
    have q : sc X ρ (2, .arg 1824, .arg 20000) = false := h _ (List.mem_cons_of_mem _ (List.mem_cons_of_mem _ (List.mem_cons_of_mem _ (List.mem_cons_of_mem _ (List.mem_cons_self)))))
    show decide (ρ'.1 1824 < ρ'.1 20000) = false
    rw [e2, e1]
    exact q
  have x5 : sc X ρ' (106, .add (.sub (.arg 1824) (.arg 20000)) (.add (.elem (.arg 1664) (.int 0)) (.elem (.arg 19840) (.int 0))), .arg 20000) = true := by
    have q : sc X ρ (106, .add (.sub (.arg 1824) (.arg 20000)) (.add (.elem (.arg 1664) (.int 0)) (.elem (.arg 19840) (.int 0))), .arg 20000) = true := h _ (List.mem_cons_of_mem _ (List.mem_cons_of_mem _ (List.mem_cons_of_mem _ (List.mem_cons_of_mem _ (List.mem_cons_of_mem _ (List.mem_cons_self))))))
    show (List.range (ρ'.1 20000).toInt.toNat).all (fun j => decide (ρ'.2.2.1 1664 ((ρ'.1 1824 - ρ'.1 20000).toInt.toNat + j) = ρ'.2.2.1 19840 j)) = true
    rw [e1, e2, a1, a2]
    exact q
  have x6 : sc X ρ' (107, .add (.sub (.arg 1824) (.arg 20000)) (.add (.elem (.arg 1537) (.int 0)) (.elem (.arg 5249) (.int 0))), .arg 20000) = true := by
    have q : sc X ρ (107, .add (.sub (.arg 1824) (.arg 20000)) (.add (.elem (.arg 1537) (.int 0)) (.elem (.arg 5249) (.int 0))), .arg 20000) = true := h _ (List.mem_cons_of_mem _ (List.mem_cons_of_mem _ (List.mem_cons_of_mem _ (List.mem_cons_of_mem _ (List.mem_cons_of_mem _ (List.mem_cons_of_mem _ (List.mem_cons_self)))))))
    show (List.range (ρ'.1 20000).toInt.toNat).all (fun j => decide (ρ'.2.2.2.1 1537 ((ρ'.1 1824 - ρ'.1 20000).toInt.toNat + j) = ρ'.2.2.2.1 5249 j)) = true
    rw [e1, e2, a3, a4]
    exact q
  exact fcn x0 (fcn x1 (fcn x2 (fcn x3 (fcn x4 (fcn x5 (fcn x6 (fun f hf => by cases hf)))))))
end GHS
